theorem IVp_sheet {P k : Nat} {o : S3} {mo mo' : S2} (I : IVp P o mo) (hk : k < 4) {s' : S2} (hS : IS1 s' mo' k) (hO : ∀ q, q < 4 → q ≠ k → IS1 (o (7 + q)) mo' q) (e0 : mo' 0 = mo 0) (ec : ∀ c, c = 1 ∨ c = 3 ∨ c = 5 → mo' c = mo c) : IVp P (va_up o (7 + k) s') mo' := by
  obtain ⟨i0, i1, i2, i3, i4, i5, i6⟩ := I
  refine ⟨by rw [e0]; exact i0, ?_, ?_, ?_, ?_, ?_, ?_⟩
  · rw [z_upN _ _ (by omega), ec 1 (by omega)]; exact i1
  · intro q hq; rw [z_upN _ _ (by omega), ec 3 (by omega), z_upN _ _ (by omega), ec 1 (by omega)]; exact i2 q hq
  · unfold IT; rw [z_upN _ _ (by omega), e0, ec 5 (by omega)]; exact i3
  · rw [z_upN _ _ (by omega), e0]; exact i4
  · rw [z_upN _ _ (by omega), e0]; exact i5
  · intro q hq
    by_cases e : q = k
    · subst e; rw [z_upS]; exact hS
    · rw [z_upN _ _ (by omega)]; exact hO q hq e
theorem b_renew {a b : Int32} {w : S2} {K : S2 → Prop} (k : ∀ w', w' 0 0 = a → w' 0 1 = b → (∀ i, i < 40 → w' 1 i = 0) → K w') : w_X0_renew a b w K := by
  unfold w_X0_renew
  refine nm_in (nm_in ?_)
  refine lfp2_inv 40 (fun i x w' => x = nI i ∧ w' 0 0 = a ∧ w' 0 1 = b ∧ ∀ j, j < i → w' 1 j = 0) ?_ ?_ (k := 0) (by omega) ⟨rfl, rfl, rfl, fun j hj => absurd hj (by omega)⟩
  · rintro x w' ⟨rfl, h0, h1, h2⟩ G
    exact br_pos (nI_le (Nat.le_refl 40) (by omega)) (k _ h0 h1 h2)
  · rintro i x w' hi ⟨rfl, h0, h1, h2⟩ G hG
    refine br_neg (nI_ge (b := 40) hi (by omega)) ⟨z_in hi (by omega), nm_in (nm_in (hG _ _ ⟨nI_1 i, h0, h1, fun j hj => ?_⟩))⟩
    rw [z_upS, z_cl (by omega)]
    by_cases e : j = i
    · subst e; exact z_upd_same _ _ _
    · rw [z_upd_ne _ _ e]; exact h2 j (by omega)
theorem b_isSheet {a b : Int32} {K : Int32 → Prop} (h0 : ¬ ((0 ≤ a ∧ a ≤ 3) ∧ (0 ≤ b ∧ b ≤ 2)) → K 0) (h1 : 0 ≤ a ∧ a ≤ 3 → 0 ≤ b ∧ b ≤ 2 → K 1) : w_X4_isSheet a b K := by
  unfold w_X4_isSheet
  exact b_inz (b := 0) (c := 3) (fun h => br_pos rfl (h0 (fun z => h z.1))) (fun h => br_neg n10 (b_inz (b := 0) (c := 2) (fun y => br_pos rfl (h0 (fun z => y z.2))) (fun y => br_neg n10 (h1 h y))))
theorem L_sheet {P : Nat} {o : S3} {mo : S2} {lo : SL} (I : IVp P o mo) (p1 p2 p3 : Int32) : w_X3_sheet p1 p2 p3 o (fun r o' => w_X4_sheet p1 p2 p3 mo lo (fun r2 mo' _ => r = r2 ∧ IV o' mo')) := by
  have bad : ¬ ((0 ≤ p1 ∧ p1 ≤ 3) ∧ (0 ≤ p2 ∧ p2 ≤ 2)) → w_X4_sheet p1 p2 p3 mo lo (fun r2 mo' _ => (-1 : Int32) = r2 ∧ IV o mo') := by
    intro hb
    unfold w_X4_sheet
    exact b_isSheet (fun _ => br_pos rfl ⟨rfl, P, I⟩) (fun h1 h2 => absurd ⟨h1, h2⟩ hb)
  unfold w_X3_sheet
  refine b_wz (fun hb => br_pos rfl (bad (fun z => hb z.1))) (fun h1 => br_neg n10 (b_wz (fun hb => br_pos rfl (bad (fun z => hb z.2))) (fun h2 => br_neg n10 (br_in (fun q => br_in (fun q2 => ?_) (fun q2 => ?_)) (fun q => ?_)))))
  · obtain ⟨k, hk, rfl⟩ := r_of (hi := 3) (by omega) h1
    obtain ⟨a, ha, rfl⟩ := r_of (hi := 2) (by omega) h2
    obtain ⟨z, hz, rfl⟩ := r_of (hi := 40) (by omega) ⟨q2, q⟩
    have gk : gi 7 (nI k) = 7 + k := by unfold gi; rw [z_cl (by omega)]
    rw [gk]
    refine ⟨z_in (by omega) (by omega), b_renew (fun w' w0 w1 w2 => nm_in ?_)⟩
    unfold w_X4_sheet
    refine b_isSheet (fun h => absurd ⟨h1, h2⟩ h) (fun _ _ => br_neg n10 (br_pos q (br_pos q2 ⟨z_in (by omega) (by omega), nm_in ⟨z_in (by omega) (by omega), nm_in ?_⟩⟩)))
    rw [z_cl (n := k) (by omega)]
    refine lfp3_inv 40 (fun i x b c => x = nI i ∧ (b 0 = mo 0 ∧ (∀ c, c = 1 ∨ c = 3 ∨ c = 5 → b c = mo c) ∧ b 9 = upd (mo 9) k (nI a) ∧ b 10 = upd (mo 10) k (nI z) ∧ ∀ j, b 11 j = if 40 * k ≤ j ∧ j < 40 * k + i then 0 else mo 11 j) ∧ c = lo) ?_ ?_ (k := 0) (by omega) ⟨rfl, ⟨rfl, fun c h => by rw [z_upN _ _ (by omega), z_upN _ _ (by omega)], rfl, rfl, fun j => by rw [if_neg (by omega)]; rfl⟩, rfl⟩
    · rintro x b c ⟨rfl, ⟨g0, gc, g9, g10, g11⟩, rfl⟩ G
      refine br_pos (nI_le (Nat.le_refl 40) (by omega)) ⟨rfl, P, IVp_sheet I (by omega) ⟨Or.inr ⟨a, z, ha, hz, w0, ?_, w1, ?_⟩, fun i hi => ?_⟩ (fun q hq e => ?_) g0 gc⟩
      · rw [g9, z_upd_same]
      · rw [g10, z_upd_same]
      · rw [w2 i hi, g11, if_pos (by omega)]
      · have := I.2.2.2.2.2.2 q hq
        unfold IS1 at this ⊢
        rw [g9, g10, z_upd_ne _ _ e, z_upd_ne _ _ e]
        refine ⟨this.1, fun i hi => ?_⟩
        rw [g11, if_neg (by omega)]; exact this.2 i hi
    · rintro i x b c hi ⟨rfl, ⟨g0, gc, g9, g10, g11⟩, rfl⟩ G hG
      rw [show (40 : Int32) * nI k + nI i = nI (40 * k + i) by rw [show (40 : Int32) = nI 40 from rfl, z_mul, z_add], z_cl (by omega)]
      refine br_neg (nI_ge (b := 40) hi (by omega)) ⟨z_in (by omega) (by omega), nm_in (nm_in (hG _ _ _ ⟨nI_1 i, ⟨g0, fun c h => by rw [z_upN _ _ (by omega)]; exact gc c h, g9, g10, fun j => ?_⟩, rfl⟩))⟩
      rw [z_upS]
      by_cases e : j = 40 * k + i
      · subst e; rw [z_upd_same, if_pos (by omega)]
      · rw [z_upd_ne _ _ e, g11]
        by_cases y : 40 * k ≤ j ∧ j < 40 * k + i
        · rw [if_pos y, if_pos (by omega)]
        · rw [if_neg y, if_neg (by omega)]
  · unfold w_X4_sheet
    exact b_isSheet (fun h => absurd ⟨h1, h2⟩ h) (fun _ _ => br_neg n10 (br_pos q (br_neg q2 ⟨rfl, P, I⟩)))
  · unfold w_X4_sheet
    exact b_isSheet (fun h => absurd ⟨h1, h2⟩ h) (fun _ _ => br_neg n10 (br_neg q ⟨rfl, P, I⟩))
theorem b_faultAt {x : Int32} {s : S2} {K : Int32 → S2 → Prop} (h1 : s 0 0 = -1 → K 1 s) (h2 : ¬ s 0 0 = -1 → ¬ (0 ≤ x ∧ x ≤ s 0 1 - 1) → K 2 s) (h0 : ¬ s 0 0 = -1 → 0 ≤ x ∧ x ≤ s 0 1 - 1 → K 0 s) : w_X0_faultAt x s K := by
  unfold w_X0_faultAt
  exact br_in h1 (fun q => b_wz (fun y => br_pos rfl (h2 q y)) (fun y => br_neg n10 (h0 q y)))
theorem sz_of {z : Nat} {x : Int32} (hz : z ≤ 40) (h : 0 ≤ x ∧ x ≤ nI z - 1) : ∃ i, i < z ∧ x = nI i := by
  cases z with
  | zero =>
    exfalso
    have h1 := h.1; have h2 := h.2
    rw [z_le] at h1 h2
    rw [show (nI 0 - 1).toInt = -1 by decide] at h2
    rw [show (0 : Int32).toInt = 0 by decide] at h1
    omega
  | succ q =>
    rw [nI_pred] at h
    obtain ⟨j, -, h2, e⟩ := z_of (lo := 0) (hi := q) h.1 h.2 (by omega) (by omega)
    exact ⟨j, by omega, e⟩
theorem m_ne {a : Nat} (h : a < 1000) : ¬ nI a = -1 ∧ ¬ nI a = -4 := ⟨by rw [z_eq, z_tI (by omega), z_tm1]; omega, by rw [z_eq, z_tI (by omega), z_tm4]; omega⟩
theorem L_lay {P : Nat} {o : S3} {mo : S2} {lo : SL} (I : IVp P o mo) (p1 p2 p3 : Int32) : w_X3_lay p1 p2 p3 o (fun r o' => w_X4_lay p1 p2 p3 mo lo (fun r2 mo' _ => r = r2 ∧ IV o' mo')) := by
  unfold w_X3_lay
  refine b_wz (fun hb => br_pos rfl ?_) (fun h1 => br_neg n10 ?_)
  · unfold w_X4_lay
    exact b_isSheet (fun _ => br_pos rfl ⟨rfl, P, I⟩) (fun h _ => absurd h hb)
  · obtain ⟨k, hk, rfl⟩ := r_of (hi := 3) (by omega) h1
    have gk : gi 7 (nI k) = 7 + k := by unfold gi; rw [z_cl (by omega)]
    rw [gk]
    have IS := I.2.2.2.2.2.2 k (by omega)
    have two : (0 : Int32) ≤ 0 ∧ (0 : Int32) ≤ 2 := by decide
    refine ⟨z_in (by omega) (by omega), b_faultAt (fun q => nm_in ?_) (fun q y => nm_in ?_) (fun q y => nm_in ?_)⟩
    · rw [up_self]
      refine br_neg n10 ?_
      rcases IS.1 with ⟨-, e9⟩ | ⟨a, z, ha, hz, ea, -⟩
      · unfold w_X4_lay
        rw [z_cl (by omega)]
        exact b_isSheet (fun h => absurd ⟨h1, two⟩ h) (fun _ _ => br_neg n10 ⟨z_in (by omega) (by omega), br_pos e9 ⟨by decide, P, I⟩⟩)
      · exact absurd (ea.symm.trans q) (m_ne (by omega)).1
    · rw [up_self]
      refine br_neg (by decide) ?_
      rcases IS.1 with ⟨e, -⟩ | ⟨a, z, ha, hz, ea, e9, ez, e10⟩
      · exact absurd e q
      · rw [ez] at y
        unfold w_X4_lay
        rw [z_cl (by omega), e9, e10]
        exact b_isSheet (fun h => absurd ⟨h1, two⟩ h) (fun _ _ => br_neg n10 ⟨z_in (by omega) (by omega), br_neg (m_ne (by omega)).2 ⟨z_in (by omega) (by omega), b_inz (b := 0) (fun _ => br_pos rfl ⟨by decide, P, I⟩) (fun h => absurd h y)⟩⟩)
    · rw [up_self]
      refine br_pos rfl ⟨z_in (by omega) (by omega), ?_⟩
      rcases IS.1 with ⟨e, -⟩ | ⟨a, z, ha, hz, ea, e9, ez, e10⟩
      · exact absurd e q
      · rw [ez] at y
        obtain ⟨i, hi, rfl⟩ := sz_of hz y
        -- both ends
        have fin : ∀ x : Int32, IV (va_up o (7 + k) (va_up (o (7 + k)) 1 (upd (o (7 + k) 1) i x))) (va_up mo 11 (upd (mo 11) (40 * k + i) x)) := fun x => by
          refine ⟨P, IVp_sheet I (by omega) ⟨Or.inr ⟨a, z, ha, hz, ea, e9, ez, e10⟩, fun j hj => ?_⟩ (fun q hq e => ?_) rfl (fun c h => z_upN _ _ (by omega))⟩
          · rw [z_upS, z_upS]
            by_cases e : j = i
            · subst e; rw [z_upd_same, z_upd_same]
            · rw [z_upd_ne _ _ e, z_upd_ne _ _ (by omega)]; exact IS.2 j hj
          · have := I.2.2.2.2.2.2 q hq
            unfold IS1 at this ⊢
            refine ⟨this.1, fun j hj => ?_⟩
            rw [z_upS, z_upd_ne _ _ (by omega)]; exact this.2 j hj
        have md : ∀ (x : Int32) (o' : S3), x = (if a = 0 then p3.toInt8.toInt32 else if a = 1 then p3.toInt16.toInt32 else p3) → IV o' (va_up mo 11 (upd (mo 11) (40 * k + i) x)) → w_X4_lay (nI k) (nI i) p3 mo lo (fun r2 mo' _ => (1 : Int32) = r2 ∧ IV o' mo') := by
          intro x o' hx hI
          unfold w_X4_lay
          rw [z_cl (by omega), e9, e10, show (40 : Int32) * nI k + nI i = nI (40 * k + i) by rw [show (40 : Int32) = nI 40 from rfl, z_mul, z_add], z_cl (by omega)]
          refine b_isSheet (fun h => absurd ⟨h1, two⟩ h) (fun _ _ => br_neg n10 ⟨z_in (by omega) (by omega), br_neg (m_ne (by omega)).2 ⟨z_in (by omega) (by omega), b_inz (b := 0) (fun h => absurd y h) (fun _ => br_neg n10 ⟨z_in (by omega) (by omega), ?_⟩)⟩⟩)
          rcases (show a = 0 ∨ a = 1 ∨ a = 2 by omega) with rfl | rfl | rfl
          · rw [if_pos rfl] at hx
            rw [hx] at hI
            exact br_pos rfl ⟨z_in (by omega) (by omega), nm_in ⟨rfl, hI⟩⟩
          · rw [if_neg (by omega), if_pos rfl] at hx
            rw [hx] at hI
            exact br_neg (by decide) ⟨z_in (by omega) (by omega), br_pos rfl ⟨z_in (by omega) (by omega), nm_in ⟨rfl, hI⟩⟩⟩
          · rw [if_neg (by omega), if_neg (by omega)] at hx
            rw [hx] at hI
            exact br_neg (by decide) ⟨z_in (by omega) (by omega), br_neg (by decide) ⟨z_in (by omega) (by omega), nm_in ⟨rfl, hI⟩⟩⟩
        unfold w_X0_setCell
        rw [ea, z_cl (n := i) (by omega)]
        rcases (show a = 0 ∨ a = 1 ∨ a = 2 by omega) with rfl | rfl | rfl
        · exact br_pos rfl ⟨z_in (by omega) (by omega), nm_in (nm_in (md _ _ (by rw [if_pos rfl]) (fin _)))⟩
        · exact br_neg (by decide) (br_pos rfl ⟨z_in (by omega) (by omega), nm_in (nm_in (md _ _ (by rw [if_neg (by omega), if_pos rfl]) (fin _)))⟩)
        · exact br_neg (by decide) (br_neg (by decide) ⟨z_in (by omega) (by omega), nm_in (nm_in (md _ _ (by rw [if_neg (by omega), if_neg (by omega)]) (fin _)))⟩)
