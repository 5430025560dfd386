theorem WR_dr {P : Nat} {w : S2} {n : S1} (h : WR P w n) {g j : Nat} (hg : n 23 = nI g) (hg4 : g ≤ 4) (hj : j ≤ g) (hP : P ≤ 5) : WR P (va_up w 0 (upd (w 0) 4 (nI j))) (upd n 23 (nI j)) := by
  obtain ⟨h0, h1, h2, h3, h4, h5, h6, h7, h8, h9⟩ := h
  have e : ∀ i, i ≠ 23 → upd n 23 (nI j) i = n i := fun i hi => z_upd_ne _ _ hi
  refine ⟨h0, h1.trans (e _ (by omega)).symm, h2.trans (e _ (by omega)).symm, fun q => (h3 q).trans (e _ (by omega)).symm, h4, ?_, h6.trans (e _ (by omega)).symm, fun p hp => ?_, fun i hi => ?_, fun i hi => ?_⟩
  · rw [z_upd_same]; rfl
  · obtain ⟨a, b, c, d⟩ := h7 p hp
    exact ⟨a.trans (e _ (by omega)).symm, b.trans (e _ (by omega)).symm, c.trans (e _ (by omega)).symm, d.trans (e _ (by omega)).symm⟩
  · rw [z_upd_same, z_cl (by omega)] at hi
    rw [e _ (by omega)]; exact h8 i (by rw [hg, z_cl (by omega)]; omega)
  · rw [e 44 (by omega)] at hi; rw [e _ (by omega), e _ (by omega)]; exact h9 i hi
theorem Vl_dr {P : Nat} {n : S1} (v : Vl P n) {g j : Nat} (hg : n 23 = nI g) (hj : j ≤ g) (hg4 : g ≤ 4) : Vl P (upd n 23 (nI j)) := by
  obtain ⟨hP, h1, h2, ⟨g', g4, hg', hgi⟩, ⟨s, s6, hs, hsi⟩, h5⟩ := v
  have e : ∀ i, i ≠ 23 → upd n 23 (nI j) i = n i := fun i hi => z_upd_ne _ _ hi
  have eg : g' = g := (nI_eq (by omega) (by omega)).mp (hg'.symm.trans hg)
  subst eg
  refine ⟨hP, fun q => (e _ (by omega)).trans (h1 q), fun q => ?_, ⟨j, by omega, z_upd_same _ _ _, fun i hi => ?_⟩, ⟨s, s6, (e _ (by omega)).trans hs, fun i hi => ?_⟩, fun p hp => ?_⟩
  · rw [e _ (by omega)]; exact h2 q
  · rw [e _ (by omega), e _ (by omega)]; exact hgi i (by omega)
  · rw [e _ (by omega)]; exact hsi i hi
  · rw [e _ (by omega)]; exact h5 p hp
theorem L_drop {P : Nat} {o : S3} {mo : S2} {lo : SL} (I : IVp P o mo) (p1 : Int32) : w_X3_drop p1 o (fun r o' => w_X4_drop p1 mo lo (fun r2 mo' _ => r = r2 ∧ IV o' mo')) := by
  have hP := I.2.1.1.1
  obtain ⟨g, g4, hg, hgi⟩ := I.2.1.1.2.2.2.1
  have w := I.2.1.2.1
  have e4 : o 1 0 4 = nI g := w.2.2.2.2.2.1.trans hg
  unfold w_X3_drop
  simp only [nm]
  rw [e4]
  refine b_wz (fun hb => br_pos rfl ?_) (fun h1 => br_neg n10 ?_)
  · unfold w_X4_drop
    rw [tn_23, hg]
    exact b_inz (b := 0) (fun _ => br_pos rfl ⟨rfl, P, I⟩) (fun h => absurd h hb)
  · obtain ⟨j, hj, rfl⟩ := r_of (by omega) h1
    unfold w_X4_drop
    rw [tn_23, hg]
    refine b_inz (b := 0) (fun h => absurd h1 h) (fun _ => br_neg n10 (b_becomes (j := 23) (by omega) ⟨hg.symm, P, ?_⟩))
    refine eqM_1 I ⟨Vl_dr I.2.1.1 hg hj g4, WR_dr w hg g4 hj hP, ?_⟩ (fun i hi => z_upd_ne _ _ (by omega))
    rw [z_upd_ne _ _ (by omega)]; exact I.2.1.2.2
theorem WR_fo {P : Nat} {w : S2} {n : S1} (h : WR P w n) {g j : Nat} (hg : n 44 = nI g) (hg4 : g ≤ 6) (hj : j ≤ g) (hP : P ≤ 5) {c : Nat} (hc : n 23 = nI c) (hc4 : c ≤ 4) : WR P (va_up w 0 (upd (w 0) 5 (nI j))) (upd n 44 (nI j)) := by
  obtain ⟨h0, h1, h2, h3, h4, h5, h6, h7, h8, h9⟩ := h
  have e : ∀ i, i ≠ 44 → upd n 44 (nI j) i = n i := fun i hi => z_upd_ne _ _ hi
  refine ⟨h0, h1.trans (e _ (by omega)).symm, h2.trans (e _ (by omega)).symm, fun q => (h3 q).trans (e _ (by omega)).symm, h4, h5.trans (e _ (by omega)).symm, ?_, fun p hp => ?_, fun i hi => ?_, fun i hi => ?_⟩
  · rw [z_upd_same]; rfl
  · obtain ⟨a, b, c, d⟩ := h7 p hp
    exact ⟨a.trans (e _ (by omega)).symm, b.trans (e _ (by omega)).symm, c.trans (e _ (by omega)).symm, d.trans (e _ (by omega)).symm⟩
  · rw [e 23 (by omega)] at hi
    have hi2 := hi
    rw [hc, z_cl (by omega)] at hi2
    rw [e _ (by omega)]; exact h8 i hi
  · rw [z_upd_same, z_cl (by omega)] at hi
    rw [e _ (by omega), e _ (by omega)]; exact h9 i (by rw [hg, z_cl (by omega)]; omega)
theorem Vl_fo {P : Nat} {n : S1} (v : Vl P n) {g j : Nat} (hg : n 44 = nI g) (hj : j ≤ g) (hg4 : g ≤ 6) : Vl P (upd n 44 (nI j)) := by
  obtain ⟨hP, h1, h2, ⟨c, c4, hc, hci⟩, ⟨s, s6, hs, hsi⟩, h5⟩ := v
  have e : ∀ i, i ≠ 44 → upd n 44 (nI j) i = n i := fun i hi => z_upd_ne _ _ hi
  have eg : s = g := (nI_eq (by omega) (by omega)).mp (hs.symm.trans hg)
  subst eg
  refine ⟨hP, fun q => (e _ (by omega)).trans (h1 q), fun q => ?_, ⟨c, c4, (e _ (by omega)).trans hc, fun i hi => ?_⟩, ⟨j, by omega, z_upd_same _ _ _, fun i hi => ?_⟩, fun p hp => ?_⟩
  · rw [e _ (by omega)]; exact h2 q
  · rw [e _ (by omega), e _ (by omega)]; exact hci i hi
  · rw [e _ (by omega)]; exact hsi i (by omega)
  · rw [e _ (by omega)]; exact h5 p hp
theorem L_forget {P : Nat} {o : S3} {mo : S2} {lo : SL} (I : IVp P o mo) (p1 : Int32) : w_X3_forget p1 o (fun r o' => w_X4_forget p1 mo lo (fun r2 mo' _ => r = r2 ∧ IV o' mo')) := by
  have hP := I.2.1.1.1
  obtain ⟨c, c4, hc, -⟩ := I.2.1.1.2.2.2.1
  obtain ⟨g, g6, hg, hgi⟩ := I.2.1.1.2.2.2.2.1
  have w := I.2.1.2.1
  have e4 : o 1 0 5 = nI g := w.2.2.2.2.2.2.1.trans hg
  unfold w_X3_forget
  simp only [nm]
  rw [e4]
  refine b_wz (fun hb => br_pos rfl ?_) (fun h1 => br_neg n10 ?_)
  · unfold w_X4_forget
    rw [tn_44, hg]
    exact b_inz (b := 0) (fun _ => br_pos rfl ⟨rfl, P, I⟩) (fun h => absurd h hb)
  · obtain ⟨j, hj, rfl⟩ := r_of (by omega) h1
    unfold w_X4_forget
    rw [tn_44, hg]
    refine b_inz (b := 0) (fun h => absurd h1 h) (fun _ => br_neg n10 (b_becomes (j := 44) (by omega) ⟨hg.symm, P, ?_⟩))
    refine eqM_1 I ⟨Vl_fo I.2.1.1 hg hj g6, WR_fo w hg g6 hj hP hc c4, ?_⟩ (fun i hi => z_upd_ne _ _ (by omega))
    rw [z_upd_ne _ _ (by omega)]; exact I.2.1.2.2
/-- the row with a gift more -/
def ggS (n : S1) (g : Nat) (a b c d : Int32) : S1 := upd (upd (upd (upd (upd n (24 + 4 * g) a) (25 + 4 * g) b) (26 + 4 * g) c) (27 + 4 * g) d) 23 (nI (g + 1))
theorem gg_out {n : S1} {g : Nat} {a b c d : Int32} {j : Nat} (h : j ≠ 23 ∧ (j < 24 + 4 * g ∨ 28 + 4 * g ≤ j)) : ggS n g a b c d j = n j := by
  unfold ggS; rw [z_upd_ne _ _ (by omega), z_upd_ne _ _ (by omega), z_upd_ne _ _ (by omega), z_upd_ne _ _ (by omega), z_upd_ne _ _ (by omega)]
theorem gg_23 {n : S1} {g : Nat} {a b c d : Int32} : ggS n g a b c d 23 = nI (g + 1) := z_upd_same _ _ _
theorem gg_a {n : S1} {g : Nat} {a b c d : Int32} : ggS n g a b c d (24 + 4 * g) = a := by
  unfold ggS; rw [z_upd_ne _ _ (by omega), z_upd_ne _ _ (by omega), z_upd_ne _ _ (by omega), z_upd_ne _ _ (by omega), z_upd_same]
theorem gg_b {n : S1} {g : Nat} {a b c d : Int32} : ggS n g a b c d (25 + 4 * g) = b := by
  unfold ggS; rw [z_upd_ne _ _ (by omega), z_upd_ne _ _ (by omega), z_upd_ne _ _ (by omega), z_upd_same]
theorem gg_c {n : S1} {g : Nat} {a b c d : Int32} : ggS n g a b c d (26 + 4 * g) = c := by
  unfold ggS; rw [z_upd_ne _ _ (by omega), z_upd_ne _ _ (by omega), z_upd_same]
theorem gg_d {n : S1} {g : Nat} {a b c d : Int32} : ggS n g a b c d (27 + 4 * g) = d := by
  unfold ggS; rw [z_upd_ne _ _ (by omega), z_upd_same]
theorem Vl_gg {P : Nat} {n : S1} (v : Vl P n) {g p r : Nat} (hg : n 23 = nI g) (hg4 : g < 4) (hp : p < P) (hr : r < P) (a d : Int32) : Vl P (ggS n g a (nI p) (nI r) d) := by
  obtain ⟨hP, h1, h2, ⟨g', g4, hg', hgi⟩, ⟨s, s6, hs, hsi⟩, h5⟩ := v
  have eg : g' = g := (nI_eq (by omega) (by omega)).mp (hg'.symm.trans hg)
  subst eg
  refine ⟨hP, fun q => (gg_out (by omega)).trans (h1 q), fun q => ?_, ⟨g' + 1, by omega, gg_23, fun i hi => ?_⟩, ⟨s, s6, (gg_out (by omega)).trans hs, fun i hi => ?_⟩, fun p hp => ?_⟩
  · rw [gg_out (by omega)]; exact h2 q
  · by_cases e : i = g'
    · subst e; exact ⟨⟨p, hp, gg_b⟩, r, hr, gg_c⟩
    · rw [gg_out (by omega), gg_out (by omega)]; exact hgi i (by omega)
  · rw [gg_out (by omega)]; exact hsi i hi
  · rw [gg_out (by omega)]; exact h5 p hp
/-- the world with a gift more -/
theorem b_addGift {P : Nat} {w : S2} {n : S1} {g : Nat} {a b c d : Int32} {K : Int32 → S2 → Prop} (h : WR P w n) (v : Vl P n) (hg : n 23 = nI g) (hg4 : g ≤ 4) (k0 : g = 4 → K 0 w) (k1 : g < 4 → ∀ w', WR P w' (ggS n g a b c d) → K 1 w') : w_X2_addGift a b c d w K := by
  have hP := v.1
  obtain ⟨s, s6, hs, -⟩ := v.2.2.2.2.1
  obtain ⟨h0, h1, h2, h3, h4, h5, h6, h7, h8, h9⟩ := h
  have e4 : w 0 4 = nI g := h5.trans hg
  unfold w_X2_addGift
  simp only [nm]
  rw [e4]
  refine br_in (fun q => ?_) (fun q => ?_)
  · have gl : g < 4 := (nI_ltI (b := 4) (by omega) (by omega)).mp q
    rw [show nI g * 4 = nI (4 * g) by rw [show (4 : Int32) = nI 4 from rfl, z_mul, Nat.mul_comm], show nI (4 * g) + 1 = nI (4 * g + 1) from z_add _ 1, show nI (4 * g) + 2 = nI (4 * g + 2) from z_add _ 2, show nI (4 * g) + 3 = nI (4 * g + 3) from z_add _ 3, z_cl (n := 4 * g) (by omega), z_cl (n := 4 * g + 1) (by omega), z_cl (n := 4 * g + 2) (by omega), z_cl (n := 4 * g + 3) (by omega)]
    refine ⟨z_in (by omega) (by omega), z_in (by omega) (by omega), z_in (by omega) (by omega), z_in (by omega) (by omega), k1 gl _ ⟨h0, h1.trans (gg_out (by omega)).symm, h2.trans (gg_out (by omega)).symm, fun q => (h3 q).trans (gg_out (by omega)).symm, h4, ?_, h6.trans (gg_out (by omega)).symm, fun p hp => ?_, fun j hj => ?_, fun i hi => ?_⟩⟩
    · rw [gg_23, ← nI_1, ← e4]; rfl
    · obtain ⟨a, b, c, d⟩ := h7 p hp
      exact ⟨a.trans (gg_out (by omega)).symm, b.trans (gg_out (by omega)).symm, c.trans (gg_out (by omega)).symm, d.trans (gg_out (by omega)).symm⟩
    · rw [gg_23, z_cl (by omega)] at hj
      show upd (upd (upd (upd (w 5) (4 * g) a) (4 * g + 1) b) (4 * g + 2) c) (4 * g + 3) d j = _
      by_cases j3 : j = 4 * g + 3
      · rw [j3, z_upd_same, show 24 + (4 * g + 3) = 27 + 4 * g by omega, gg_d]
      · rw [z_upd_ne _ _ j3]
        by_cases j2 : j = 4 * g + 2
        · rw [j2, z_upd_same, show 24 + (4 * g + 2) = 26 + 4 * g by omega, gg_c]
        · rw [z_upd_ne _ _ j2]
          by_cases j1 : j = 4 * g + 1
          · rw [j1, z_upd_same, show 24 + (4 * g + 1) = 25 + 4 * g by omega, gg_b]
          · rw [z_upd_ne _ _ j1]
            by_cases j0 : j = 4 * g
            · rw [j0, z_upd_same, gg_a]
            · rw [z_upd_ne _ _ j0, gg_out (by omega)]
              exact h8 j (by rw [hg, z_cl (by omega)]; omega)
    · rw [gg_out (by omega), hs, z_cl (by omega)] at hi
      rw [gg_out (by omega), gg_out (by omega)]; exact h9 i (by rw [hs, z_cl (by omega)]; exact hi)
  · exact k0 (by rcases Nat.lt_or_ge g 4 with z | z
                 · exact absurd (nI_lt (b := 4) z (by omega)) q
                 · omega)
theorem L_give {P : Nat} {o : S3} {mo : S2} {lo : SL} (I : IVp P o mo) (p1 p2 p3 p4 : Int32) : w_X3_give p1 p2 p3 p4 o (fun r o' => w_X4_give p1 p2 p3 p4 mo lo (fun r2 mo' _ => r = r2 ∧ IV o' mo')) := by
  have hP := I.2.1.1.1
  obtain ⟨g, g4, hg, hgi⟩ := I.2.1.1.2.2.2.1
  have w := I.2.1.2.1
  have bad : (¬ (0 ≤ p1 ∧ p1 ≤ 20) ∨ (∀ j, j < P → p2 ≠ nI j) ∨ (∀ j, j < P → p3 ≠ nI j) ∨ p2 = p3 ∨ ¬ (1 ≤ p4 ∧ p4 ≤ 20)) → w_X4_give p1 p2 p3 p4 mo lo (fun r2 mo' _ => (-1 : Int32) = r2 ∧ IV o mo') := by
    intro hb
    unfold w_X4_give
    refine b_inz (b := 0) (c := 20) (fun _ => br_pos rfl ⟨rfl, P, I⟩) (fun h1 => br_neg n10 (b_oz hP I.1 (fun _ => br_pos rfl ⟨rfl, P, I⟩) (fun j hj ej => br_neg n10 (b_oz hP I.1 (fun _ => br_pos rfl ⟨rfl, P, I⟩) (fun i hi ei => br_neg n10 (br_in (fun _ => ⟨rfl, P, I⟩) (fun hne => b_inz (b := 1) (c := 20) (fun _ => br_pos rfl ⟨rfl, P, I⟩) (fun h4 => ?_))))))))
    rcases hb with z | z | z | z | z
    · exact absurd h1 z
    · exact absurd ej (z j hj)
    · exact absurd ei (z i hi)
    · exact absurd z hne
    · exact absurd h4 z
  unfold w_X3_give
  simp only [nm]
  -- the tests of the two behind us
  have tail : ∀ kk : Int32, (kk = 0 ∧ ((∀ j, j < P → p2 ≠ nI j) ∨ (∀ j, j < P → p3 ≠ nI j) ∨ p2 = p3)) ∨ (kk = 1 ∧ (∃ j, j < P ∧ p2 = nI j) ∧ (∃ j, j < P ∧ p3 = nI j) ∧ p2 ≠ p3) → w_X3_within p1 0 20 (fun r7 => br (r7 = 0) (w_X4_give p1 p2 p3 p4 mo lo (fun r2 mo' _ => (-1 : Int32) = r2 ∧ IV o mo')) (br (kk = 0) (w_X4_give p1 p2 p3 p4 mo lo (fun r2 mo' _ => (-1 : Int32) = r2 ∧ IV o mo')) (w_X3_within p4 1 20 (fun r11 => br (r11 = 0) (w_X4_give p1 p2 p3 p4 mo lo (fun r2 mo' _ => (-1 : Int32) = r2 ∧ IV o mo')) (w_X2_addGift p1 p2 p3 p4 (o 1) (fun r15 w14 => br (r15 = 0) (w_X4_give p1 p2 p3 p4 mo lo (fun r2 mo' _ => (-3 : Int32) = r2 ∧ IV (va_up o 1 w14) mo')) (w_X4_give p1 p2 p3 p4 mo lo (fun r2 mo' _ => (va_up o 1 w14) 1 0 4 = r2 ∧ IV (va_up o 1 w14) mo')))))))) := by
    intro kk hkk
    refine b_wz (fun hb => br_pos rfl (bad (Or.inl hb))) (fun h1 => br_neg n10 (br_in (fun q => bad ?_) (fun q => b_wz (fun hb => br_pos rfl (bad (Or.inr (Or.inr (Or.inr (Or.inr hb)))))) (fun h4 => br_neg n10 ?_))))
    · rcases hkk with ⟨-, z⟩ | ⟨z, -⟩
      · exact Or.inr (z.elim Or.inl (fun z => Or.inr (z.elim Or.inl (fun z => Or.inr (Or.inl z)))))
      · rw [z] at q; exact absurd q n10
    · rcases hkk with ⟨z, -⟩ | ⟨-, ⟨j, hj, ej⟩, ⟨i, hi, ei⟩, hne⟩
      · exact absurd z q
      · refine b_addGift w I.2.1.1 hg g4 (fun z => br_pos rfl ?_) (fun gl w' hw' => br_neg n10 ?_)
        · rw [up_self]
          unfold w_X4_give
          refine b_inz (b := 0) (c := 20) (fun h => absurd h1 h) (fun _ => br_neg n10 (b_oz hP I.1 (fun h => absurd ej (h j hj)) (fun _ _ _ => br_neg n10 (b_oz hP I.1 (fun h => absurd ei (h i hi)) (fun _ _ _ => br_neg n10 (br_neg hne (b_inz (b := 1) (c := 20) (fun h => absurd h4 h) (fun _ => br_neg n10 (br_pos ?_ ⟨rfl, P, I⟩)))))))))
          rw [tn_23, hg, z]; rfl
        · unfold w_X4_give
          refine b_inz (b := 0) (c := 20) (fun h => absurd h1 h) (fun _ => br_neg n10 (b_oz hP I.1 (fun h => absurd ej (h j hj)) (fun _ _ _ => br_neg n10 (b_oz hP I.1 (fun h => absurd ei (h i hi)) (fun _ _ _ => br_neg n10 (br_neg hne (b_inz (b := 1) (c := 20) (fun h => absurd h4 h) (fun _ => br_neg n10 (br_neg ?_ ?_)))))))))
          · rw [tn_23, hg]; exact fun z => absurd ((nI_eq (b := 4) (by omega) (by omega)).mp z) (by omega)
          · rw [tn_23, hg]
            rw [show (24 : Int32) + 4 * nI g = nI (24 + 4 * g) by rw [show (4 : Int32) = nI 4 from rfl, z_mul]; exact z_add 24 (4 * g)]
            simp only [nm]
            rw [show nI (24 + 4 * g) + 1 = nI (25 + 4 * g) from (z_add _ 1).trans (by congr 1; omega), show nI (24 + 4 * g) + 2 = nI (26 + 4 * g) from (z_add _ 2).trans (by congr 1; omega), show nI (24 + 4 * g) + 3 = nI (27 + 4 * g) from (z_add _ 3).trans (by congr 1; omega), z_cl (n := 24 + 4 * g) (by omega), z_cl (n := 25 + 4 * g) (by omega), z_cl (n := 26 + 4 * g) (by omega), z_cl (n := 27 + 4 * g) (by omega)]
            simp only [z_upS, z_upU]
            have e23 : upd (upd (upd (upd (mo 1) (24 + 4 * g) p1) (25 + 4 * g) p2) (26 + 4 * g) p3) (27 + 4 * g) p4 23 = nI g := by
              rw [z_upd_ne _ _ (by omega), z_upd_ne _ _ (by omega), z_upd_ne _ _ (by omega), z_upd_ne _ _ (by omega), hg]
            rw [e23, nI_1]
            have ew := hw'.2.2.2.2.2.1
            rw [gg_23] at ew
            refine ⟨z_in (by omega) (by omega), z_in (by omega) (by omega), z_in (by omega) (by omega), z_in (by omega) (by omega), ?_, P, ?_⟩
            · rw [ew, z_upd_same]
            · have vg := Vl_gg I.2.1.1 hg gl hj hi p1 p4
              rw [← ej, ← ei] at vg
              have q20 : ggS (mo 1) g p1 p2 p3 p4 20 = mo 1 20 := gg_out (by omega)
              refine eqM_1 (f' := ggS (mo 1) g p1 p2 p3 p4) I ⟨vg, hw', ?_⟩ (fun x hx => gg_out (by omega))
              rw [q20]; exact I.2.1.2.2
  refine b_hz hP w.1 (fun hb => ?_) (fun j hj ej => ?_)
  · rw [up_self]
    refine jn_in (fun J => ∀ kk : Int32, (kk = 0 ∧ ((∀ j, j < P → p2 ≠ nI j) ∨ (∀ j, j < P → p3 ≠ nI j) ∨ p2 = p3)) ∨ (kk = 1 ∧ (∃ j, j < P ∧ p2 = nI j) ∧ (∃ j, j < P ∧ p3 = nI j) ∧ p2 ≠ p3) → J kk o) tail (fun J hJ => jn_in (fun J2 => J2 o) (hJ 0 (Or.inl ⟨rfl, Or.inl hb⟩)) (fun J2 hJ2 => br_pos rfl hJ2))
  · rw [up_self]
    refine jn_in (fun J => ∀ kk : Int32, (kk = 0 ∧ ((∀ j, j < P → p2 ≠ nI j) ∨ (∀ j, j < P → p3 ≠ nI j) ∨ p2 = p3)) ∨ (kk = 1 ∧ (∃ j, j < P ∧ p2 = nI j) ∧ (∃ j, j < P ∧ p3 = nI j) ∧ p2 ≠ p3) → J kk o) tail (fun J hJ => jn_in (fun J2 => ((∀ j, j < P → p3 ≠ nI j) ∨ p2 = p3) → J2 o) (fun z => hJ 0 (Or.inl ⟨rfl, Or.inr z⟩)) (fun J2 hJ2 => br_neg n10 (b_hz hP w.1 (fun hb => ?_) (fun i hi ei => ?_))))
    · rw [up_self]; exact br_pos rfl (hJ2 (Or.inl hb))
    · rw [up_self]; exact br_neg n10 (br_in (fun q => hJ2 (Or.inr q)) (fun q => hJ 1 (Or.inr ⟨rfl, ⟨j, hj, ej⟩, ⟨i, hi, ei⟩, q⟩)))
