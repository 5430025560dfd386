theorem IVp_tape {P : Nat} {o : S3} {mo mo' : S2} (I : IVp P o mo) {t' : S2} (hT : IT t' mo') (h2 : t' 0 2 = mo' 0 15) (e0 : ∀ k, k = 3 ∨ k = 27 → mo' 0 k = mo 0 k) (ec : ∀ c, c = 1 ∨ c = 3 ∨ c = 9 ∨ c = 10 ∨ c = 11 → mo' c = mo c) : IVp P (va_up o 6 t') mo' := by
  obtain ⟨i0, i1, i2, i3, i4, i5, i6⟩ := I
  refine ⟨(e0 3 (by omega)).trans i0, ?_, ?_, hT, h2, ?_, ?_⟩
  · rw [z_upN _ _ (by decide), ec 1 (by omega)]; exact i1
  · intro k hk; rw [z_upN _ _ (by decide), ec 3 (by omega), z_upN _ _ (by omega), ec 1 (by omega)]; exact i2 k hk
  · rw [z_upN _ _ (by decide), e0 27 (by omega)]; exact i5
  · intro k hk; unfold IS1; rw [z_upN _ _ (by omega), ec 9 (by omega), ec 10 (by omega), ec 11 (by omega)]; exact i6 k hk
theorem nb128 : ∀ c, c < 128 → (nI c).toInt8.toInt32 = nI c := by decide
theorem L_feed {P : Nat} {o : S3} {mo : S2} {lo : SL} (I : IVp P o mo) (p1 : Int32) : w_X3_feed p1 o (fun r o' => w_X4_feed p1 mo lo (fun r2 mo' _ => r = r2 ∧ IV o' mo')) := by
  obtain ⟨L, hL, t1, m10, ht⟩ := I.2.2.2.1
  unfold w_X3_feed w_X1_addByte
  simp only [nm]
  refine b_wz (fun hb => br_pos rfl ?_) (fun hg => br_neg n10 ?_)
  · unfold w_X4_feed
    exact b_inz (b := 0) (c := 127) (fun _ => br_pos rfl ⟨rfl, P, I⟩) (fun h => absurd h hb)
  · obtain ⟨c, hc, rfl⟩ := r_of (hi := 127) (by omega) hg
    rw [t1]
    refine br_in (fun q => ?_) (fun q => ?_)
    · have hl : L < 160 := (nI_ltI (b := 160) (by omega) (by omega)).mp q
      refine ⟨z_in hl (by omega), br_neg n10 ?_⟩
      unfold w_X4_feed
      refine b_inz (b := 0) (c := 127) (fun h => absurd hg h) (fun _ => br_neg n10 (br_neg ?_ ⟨?_, ?_, P, ?_⟩))
      · rw [m10]; exact fun z => absurd ((nI_eq (b := 160) (by omega) (by omega)).mp z) (by omega)
      · rw [m10]; exact z_in hl (by omega)
      · rw [z_upS, z_upS, z_upS, z_upd_same, z_upd_same, z_upN _ _ (by decide), z_upN _ _ (by decide), t1, m10]
      · rw [vp_nar_byte, nb128 c (by omega), nb128 c (by omega), z_cl (by omega), m10, z_cl (by omega)]
        refine IVp_tape I ⟨L + 1, by omega, ?_, ?_, ?_⟩ ?_ ?_ ?_
        · rw [z_upS, z_upd_same, z_upN _ _ (by decide), t1]; exact nI_1 L
        · rw [z_upS, z_upd_same, z_upN _ _ (by decide), m10]; exact nI_1 L
        · intro j hj
          rw [z_upN _ _ (by decide), z_upS, z_upN _ _ (by decide), z_upS]
          by_cases e : j = L
          · subst e; exact ⟨c, by omega, z_upd_same _ _ _, z_upd_same _ _ _⟩
          · rw [z_upd_ne _ _ e, z_upd_ne _ _ e]; exact ht j (by omega)
        · exact I.2.2.2.2.1
        · intro k hk; rw [z_upS, z_upd_ne _ _ (by omega)]; rfl
        · intro k hk; rw [z_upN _ _ (by omega), z_upN _ _ (by omega)]
    · have hl : L = 160 := by
        rcases Nat.lt_or_ge L 160 with z | z
        · exact absurd (nI_lt (b := 160) z (by omega)) q
        · omega
      refine br_pos trivial ?_
      rw [up_self]
      unfold w_X4_feed
      refine b_inz (b := 0) (c := 127) (fun h => absurd hg h) (fun _ => br_neg n10 (br_pos ?_ ⟨rfl, P, I⟩))
      rw [m10, hl]; rfl
theorem L_end {P : Nat} {o : S3} {mo : S2} {lo : SL} (I : IVp P o mo) (p1 : Int32) : w_X3_end p1 o (fun r o' => w_X4_end p1 mo lo (fun r2 mo' _ => r = r2 ∧ IV o' mo')) := by
  obtain ⟨L, hL, t1, m10, ht⟩ := I.2.2.2.1
  unfold w_X3_end
  simp only [nm]
  rw [t1]
  refine b_wz (fun hb => br_pos rfl ?_) (fun hg => br_neg n10 ?_)
  · unfold w_X4_end
    rw [m10]
    exact b_inz (b := 0) (fun _ => br_pos rfl ⟨rfl, P, I⟩) (fun h => absurd h hb)
  · obtain ⟨j, hj, rfl⟩ := r_of (by omega) hg
    unfold w_X4_end
    rw [m10]
    refine b_inz (b := 0) (fun h => absurd hg h) (fun _ => br_neg n10 ⟨rfl, P, ?_⟩)
    refine IVp_tape I ⟨j, by omega, ?_, ?_, ?_⟩ ?_ ?_ ?_
    · rw [z_upS, z_upd_same]
    · rw [z_upS, z_upd_same]
    · intro i hi; exact ht i (by omega)
    · exact I.2.2.2.2.1
    · intro k hk; rw [z_upS, z_upd_ne _ _ (by omega)]
    · intro k hk; rw [z_upN _ _ (by omega)]
theorem b_holder {P : Nat} {w : S2} {n : S1} {K : Int32 → S2 → Prop} (h : WR P w n) (v : Vl P n) (k : K (n 22) w) : w_X2_holderOrNone w K := by
  have hP := v.1
  unfold w_X2_holderOrNone
  rw [h.1]
  refine br_in (fun q => ?_) (fun q => ?_)
  · have P0 : P = 0 := (nI_eq (b := 0) (by omega) (by omega)).mp q
    rw [v.2.1 P0] at k; exact k
  · have P0 : 0 < P := Nat.pos_of_ne_zero (fun z => q (by rw [z]; rfl))
    rw [h.2.2.2.1 P0]; exact k
def rulS (P : Nat) (n : S1) (p : Int32) : Int32 := if p = 0 then nI P else if p = 1 then n 20 else if p = 2 then n 21 else if p = 3 then n 22 else if p = 4 then smS n 1 P else if p = 5 then rbS n P else if p = 6 then n 23 else -1
theorem nn_lo (mo : S2) {j : Nat} (h : j < 57) : nnS mo j = mo 1 j := fil_lo _ _ h
theorem L_rule {P : Nat} {o : S3} {mo : S2} {lo : SL} (I : IVp P o mo) (p1 : Int32) : w_X3_rule p1 o (fun r o' => w_X4_rule p1 mo lo (fun r2 mo' _ => r = r2 ∧ IV o' mo')) := by
  have hP := I.2.1.1.1
  have v := I.nV
  have w := I.nW
  have md : w_X4_rule p1 mo lo (fun r2 mo' _ => rulS P (nnS mo) p1 = r2 ∧ IV o mo') := by
    unfold w_X4_rule
    refine b_starts ?_
    have fin : ∀ r2 : Int32, rulS P (nnS mo) p1 = r2 → rulS P (nnS mo) p1 = r2 ∧ IV o (va_up mo 2 (fil (mo 1) (mo 2) 57)) := fun r2 h => ⟨h, P, IVp_q I (eqO.rf o) (eqM_starts mo)⟩
    have e3 : (va_up mo 2 (fil (mo 1) (mo 2) 57)) 0 3 = nI P := I.1
    refine br_in (fun q => fin _ ?_) (fun q => br_in (fun q1 => ?_) (fun q1 => br_in (fun q2 => ?_) (fun q2 => br_in (fun q3 => ?_) (fun q3 => br_in (fun q4 => b_mallOf (x := 1) hP e3 (by omega) (fin _ ?_)) (fun q4 => br_in (fun q5 => b_mruined hP e3 (fin _ ?_)) (fun q5 => br_in (fun q6 => fin _ ?_) (fun q6 => fin _ ?_)))))))
    · rw [rulS, if_pos q, e3]
    · rw [show (20 : Int32) + p1 - 1 = nI 20 by rw [q1]; rfl, z_cl (by omega)]
      exact ⟨z_in (by omega) (by omega), fin _ (by rw [rulS, if_neg q, if_pos q1]; exact nn_lo mo (by omega))⟩
    · rw [show (20 : Int32) + p1 - 1 = nI 21 by rw [q2]; rfl, z_cl (by omega)]
      exact ⟨z_in (by omega) (by omega), fin _ (by rw [rulS, if_neg q, if_neg q1, if_pos q2]; exact nn_lo mo (by omega))⟩
    · rw [show (20 : Int32) + p1 - 1 = nI 22 by rw [q3]; rfl, z_cl (by omega)]
      exact ⟨z_in (by omega) (by omega), fin _ (by rw [rulS, if_neg q, if_neg q1, if_neg q2, if_pos q3]; exact nn_lo mo (by omega))⟩
    · rw [rulS, if_neg q, if_neg q1, if_neg q2, if_neg q3, if_pos q4, z_upS]; rfl
    · rw [rulS, if_neg q, if_neg q1, if_neg q2, if_neg q3, if_neg q4, if_pos q5, z_upS]; rfl
    · rw [rulS, if_neg q, if_neg q1, if_neg q2, if_neg q3, if_neg q4, if_neg q5, if_pos q6, tn_23]; exact nn_lo mo (by omega)
    · rw [rulS, if_neg q, if_neg q1, if_neg q2, if_neg q3, if_neg q4, if_neg q5, if_neg q6]
  have fin : ∀ r : Int32, r = rulS P (nnS mo) p1 → w_X4_rule p1 mo lo (fun r2 mo' _ => r = r2 ∧ IV o mo') := by rintro r rfl; exact md
  unfold w_X3_rule
  simp only [nm]
  refine br_in (fun q => fin _ ?_) (fun q => br_in (fun q1 => fin _ ?_) (fun q1 => br_in (fun q2 => fin _ ?_) (fun q2 => br_in (fun q3 => b_holder w v ?_) (fun q3 => br_in (fun q4 => b_meansOfAll w hP ?_) (fun q4 => br_in (fun q5 => b_ruinedBits w hP ?_) (fun q5 => br_in (fun q6 => fin _ ?_) (fun q6 => fin _ ?_)))))))
  · rw [rulS, if_pos q]; exact w.1
  · rw [rulS, if_neg q, if_pos q1]; exact w.2.1
  · rw [rulS, if_neg q, if_neg q1, if_pos q2]; exact w.2.2.1
  · rw [up_self]; exact fin _ (by rw [rulS, if_neg q, if_neg q1, if_neg q2, if_pos q3])
  · rw [up_self]; exact fin _ (by rw [rulS, if_neg q, if_neg q1, if_neg q2, if_neg q3, if_pos q4])
  · rw [up_self]; exact fin _ (by rw [rulS, if_neg q, if_neg q1, if_neg q2, if_neg q3, if_neg q4, if_pos q5])
  · rw [rulS, if_neg q, if_neg q1, if_neg q2, if_neg q3, if_neg q4, if_neg q5, if_pos q6]; exact w.2.2.2.2.2.1
  · rw [rulS, if_neg q, if_neg q1, if_neg q2, if_neg q3, if_neg q4, if_neg q5, if_neg q6]
theorem b_bringsTo {P : Nat} {w : S2} {n : S1} {p : Nat} {K : Int32 → S2 → Prop} (h : WR P w n) (hP : P ≤ 5) (hp : p < P) (k : K (brS P n p) w) : w_X2_bringsTo (nI p) w K := by
  unfold w_X2_bringsTo
  unfold brS at k
  refine b_tradeBrings h hP hp ?_
  rw [h.2.2.2.1 (by omega)]
  refine br_in (fun q => b_coinBrings h hP hp ?_) (fun q => ?_)
  · rw [if_pos q.symm] at k; exact k
  · rw [if_neg (fun z => q z.symm)] at k; exact k
theorem L_one {P : Nat} {o : S3} {mo : S2} {lo : SL} (I : IVp P o mo) (p1 p2 : Int32) : w_X3_one p1 p2 o (fun r o' => w_X4_one p1 p2 mo lo (fun r2 mo' _ => r = r2 ∧ IV o' mo')) := by
  have hP := I.2.1.1.1
  have v := I.nV
  have w := I.nW
  have bad : ((∀ j, j < P → p1 ≠ nI j) ∨ ¬ (0 ≤ p2 ∧ p2 ≤ 4)) → w_X4_one p1 p2 mo lo (fun r2 mo' _ => (-1 : Int32) = r2 ∧ IV o mo') := by
    intro hbad
    unfold w_X4_one
    refine b_oz hP I.1 (fun _ => br_pos rfl ⟨rfl, P, I⟩) (fun j hj ej => br_neg n10 (b_inz (b := 0) (c := 4) (fun _ => br_pos rfl ⟨rfl, P, I⟩) (fun h => ?_)))
    rcases hbad with z | z
    · exact absurd ej (z j hj)
    · exact absurd h z
  have good : ∀ (j x : Nat) (r : Int32), j < P → x ≤ 4 → p1 = nI j → p2 = nI x → r = (if x = 4 then brS P (nnS mo) j else nnS mo (4 * j + x)) → w_X4_one p1 p2 mo lo (fun r2 mo' _ => r = r2 ∧ IV o mo') := by
    intro j x r hj hx e1 e2 er
    subst e1 e2
    unfold w_X4_one
    have fin : ∀ r2 : Int32, r = r2 → r = r2 ∧ IV o (va_up mo 2 (fil (mo 1) (mo 2) 57)) := fun r2 h => ⟨h, P, IVp_q I (eqO.rf o) (eqM_starts mo)⟩
    refine b_oz hP I.1 (fun h => absurd rfl (h j hj)) (fun _ _ _ => br_neg n10 (b_inz (b := 0) (c := 4) (fun h => absurd ⟨nI_pos' (by omega), nI_le (b := 4) hx (by omega)⟩ h) (fun _ => br_neg n10 (b_starts ?_))))
    refine br_in (fun q => b_mbrings (P := P) hP I.1 (by omega) (fin _ ?_)) (fun q => b_of (by omega) (fin _ ?_))
    · rw [er, if_pos ?_, z_upS]; rfl
      have := (nI_leI (a := 4) (by omega) (by omega)).mp q
      omega
    · rw [er, if_neg ?_, z_upS]; rfl
      intro z; subst z; exact q (nI_le (Nat.le_refl 4) (by omega))
  unfold w_X3_one
  simp only [nm]
  refine b_hz hP I.2.1.2.1.1 (fun hb => ?_) (fun j hj ej => ?_)
  · rw [up_self]; exact br_pos rfl (bad (Or.inl hb))
  · rw [up_self]
    obtain ⟨a, b, c, d⟩ := w.2.2.2.2.2.2.2.1 j hj
    have cl : p1.toNatClampNeg = j := by rw [ej, z_cl (by omega)]
    have vi : vp_in p1 5 := by rw [ej]; exact z_in (by omega) (by omega)
    rw [cl]
    refine br_neg n10 (br_in (fun q => ⟨vi, good j 0 _ hj (by omega) ej q a⟩) (fun q => br_in (fun q1 => ⟨vi, good j 1 _ hj (by omega) ej q1 b⟩) (fun q1 => br_in (fun q2 => ⟨vi, good j 2 _ hj (by omega) ej q2 c⟩) (fun q2 => br_in (fun q3 => ⟨vi, good j 3 _ hj (by omega) ej q3 d⟩) (fun q3 => br_in (fun q4 => ?_) (fun q4 => bad (Or.inr ?_)))))))
    · rw [ej]
      refine b_bringsTo w hP hj ?_
      rw [up_self, ← ej]
      exact good j 4 _ hj (by omega) ej q4 rfl
    · intro h
      obtain ⟨x, hx, e⟩ := r_of (hi := 4) (by omega) h
      subst e
      rcases (show x = 0 ∨ x = 1 ∨ x = 2 ∨ x = 3 ∨ x = 4 by omega) with rfl | rfl | rfl | rfl | rfl
      · exact q rfl
      · exact q1 rfl
      · exact q2 rfl
      · exact q3 rfl
      · exact q4 rfl
theorem L_gift {P : Nat} {o : S3} {mo : S2} {lo : SL} (I : IVp P o mo) (p1 p2 : Int32) : w_X3_gift p1 p2 o (fun r o' => w_X4_gift p1 p2 mo lo (fun r2 mo' _ => r = r2 ∧ IV o' mo')) := by
  obtain ⟨g, g4, hg, hgi⟩ := I.2.1.1.2.2.2.1
  have w := I.2.1.2.1
  have e4 : o 1 0 4 = nI g := w.2.2.2.2.2.1.trans hg
  unfold w_X3_gift
  rw [e4]
  have bad : (¬ (0 ≤ p1 ∧ p1 ≤ nI g - 1) ∨ ¬ (0 ≤ p2 ∧ p2 ≤ 3)) → w_X4_gift p1 p2 mo lo (fun r2 mo' _ => (-1 : Int32) = r2 ∧ IV o mo') := by
    intro hb
    unfold w_X4_gift
    rw [tn_23, hg]
    refine b_inz (b := 0) (fun _ => br_pos rfl ⟨rfl, P, I⟩) (fun h1 => br_neg n10 (b_inz (b := 0) (c := 3) (fun _ => br_pos rfl ⟨rfl, P, I⟩) (fun h2 => ?_)))
    rcases hb with z | z
    · exact absurd h1 z
    · exact absurd h2 z
  refine b_wz (fun hb => br_pos rfl (bad (Or.inl hb))) (fun h1 => br_neg n10 (b_wz (fun hb => br_pos rfl (bad (Or.inr hb))) (fun h2 => br_neg n10 ?_)))
  obtain ⟨i, hi, rfl⟩ := one_of (by omega) h1
  obtain ⟨x, hx, rfl⟩ := r_of (hi := 3) (by omega) h2
  rw [show nI i * 4 + nI x = nI (4 * i + x) by rw [show (4 : Int32) = nI 4 from rfl, z_mul, z_add, Nat.mul_comm], z_cl (by omega)]
  refine ⟨z_in (by omega) (by omega), ?_⟩
  unfold w_X4_gift
  rw [tn_23, hg]
  refine b_inz (b := 0) (fun h => absurd h1 h) (fun _ => br_neg n10 (b_inz (b := 0) (c := 3) (fun h => absurd h2 h) (fun _ => br_neg n10 ?_)))
  rw [show (24 : Int32) + 4 * nI i + nI x = nI (24 + (4 * i + x)) by rw [show (4 : Int32) = nI 4 from rfl, z_mul, show (24 : Int32) = nI 24 from rfl, z_add, z_add, Nat.add_assoc], z_cl (by omega)]
  refine ⟨z_in (by omega) (by omega), ?_, P, I⟩
  exact w.2.2.2.2.2.2.2.2.1 _ (by rw [hg, z_cl (by omega)]; omega)
