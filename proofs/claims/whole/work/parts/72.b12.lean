def bt (x : Int32) (i : Nat) : Bool := x.toBitVec.getLsbD i
theorem b_ext {x y : Int32} (h : ∀ i, i < 32 → bt x i = bt y i) : x = y := Int32.toBitVec_inj.mp (BitVec.eq_of_getLsbD_eq (fun i hi => h i hi))
theorem b_and (x y : Int32) (i : Nat) : bt (x &&& y) i = (bt x i && bt y i) := by unfold bt; rw [Int32.toBitVec_and, BitVec.getLsbD_and]
theorem s_l : ∀ n, n < 32 → ((nI n &&& 31).toBitVec.smod 32).toNat = n := by decide +kernel
theorem s_u : ∀ n, n < 32 → (((nI n).toUInt32 &&& Int32.toUInt32 31).toBitVec % 32).toNat = n := by decide +kernel
theorem b_ushr (n : Nat) (hn : n < 32) (x : Int32) (i : Nat) : bt ((x.toUInt32 >>> ((nI n).toUInt32 &&& Int32.toUInt32 31)).toInt32) i = bt x (n + i) := by
  show (x.toUInt32 >>> ((nI n).toUInt32 &&& Int32.toUInt32 31)).toBitVec.getLsbD i = x.toUInt32.toBitVec.getLsbD (n + i)
  rw [UInt32.toBitVec_shiftRight]
  show (x.toUInt32.toBitVec >>> (((nI n).toUInt32 &&& Int32.toUInt32 31).toBitVec % 32).toNat).getLsbD i = _
  rw [s_u n hn, BitVec.getLsbD_ushiftRight]
theorem b_sshr (n : Nat) (hn : n < 32) (x : Int32) {i : Nat} (hi : i < 32) : bt (x >>> (nI n &&& 31)) i = if n + i < 32 then bt x (n + i) else bt x 31 := by
  unfold bt
  rw [Int32.toBitVec_shiftRight]
  show (x.toBitVec.sshiftRight ((nI n &&& 31).toBitVec.smod 32).toNat).getLsbD i = _
  rw [s_l n hn, BitVec.getLsbD_sshiftRight, BitVec.msb_eq_getLsbD_last]
  simp [hi]
theorem b_32767 : ∀ i, i < 32 → bt 32767 i = decide (i < 15) := by decide +kernel
theorem drift_bits (x : Int32) : ((x.toUInt32 >>> ((16 : Int32).toUInt32 &&& Int32.toUInt32 31)).toInt32) &&& 32767 = (x >>> ((16 : Int32) &&& 31)) &&& 32767 := by
  refine b_ext (fun i hi => ?_)
  rw [b_and, b_and, b_32767 i hi, show ((16 : Int32)) = nI 16 from rfl, b_ushr 16 (by omega), b_sshr 16 (by omega) x hi]
  by_cases h : i < 15
  · rw [if_pos (by omega)]
  · rw [decide_eq_false h, Bool.and_false, Bool.and_false]
def slS (x : Int32) : Int32 := ((x >>> ((16 : Int32) &&& 31)) &&& 32767) - ((x >>> ((16 : Int32) &&& 31)) &&& 32767) / 10 * 10
def sdS (p : Int32) : Nat → Int32
  | 0 => p
  | k + 1 => sdS p k * 1103515245 + 12345
noncomputable def drN (P : Nat) (n : S1) (p : Int32) : Nat → S1
  | 0 => n
  | k + 1 => stS P (upd (drN P n p k) 21 (slS (sdS p (k + 1))))
theorem dr_Vl {P : Nat} {n : S1} (v : Vl P n) (p : Int32) : ∀ k, Vl P (drN P n p k) := by
  intro k
  induction k with
  | zero => exact v
  | succ k ih => exact st_Vl (Vl_safe ih (by omega) _)
noncomputable def driS (P : Nat) (n : S1) (p1 : Int32) (m : Nat) (p : Int32) : Int32 := if p = 0 then smS (drN P n p1 m) 1 P else drN P n p1 m 22
theorem L_drift {P : Nat} {o : S3} {mo : S2} {lo : SL} (I : IVp P o mo) (p1 p2 p3 : Int32) : w_X3_drift p1 p2 p3 o (fun r o' => w_X4_drift p1 p2 p3 mo lo (fun r2 mo' _ => r = r2 ∧ IV o' mo')) := by
  have hP := I.2.1.1.1
  have v := I.nV
  have w := I.nW
  have bad : (¬ (1 ≤ p2 ∧ p2 ≤ 60) ∨ ¬ (0 ≤ p3 ∧ p3 ≤ 1)) → w_X4_drift p1 p2 p3 mo lo (fun r2 mo' _ => (-1 : Int32) = r2 ∧ IV o mo') := by
    intro hb
    unfold w_X4_drift
    refine b_inz (b := 1) (c := 60) (fun _ => br_pos rfl ⟨rfl, P, I⟩) (fun h2 => br_neg n10 (b_isPart (br_zb (fun _ => ⟨rfl, P, I⟩) (fun h3 => ?_))))
    rcases hb with z | z
    · exact absurd h2 z
    · exact absurd h3 z
  unfold w_X3_drift
  simp only [nm]
  refine b_wz (fun hb => br_pos rfl (bad (Or.inl hb))) (fun h2 => br_neg n10 (b_wz (fun hb => br_pos rfl (bad (Or.inr hb))) (fun h3 => br_neg n10 (br_in (fun q => ?_) (fun q => b_become w v (fun w1 hw1 => ?_))))))
  · unfold w_X4_drift
    exact b_inz (b := 1) (c := 60) (fun h => absurd h2 h) (fun _ => br_neg n10 (b_isPart (br_zb (fun h => absurd h3 h) (fun _ => br_pos (by rw [I.1, ← w.1]; exact q) ⟨rfl, P, I⟩))))
  · have P0 : 0 < P := Nat.pos_of_ne_zero (fun z => q (by rw [w.1, z]; rfl))
    have nz : ¬ mo 0 3 = 0 := by rw [I.1, ← w.1]; exact q
    obtain ⟨m, hm1, hm, rfl⟩ := z_of (lo := 1) (hi := 60) h2.1 h2.2 (by omega) (by omega)
    have md : ∀ (r : Int32) (w' : S2), r = driS P (nnS mo) p1 m p3 → w_X4_drift p1 (nI m) p3 mo lo (fun r2 mo' _ => r = r2 ∧ IV (va_up o 2 w') mo') := by
      intro r w' hr
      have fin : ∀ (r2 : Int32) (mo' : S2), driS P (nnS mo) p1 m p3 = r2 → eqM mo mo' → r = r2 ∧ IV (va_up o 2 w') mo' := fun r2 mo' h e => ⟨hr.trans h, P, IVp_q I (eqO_2 o w') e⟩
      unfold w_X4_drift
      refine b_inz (b := 1) (c := 60) (fun h => absurd h2 h) (fun _ => br_neg n10 (b_isPart (br_zb (fun h => absurd h3 h) (fun _ => br_neg nz (b_starts ?_)))))
      simp only [nm, tn_21, tn_22]
      refine lfp4_inv m (fun i a b c d => a = sdS p1 i ∧ b = nI i ∧ (eqM mo c ∧ c 2 = drN P (nnS mo) p1 i) ∧ d = lo) ?_ ?_ (k := 0) (by omega) ⟨rfl, rfl, ⟨eqM_starts mo, z_upS _ _ _⟩, rfl⟩
      · rintro a b c d ⟨rfl, rfl, ⟨h1, hc2⟩, rfl⟩ G
        refine br_pos (nI_le (Nat.le_refl _) (by omega)) (br_in (fun q => b_mallOf (x := 1) hP ((h1.1 3 (by omega)).trans I.1) (by omega) (fin _ _ ?_ h1)) (fun q => fin _ _ ?_ h1))
        · rw [driS, if_pos q, hc2]
        · rw [driS, if_neg q, hc2]
      · rintro i a b c d hi ⟨rfl, rfl, ⟨h1, hc2⟩, rfl⟩ G hG
        have v1 : Vl P (upd (drN P (nnS mo) p1 i) 21 (slS (sdS p1 (i + 1)))) := Vl_safe (dr_Vl v p1 i) (by omega) _
        refine br_neg (nI_ge hi (by omega)) ?_
        rw [hc2]
        have v2 : Vl P ((va_up c 2 (upd (drN P (nnS mo) p1 i) 21 (slS (sdS p1 (i + 1))))) 2) := by rw [z_upS]; exact v1
        refine b_quarterGoes (P := P) ((h1.1 3 (by omega)).trans I.1) v2 (fun mo' q => hG _ _ _ _ ⟨rfl, nI_1 i, ⟨(h1.tr (eqM_up2 c _ (fun x hx => ?_))).tr (QR.eqM v2 q), ?_⟩, rfl⟩)
        · rw [z_upd_ne _ _ (by omega), hc2]
        · have := q.1
          rw [z_upS] at this
          rw [this, drN]; rfl
    rw [up_tr1]
    refine lfp3_inv m (fun i a b c => a = sdS p1 i ∧ b = nI (i + 1) ∧ ∃ w', c = va_up o 2 w' ∧ WR P w' (drN P (nnS mo) p1 i)) ?_ ?_ (k := 0) (by omega) ⟨rfl, rfl, w1, rfl, hw1⟩
    · rintro a b c ⟨rfl, rfl, w', rfl, hw'⟩ G
      simp only [z_upS, z_upU]
      refine br_pos (nI_lt (by omega) (by omega)) (br_in (fun q => b_meansOfAll hw' hP (md _ _ ?_)) (fun q => md _ _ ?_))
      · rw [driS, if_pos q]
      · rw [driS, if_neg q]; exact hw'.2.2.2.1 P0
    · rintro i a b c hi ⟨rfl, rfl, w', rfl, hw'⟩ G hG
      simp only [z_upS, z_upU]
      refine br_neg (nI_nlt (by omega) (by omega)) ?_
      rw [drift_bits]
      exact b_step (WR_sl hw' hP _) (Vl_safe (dr_Vl v p1 i) (by omega) _) (fun w2 hw2 => hG _ _ _ ⟨rfl, nI_1 (i + 1), w2, rfl, hw2⟩)
-- means of all are a number from 0 on
theorem sm_nat {P : Nat} {n : S1} (v : Vl P n) : ∀ p, p ≤ P → ∃ s, s ≤ 999 * p ∧ smS n 1 p = nI s := by
  intro p
  induction p with
  | zero => intro _; exact ⟨0, by omega, rfl⟩
  | succ p ih =>
    intro hp
    obtain ⟨s, hs, e⟩ := ih (by omega)
    obtain ⟨h1, h2⟩ := v.2.2.2.2.2 p (by omega)
    obtain ⟨t, -, ht, et⟩ := z_of h1 h2 (by omega) (by omega)
    exact ⟨s + t, by omega, by rw [smS, e, et, z_add]⟩
noncomputable def kpS (P : Nat) (n : S1) (m : Nat) : Nat → Int32 × Int32
  | 0 => (-4, -4)
  | p + 1 => if smS (itS P (upd n 22 (nI p)) m) 1 P ≤ (kpS P n m p).2 then kpS P n m p else (nI p, smS (itS P (upd n 22 (nI p)) m) 1 P)
theorem kp_pos {P : Nat} {n : S1} (v : Vl P n) (m : Nat) : ∀ p, 0 < p → p ≤ P → ∃ a s, (kpS P n m p).1 = nI a ∧ a < p ∧ (kpS P n m p).2 = nI s ∧ s < 5000 := by
  intro p
  have hP := v.1
  induction p with
  | zero => intro h; omega
  | succ p ih =>
    intro _ hp
    obtain ⟨s, hs, e⟩ := sm_nat (it_Vl (Vl_ho v (p := p) (by omega)) m) P (Nat.le_refl _)
    have hs2 : s ≤ 999 * 5 := Nat.le_trans hs (Nat.mul_le_mul_left _ hP)
    rw [kpS]
    split
    · rename_i q
      rcases Nat.eq_zero_or_pos p with z | z
      · subst z
        exfalso
        rw [e] at q
        have q2 : nI s ≤ -4 := q
        rw [z_le, z_tI (by omega), z_tm4] at q2
        omega
      · obtain ⟨a, t, h1, h2, h3, h4⟩ := ih z (by omega)
        exact ⟨a, t, h1, by omega, h3, h4⟩
    · exact ⟨p, s, rfl, by omega, e, by omega⟩
noncomputable def keeS (P : Nat) (n : S1) (m : Nat) (p : Int32) : Int32 := if p = 0 then (kpS P n m P).1 else (kpS P n m P).2
theorem L_keeper {P : Nat} {o : S3} {mo : S2} {lo : SL} (I : IVp P o mo) (p1 p2 : Int32) : w_X3_keeper p1 p2 o (fun r o' => w_X4_keeper p1 p2 mo lo (fun r2 mo' _ => r = r2 ∧ IV o' mo')) := by
  have hP := I.2.1.1.1
  have v := I.nV
  have w := I.nW
  have bad : (¬ (0 ≤ p1 ∧ p1 ≤ 60) ∨ ¬ (0 ≤ p2 ∧ p2 ≤ 1)) → w_X4_keeper p1 p2 mo lo (fun r2 mo' _ => (-1 : Int32) = r2 ∧ IV o mo') := by
    intro hb
    unfold w_X4_keeper
    refine b_isFar (br_zb (fun _ => ⟨rfl, P, I⟩) (fun h2 => b_isPart (br_zb (fun _ => ⟨rfl, P, I⟩) (fun h3 => ?_))))
    rcases hb with z | z
    · exact absurd h2 z
    · exact absurd h3 z
  unfold w_X3_keeper
  simp only [nm]
  refine b_wz (fun hb => br_pos rfl (bad (Or.inl hb))) (fun h1 => br_neg n10 (b_wz (fun hb => br_pos rfl (bad (Or.inr hb))) (fun h2 => br_neg n10 ?_)))
  obtain ⟨m, hm, rfl⟩ := r_of (hi := 60) (by omega) h1
  have md : ∀ (r : Int32) (w' : S2), r = keeS P (nnS mo) m p2 → w_X4_keeper (nI m) p2 mo lo (fun r2 mo' _ => r = r2 ∧ IV (va_up o 2 w') mo') := by
    intro r w' hr
    have fin : ∀ (r2 : Int32) (mo' : S2), keeS P (nnS mo) m p2 = r2 → eqM mo mo' → r = r2 ∧ IV (va_up o 2 w') mo' := fun r2 mo' h e => ⟨hr.trans h, P, IVp_q I (eqO_2 o w') e⟩
    unfold w_X4_keeper
    refine b_isFar (br_zb (fun h => absurd h1 h) (fun _ => b_isPart (br_zb (fun h => absurd h2 h) (fun _ => ?_))))
    simp only [nm, jn, tn_22]
    refine lfp5_inv P (fun i a b c d e => a = (if i = 0 then -1 else (kpS P (nnS mo) m i).2) ∧ b = (kpS P (nnS mo) m i).1 ∧ c = nI i ∧ eqM mo d ∧ e = lo) ?_ ?_ (k := 0) (by omega) ⟨rfl, rfl, rfl, eqM.rf mo, rfl⟩
    · rintro a b c d e ⟨rfl, rfl, rfl, h3, rfl⟩ G
      refine br_pos (by rw [h3.1 3 (by omega), I.1]; exact nI_le (Nat.le_refl _) (by omega)) ?_
      rcases Nat.eq_zero_or_pos P with z | z
      · refine br_pos (by rw [z]; rfl) (fin _ _ ?_ h3)
        unfold keeS; rw [z]; split <;> rfl
      · obtain ⟨x, s, g1, g2, g3, g4⟩ := kp_pos v m P z (Nat.le_refl _)
        refine br_neg (by rw [g1, z_eq, z_tI (by omega), z_tm4]; omega) (br_in (fun q => fin _ _ ?_ h3) (fun q => fin _ _ ?_ h3))
        · rw [keeS, if_pos q]
        · rw [keeS, if_neg q, if_neg (by omega)]
    · rintro i a b c d e hi ⟨rfl, rfl, rfl, h3, rfl⟩ G hG
      refine br_neg (by rw [h3.1 3 (by omega), I.1]; exact nI_ge hi (by omega)) (b_starts ?_)
      rw [z_upU, z_upS]
      have en : fil (d 1) (d 2) 57 = nnS mo := h3.nn
      rw [en]
      refine b_quartersGo (P := P) ((h3.1 3 (by omega)).trans I.1) (by rw [z_upS]; exact Vl_ho v hi) (by omega) (fun mo' hq g2 => ?_)
      rw [z_upS] at g2
      have h4 : eqM mo mo' := (h3.tr (eqM_up2 d _ (fun x hx => by rw [z_upd_ne _ _ (by omega), ← en]; exact fil_hi _ _ hx))).tr hq
      refine b_mallOf (x := 1) hP ((h4.1 3 (by omega)).trans I.1) (by omega) ?_
      rw [g2]
      obtain ⟨s, hs, es⟩ := sm_nat (it_Vl (Vl_ho v hi) m) P (Nat.le_refl _)
      have hs2 : s ≤ 999 * 5 := Nat.le_trans hs (Nat.mul_le_mul_left _ hP)
      by_cases i0 : i = 0
      · subst i0
        have c1 : ¬ smS (itS P (upd (nnS mo) 22 (nI 0)) m) 1 P ≤ -1 := by rw [es, z_le, z_tI (by omega), z_tm1]; omega
        have c2 : ¬ smS (itS P (upd (nnS mo) 22 (nI 0)) m) 1 P ≤ (kpS P (nnS mo) m 0).2 := by
          show ¬ _ ≤ (-4 : Int32)
          rw [es, z_le, z_tI (by omega), z_tm4]; omega
        rw [if_pos rfl]
        exact br_neg c1 (br_neg c1 (hG _ _ _ _ _ ⟨by rw [if_neg (by omega), kpS, if_neg c2], by rw [kpS, if_neg c2], nI_1 0, h4, rfl⟩))
      · rw [if_neg i0]
        by_cases c2 : smS (itS P (upd (nnS mo) 22 (nI i)) m) 1 P ≤ (kpS P (nnS mo) m i).2
        · exact br_pos c2 (br_pos c2 (hG _ _ _ _ _ ⟨by rw [if_neg (by omega), kpS, if_pos c2], by rw [kpS, if_pos c2], nI_1 i, h4, rfl⟩))
        · exact br_neg c2 (br_neg c2 (hG _ _ _ _ _ ⟨by rw [if_neg (by omega), kpS, if_neg c2], by rw [kpS, if_neg c2], nI_1 i, h4, rfl⟩))
  refine lfp4_inv P (fun i a b c d => a = (kpS P (nnS mo) m i).1 ∧ b = (kpS P (nnS mo) m i).2 ∧ c = nI i ∧ ∃ w', d = va_up o 2 w') ?_ ?_ (k := 0) (by omega) ⟨rfl, rfl, rfl, o 2, up_22 o⟩
  · rintro a b c d ⟨rfl, rfl, rfl, w', rfl⟩ G
    refine br_pos (by rw [up21, w.1]; exact nI_le (Nat.le_refl _) (by omega)) (br_in (fun q => md _ _ ?_) (fun q => md _ _ ?_))
    · rw [keeS, if_pos q]
    · rw [keeS, if_neg q]
  · rintro i a b c d hi ⟨rfl, rfl, rfl, w', rfl⟩ G hG
    simp only [up21]
    refine br_neg (by rw [w.1]; exact nI_ge hi (by omega)) (b_become w v (fun w1 hw1 => ?_))
    rw [up_tr2]
    simp only [z_upS, z_upU, jn]
    refine b_pass (WR_ho hw1 hP (by omega) _) (Vl_ho v hi) (by omega) (fun w2 hw2 => b_meansOfAll hw2 hP (br_in (fun y => ?_) (fun y => b_meansOfAll hw2 hP ?_)))
    · exact hG _ _ _ _ ⟨by rw [kpS, if_pos y], by rw [kpS, if_pos y], nI_1 i, w2, rfl⟩
    · exact hG _ _ _ _ ⟨by rw [kpS, if_neg y], by rw [kpS, if_neg y], nI_1 i, w2, rfl⟩
noncomputable def kiS (P : Nat) (n : S1) (j m : Nat) : Nat → Int32 × Int32
  | 0 => (0, -1)
  | k + 1 => if itS P (upd n (4 * j) (nI k)) m (4 * j + 1) ≤ (kiS P n j m k).2 then kiS P n j m k else (nI k, itS P (upd n (4 * j) (nI k)) m (4 * j + 1))
noncomputable def kinS (P : Nat) (n : S1) (j m : Nat) (p : Int32) : Int32 := if p = 0 then (kiS P n j m 4).1 else (kiS P n j m 4).2
theorem b_becomesOf0 {j : Nat} {v : Int32} {mo : S2} {lo : SL} {K : S2 → SL → Prop} (hj : 4 * j < 57) (h : K (va_up mo 2 (upd (mo 2) (4 * j) v)) lo) : w_X4_becomesOf (nI j) 0 v mo lo K := b_becomesOf (j := j) (x := 0) hj h
theorem L_kind {P : Nat} {o : S3} {mo : S2} {lo : SL} (I : IVp P o mo) (p1 p2 p3 : Int32) : w_X3_kind p1 p2 p3 o (fun r o' => w_X4_kind p1 p2 p3 mo lo (fun r2 mo' _ => r = r2 ∧ IV o' mo')) := by
  have hP := I.2.1.1.1
  have v := I.nV
  have w := I.nW
  have bad : ((∀ j, j < P → p1 ≠ nI j) ∨ ¬ (0 ≤ p2 ∧ p2 ≤ 60) ∨ ¬ (0 ≤ p3 ∧ p3 ≤ 1)) → w_X4_kind p1 p2 p3 mo lo (fun r2 mo' _ => (-1 : Int32) = r2 ∧ IV o mo') := by
    intro hb
    unfold w_X4_kind
    refine b_oz hP I.1 (fun _ => br_pos rfl ⟨rfl, P, I⟩) (fun j hj ej => br_neg n10 (b_isFar (br_zb (fun _ => ⟨rfl, P, I⟩) (fun h2 => b_isPart (br_zb (fun _ => ⟨rfl, P, I⟩) (fun h3 => ?_))))))
    rcases hb with z | z | z
    · exact absurd ej (z j hj)
    · exact absurd h2 z
    · exact absurd h3 z
  unfold w_X3_kind
  simp only [nm]
  refine b_hz hP w.1 (fun hb => ?_) (fun j hj ej => ?_)
  · rw [up_self]; exact br_pos rfl (bad (Or.inl hb))
  · rw [up_self]
    refine br_neg n10 (b_wz (fun hb => br_pos rfl (bad (Or.inr (Or.inl hb)))) (fun h2 => br_neg n10 (b_wz (fun hb => br_pos rfl (bad (Or.inr (Or.inr hb)))) (fun h3 => br_neg n10 ?_))))
    obtain ⟨m, hm, rfl⟩ := r_of (hi := 60) (by omega) h2
    subst ej
    rw [z_cl (by omega)]
    have md : ∀ (r : Int32) (w' : S2), r = kinS P (nnS mo) j m p3 → w_X4_kind (nI j) (nI m) p3 mo lo (fun r2 mo' _ => r = r2 ∧ IV (va_up o 2 w') mo') := by
      intro r w' hr
      have fin : ∀ (r2 : Int32) (mo' : S2), kinS P (nnS mo) j m p3 = r2 → eqM mo mo' → r = r2 ∧ IV (va_up o 2 w') mo' := fun r2 mo' h e => ⟨hr.trans h, P, IVp_q I (eqO_2 o w') e⟩
      unfold w_X4_kind
      refine b_oz hP I.1 (fun h => absurd rfl (h j hj)) (fun _ _ _ => br_neg n10 (b_isFar (br_zb (fun h => absurd h2 h) (fun _ => b_isPart (br_zb (fun h => absurd h3 h) (fun _ => ?_))))))
      simp only [nm, jn]
      refine lfp5_inv 4 (fun i a b c d e => a = (kiS P (nnS mo) j m i).2 ∧ b = (kiS P (nnS mo) j m i).1 ∧ c = nI i ∧ eqM mo d ∧ e = lo) ?_ ?_ (k := 0) (by omega) ⟨rfl, rfl, rfl, eqM.rf mo, rfl⟩
      · rintro a b c d e ⟨rfl, rfl, rfl, h4, rfl⟩ G
        refine br_pos (nI_le (Nat.le_refl 4) (by omega)) (br_in (fun q => fin _ _ ?_ h4) (fun q => fin _ _ ?_ h4))
        · rw [kinS, if_pos q]
        · rw [kinS, if_neg q]
      · rintro i a b c d e hi ⟨rfl, rfl, rfl, h4, rfl⟩ G hG
        refine br_neg (nI_ge (b := 4) hi (by omega)) (b_starts (b_becomesOf0 (by omega) ?_))
        rw [z_upU, z_upS]
        have en : fil (d 1) (d 2) 57 = nnS mo := h4.nn
        rw [en]
        refine b_quartersGo (P := P) ((h4.1 3 (by omega)).trans I.1) (by rw [z_upS]; exact Vl_safe v (by omega) _) (by omega) (fun mo' hq g2 => ?_)
        rw [z_upS] at g2
        have h5 : eqM mo mo' := (h4.tr (eqM_up2 d _ (fun x hx => by rw [z_upd_ne _ _ (by omega), ← en]; exact fil_hi _ _ hx))).tr hq
        refine b_of (x := 1) (by omega) ?_
        rw [g2]
        refine br_in (fun y => b_of (x := 1) (by omega) ?_) (fun y => b_of (x := 1) (by omega) ?_)
        · rw [g2]
          exact br_pos y (hG _ _ _ _ _ ⟨by rw [kiS, if_pos y], by rw [kiS, if_pos y], nI_1 i, h5, rfl⟩)
        · rw [g2]
          refine br_neg y (b_of (x := 1) (by omega) ?_)
          rw [g2]
          exact hG _ _ _ _ _ ⟨by rw [kiS, if_neg y], by rw [kiS, if_neg y], nI_1 i, h5, rfl⟩
    refine lfp4_inv 4 (fun i a b c d => a = (kiS P (nnS mo) j m i).1 ∧ b = (kiS P (nnS mo) j m i).2 ∧ c = nI i ∧ ∃ w', d = va_up o 2 w') ?_ ?_ (k := 0) (by omega) ⟨rfl, rfl, rfl, o 2, up_22 o⟩
    · rintro a b c d ⟨rfl, rfl, rfl, w', rfl⟩ G
      refine br_pos (nI_lt (a := 3) (by omega) (by omega)) (br_in (fun q => md _ _ ?_) (fun q => md _ _ ?_))
      · rw [kinS, if_pos q]
      · rw [kinS, if_neg q]
    · rintro i a b c d hi ⟨rfl, rfl, rfl, w', rfl⟩ G hG
      simp only [up21]
      refine br_neg (nI_nlt (a := 3) (by omega) (by omega)) (b_become w v (fun w1 hw1 => ⟨z_in (by omega) (by omega), ?_⟩))
      rw [up_tr2]
      simp only [z_upS, z_upU, jn]
      refine b_pass (WR_kd hw1 hP hj _) (Vl_safe v (by omega) _) (by omega) (fun w2 hw2 => ⟨z_in (by omega) (by omega), ?_⟩)
      rw [(hw2.2.2.2.2.2.2.2.1 j hj).2.1]
      refine br_in (fun y => ?_) (fun y => ⟨z_in (by omega) (by omega), ?_⟩)
      · exact hG _ _ _ _ ⟨by rw [kiS, if_pos y], by rw [kiS, if_pos y], nI_1 i, w2, rfl⟩
      · exact hG _ _ _ _ ⟨by rw [kiS, if_neg y], by rw [kiS, if_neg y], nI_1 i, w2, rfl⟩
