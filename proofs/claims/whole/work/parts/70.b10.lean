theorem up21 (o : S3) (w : S2) : (va_up o 2 w) 1 = o 1 := rfl
theorem up_tr2 (o : S3) (w w' : S2) : va_up (va_up (va_up o 2 w) 2 w') 1 (o 1) = va_up o 2 w' := by rw [z_upU]; exact up_self (va_up o 2 w') 1
theorem up_tr1 (o : S3) (w' : S2) : va_up (va_up o 2 w') 1 (o 1) = va_up o 2 w' := up_self (va_up o 2 w') 1
theorem up_22 (o : S3) : o = va_up o 2 (o 2) := (up_self o 2).symm
theorem st_20 {P : Nat} {n : S1} (v : Vl P n) : stS P n 20 = n 20 + 1 := by
  rw [stS, z_upd_same, co_keep v (by omega), me_keep v 20 (by omega)]
theorem it_20 {P : Nat} {n : S1} (v : Vl P n) : ∀ k, itS P n k 20 = n 20 + nI k := by
  intro k
  induction k with
  | zero => show n 20 = n 20 + 0; rw [Int32.add_zero]
  | succ k ih => rw [itS, st_20 (it_Vl v k), ih, ← nI_1 k, Int32.add_assoc]
theorem L_quarters {P : Nat} {o : S3} {mo : S2} {lo : SL} (I : IVp P o mo) (p1 : Int32) : w_X3_quarters p1 o (fun r o' => w_X4_quarters p1 mo lo (fun r2 mo' _ => r = r2 ∧ IV o' mo')) := by
  have hP := I.2.1.1.1
  have v := I.nV
  have w := I.nW
  have e20 : o 1 0 1 = mo 1 20 := I.2.1.2.1.2.1
  obtain ⟨Q, -, hQ, eQ⟩ := z_of (lo := 0) (hi := 999) I.2.1.2.2.1 I.2.1.2.2.2 (by omega) (by omega)
  unfold w_X3_quarters
  simp only [nm]
  refine b_wz (fun hb => br_pos rfl ?_) (fun h1 => br_neg n10 ?_)
  · unfold w_X4_quarters
    exact b_inz (b := 0) (c := 30) (fun _ => br_pos rfl ⟨rfl, P, I⟩) (fun h => absurd h hb)
  · obtain ⟨m, hm, rfl⟩ := r_of (hi := 30) (by omega) h1
    rw [e20]
    refine br_in (fun q => ?_) (fun q => ?_)
    · refine b_pass w v (by omega) (fun w' hw' => ?_)
      rw [z_upS]
      refine b_holder hw' (it_Vl v m) ?_
      rw [z_upU]
      unfold w_X4_quarters
      rw [tn_20, tn_22]
      refine b_inz (b := 0) (c := 30) (fun h => absurd h1 h) (fun _ => br_neg n10 (br_pos q (b_starts (b_quartersGo (P := P) I.1 (by rw [z_upS]; exact v) (by omega) (fun mo' em e2 => b_settles ?_)))))
      have em' : eqM mo mo' := (eqM_starts mo).tr em
      rw [z_upS] at e2
      rw [e2]
      refine ⟨?_, P, ?_⟩
      · rw [z_upS, fil_lo _ _ (by omega)]; rfl
      · refine IVp_now I (f' := fil (itS P (nnS mo) m) (mo' 1) 57) ?_ (fun j hj => ?_) (z_upS _ _ _) (fun k hk => ?_) (fun c hc => ?_)
        · refine IW_cong (n := itS P (nnS mo) m) (fun j hj => fil_lo _ _ hj) ⟨it_Vl v m, hw', ?_⟩
          rw [it_20 v, nn_lo mo (by omega), eQ, z_add]
          rw [eQ, z_add] at q
          exact ⟨nI_le (by omega) (by omega), q⟩
        · rw [fil_hi _ _ hj, em'.2.1 1 (by omega)]
        · rw [z_upN _ _ (by decide)]; exact em'.1 k hk
        · rw [z_upN _ _ (by omega)]; exact em'.2.1 c (by omega)
    · unfold w_X4_quarters
      rw [tn_20]
      exact b_inz (b := 0) (c := 30) (fun h => absurd h1 h) (fun _ => br_neg n10 (br_neg q ⟨rfl, P, I⟩))
noncomputable def frS (P : Nat) (n : S1) : Nat → Int32
  | 0 => -4
  | k + 1 => if frS P n k = -4 ∧ ¬ rbS (itS P n (k + 1)) P = 0 then nI (k + 1) else frS P n k
noncomputable def runS (P : Nat) (n : S1) (m : Nat) (p : Int32) : Int32 := if p = 0 then smS (itS P n m) 1 P else if p = 1 then rbS (itS P n m) P else if p = 2 then hnS P n m else if p = 3 then frS P n m else itS P n m 22
theorem hn_step (P : Nat) (n : S1) (k : Nat) (A : Int32) (hA : hdS P (itS P n k) = A) : (A = 0 → hnS P n (k + 1) = hnS P n k) ∧ (¬ A = 0 → hnS P n (k + 1) = hnS P n k + 1) := by
  subst hA
  refine ⟨fun h => by rw [hnS, h, Int32.add_zero], fun h => ?_⟩
  rcases hd_01 P (itS P n k) with z | z
  · exact absurd z h
  · rw [hnS, z]
theorem cl_runs {P m : Nat} {o : S3} {n : S1} {p2 : Int32} {K : Int32 → S3 → Prop} (w : WR P (o 1) n) (v : Vl P n) (hm : m ≤ 60) (h2 : 0 ≤ p2 ∧ p2 ≤ 4) (k : ∀ w', K (runS P n m p2) (va_up o 2 w')) : w_X3_runs (nI m) p2 o K := by
  have hP := v.1
  unfold w_X3_runs
  simp only [nm]
  refine b_wz (fun h => absurd ⟨nI_pos' (by omega), nI_le (b := 60) hm (by omega)⟩ h) (fun _ => br_neg n10 (b_wz (fun h => absurd h2 h) (fun _ => br_neg n10 (b_become w v (fun w1 hw1 => ?_)))))
  rw [up_tr1]
  refine lfp4_inv m (fun j a b c d => a = hnS P n j ∧ b = frS P n j ∧ c = nI (j + 1) ∧ ∃ w', d = va_up o 2 w' ∧ WR P w' (itS P n j)) ?_ ?_ (k := 0) (by omega) ⟨rfl, rfl, rfl, w1, rfl, hw1⟩
  · rintro a b c d ⟨rfl, rfl, rfl, w', rfl, hw'⟩ G
    simp only [z_upS, z_upU]
    refine br_pos (nI_lt (by omega) (by omega)) ?_
    unfold runS at k
    refine br_in (fun q => b_meansOfAll hw' hP ?_) (fun q => br_in (fun q1 => b_ruinedBits hw' hP ?_) (fun q1 => br_in (fun q2 => ?_) (fun q2 => br_in (fun q3 => ?_) (fun q3 => b_holder hw' (it_Vl v m) ?_))))
    · rw [if_pos q] at k; exact k _
    · rw [if_neg q, if_pos q1] at k; exact k _
    · rw [if_neg q, if_neg q1, if_pos q2] at k; exact k _
    · rw [if_neg q, if_neg q1, if_neg q2, if_pos q3] at k; exact k _
    · rw [if_neg q, if_neg q1, if_neg q2, if_neg q3] at k; exact k _
  · rintro j a b c d hj ⟨rfl, rfl, rfl, w', rfl, hw'⟩ G hG
    simp only [z_upS, z_upU]
    refine br_neg (nI_nlt (by omega) (by omega)) (b_step hw' (it_Vl v j) (fun w2 hw2 => ?_))
    have hs := hn_step P n j _ rfl
    refine jn_in (fun J => J (hnS P n (j + 1))) ?_ (fun J hJ => br_in (fun q => by rw [hs.1 q] at hJ; exact hJ) (fun q => by rw [hs.2 q] at hJ; exact hJ))
    refine jn_in (fun J => ∀ w3, WR P w3 (itS P n (j + 1)) → J (frS P n (j + 1)) (va_up o 2 w3)) (fun w3 hw3 => hG _ _ _ _ ⟨rfl, rfl, nI_1 (j + 1), w3, rfl, hw3⟩) (fun J hJ => ?_)
    refine br_in (fun q => b_ruinedBits hw2 hP (br_in (fun z => ?_) (fun z => ?_))) (fun q => ?_)
    · have := hJ w2 hw2
      rw [frS, if_neg (fun y => y.2 z)] at this; exact this
    · have := hJ w2 hw2
      rw [frS, if_pos ⟨q, z⟩] at this; exact this
    · have := hJ w2 hw2
      rw [frS, if_neg (fun y => q y.1)] at this; exact this
theorem md_runs {P m : Nat} {mo : S2} {lo : SL} {p2 : Int32} {K : Int32 → S2 → SL → Prop} (e3 : mo 0 3 = nI P) (v : Vl P (nnS mo)) (hm : m ≤ 60) (h2 : 0 ≤ p2 ∧ p2 ≤ 4) (k : ∀ mo', eqM mo mo' → K (runS P (nnS mo) m p2) mo' lo) : w_X4_runs (nI m) p2 mo lo K := by
  have hP := v.1
  unfold w_X4_runs
  simp only [nm, tn_22]
  refine b_isFar ?_
  refine br_zb (fun h => absurd ⟨nI_pos' (by omega), nI_le (b := 60) hm (by omega)⟩ h) (fun _ => b_inz (b := 0) (c := 4) (fun h => absurd h2 h) (fun _ => br_neg n10 (b_starts ?_)))
  refine lfp4_inv m (fun j a b c d => a = frS P (nnS mo) j ∧ b = nI (j + 1) ∧ (eqM mo c ∧ c 2 = itS P (nnS mo) j ∧ c 0 18 = hnS P (nnS mo) j) ∧ d = lo) ?_ ?_ (k := 0) (by omega) ⟨rfl, rfl, ⟨(eqM_starts mo).tr ⟨fun k q => ?_, fun c q => z_upN _ _ (by omega), fun j _ => rfl⟩, ?_, ?_⟩, rfl⟩
  · rintro a b c d ⟨rfl, rfl, ⟨h1, hc2, h18⟩, rfl⟩ G
    have e3' : c 0 3 = nI P := (h1.1 3 (by omega)).trans e3
    refine br_pos (nI_lt (by omega) (by omega)) ?_
    have k := k c h1
    unfold runS at k
    refine br_in (fun q => b_mallOf (x := 1) hP e3' (by omega) ?_) (fun q => br_in (fun q1 => b_mruined hP e3' ?_) (fun q1 => br_in (fun q2 => ?_) (fun q2 => br_in (fun q3 => ?_) (fun q3 => ?_))))
    · rw [if_pos q] at k; rw [hc2]; exact k
    · rw [if_neg q, if_pos q1] at k; rw [hc2]; exact k
    · rw [if_neg q, if_neg q1, if_pos q2] at k; rw [h18]; exact k
    · rw [if_neg q, if_neg q1, if_neg q2, if_pos q3] at k; exact k
    · rw [if_neg q, if_neg q1, if_neg q2, if_neg q3] at k; rw [hc2]; exact k
  · rintro j a b c d hj ⟨rfl, rfl, ⟨h1, hc2, h18⟩, rfl⟩ G hG
    have e3' : c 0 3 = nI P := (h1.1 3 (by omega)).trans e3
    have v2 : Vl P (c 2) := by rw [hc2]; exact it_Vl v j
    refine br_neg (nI_nlt (by omega) (by omega)) (b_quarterGoes e3' v2 (fun mo' q => ?_))
    have hq := QR.eqM v2 q
    have g2 : mo' 2 = itS P (nnS mo) (j + 1) := by rw [q.1, hc2, itS]
    have g18 : mo' 0 18 = hnS P (nnS mo) (j + 1) := by rw [q.2.1, h18, hc2, hnS]
    have e3'' : mo' 0 3 = nI P := (hq.1 3 (by omega)).trans e3'
    refine jn_in (fun J => J (frS P (nnS mo) (j + 1)) mo' d) (hG _ _ _ _ ⟨rfl, nI_1 (j + 1), ⟨h1.tr hq, g2, g18⟩, rfl⟩) (fun J hJ => ?_)
    refine jn_in (fun J2 => frS P (nnS mo) (j + 1) = frS P (nnS mo) j → J2 mo' d) (fun z => by rw [z] at hJ; exact hJ) (fun J2 hJ2 => ?_)
    refine br_in (fun q => b_mruined hP e3'' (br_in (fun z => hJ2 ?_) (fun z => ?_))) (fun q => hJ2 ?_)
    · rw [g2] at z
      rw [frS, if_neg (fun y => y.2 z)]
    · rw [g2] at z
      rw [frS, if_pos ⟨q, z⟩] at hJ; exact hJ
    · rw [frS, if_neg (fun y => q y.1)]
  · rw [z_upS, z_upd_ne _ _ (by omega)]; rfl
  · rw [z_upN _ _ (by decide), z_upS]; rfl
  · rw [z_upS, z_upd_same]; rfl
theorem L_runs {P : Nat} {o : S3} {mo : S2} {lo : SL} (I : IVp P o mo) (p1 p2 : Int32) : w_X3_runs p1 p2 o (fun r o' => w_X4_runs p1 p2 mo lo (fun r2 mo' _ => r = r2 ∧ IV o' mo')) := by
  by_cases h1 : 0 ≤ p1 ∧ p1 ≤ 60
  · by_cases h2 : 0 ≤ p2 ∧ p2 ≤ 4
    · obtain ⟨m, hm, rfl⟩ := r_of (hi := 60) (by omega) h1
      exact cl_runs I.nW I.nV hm h2 (fun w' => md_runs I.1 I.nV hm h2 (fun mo' h => ⟨rfl, P, IVp_q I (eqO_2 o w') h⟩))
    · unfold w_X3_runs
      refine b_wz (fun h => absurd h1 h) (fun _ => br_neg n10 (b_wz (fun _ => br_pos rfl ?_) (fun h => absurd h h2)))
      unfold w_X4_runs
      exact b_isFar (br_zb (fun h => absurd h1 h) (fun _ => b_inz (b := 0) (c := 4) (fun _ => br_pos rfl ⟨rfl, P, I⟩) (fun h => absurd h h2)))
  · unfold w_X3_runs
    refine b_wz (fun _ => br_pos rfl ?_) (fun h => absurd h h1)
    unfold w_X4_runs
    exact b_isFar (br_zb (fun _ => ⟨rfl, P, I⟩) (fun h => absurd h h1))
noncomputable def rnS (P : Nat) (n : S1) (j : Nat) : Nat → Int32
  | 0 => 0
  | k + 1 => if itS P n (k + 1) (4 * j + 1) = 0 then rnS P n j k + 1 else rnS P n j k
noncomputable def aheS (P : Nat) (n : S1) (j m : Nat) (p : Int32) : Int32 := if p = 0 then itS P n m (4 * j + 1) else rnS P n j m
theorem L_ahead {P : Nat} {o : S3} {mo : S2} {lo : SL} (I : IVp P o mo) (p1 p2 p3 : Int32) : w_X3_ahead p1 p2 p3 o (fun r o' => w_X4_ahead p1 p2 p3 mo lo (fun r2 mo' _ => r = r2 ∧ IV o' mo')) := by
  have hP := I.2.1.1.1
  have v := I.nV
  have w := I.nW
  have bad : ((∀ j, j < P → p1 ≠ nI j) ∨ ¬ (0 ≤ p2 ∧ p2 ≤ 60) ∨ ¬ (0 ≤ p3 ∧ p3 ≤ 1)) → w_X4_ahead p1 p2 p3 mo lo (fun r2 mo' _ => (-1 : Int32) = r2 ∧ IV o mo') := by
    intro hb
    unfold w_X4_ahead
    refine b_oz hP I.1 (fun _ => br_pos rfl ⟨rfl, P, I⟩) (fun j hj ej => br_neg n10 (b_isFar (br_zb (fun _ => ⟨rfl, P, I⟩) (fun h2 => b_isPart (br_zb (fun _ => ⟨rfl, P, I⟩) (fun h3 => ?_))))))
    rcases hb with z | z | z
    · exact absurd ej (z j hj)
    · exact absurd h2 z
    · exact absurd h3 z
  unfold w_X3_ahead
  simp only [nm]
  refine b_hz hP w.1 (fun hb => ?_) (fun j hj ej => ?_)
  · rw [up_self]; exact br_pos rfl (bad (Or.inl hb))
  · rw [up_self]
    refine br_neg n10 (b_wz (fun hb => br_pos rfl (bad (Or.inr (Or.inl hb)))) (fun h2 => br_neg n10 (b_wz (fun hb => br_pos rfl (bad (Or.inr (Or.inr hb)))) (fun h3 => br_neg n10 (b_become w v (fun w1 hw1 => ?_))))))
    obtain ⟨m, hm, rfl⟩ := r_of (hi := 60) (by omega) h2
    subst ej
    rw [up_tr1, z_cl (by omega)]
    have md : ∀ (r : Int32) (w' : S2), r = aheS P (nnS mo) j m p3 → w_X4_ahead (nI j) (nI m) p3 mo lo (fun r2 mo' _ => r = r2 ∧ IV (va_up o 2 w') mo') := by
      intro r w' hr
      have fin : ∀ (r2 : Int32) (mo' : S2), aheS P (nnS mo) j m p3 = r2 → eqM mo mo' → r = r2 ∧ IV (va_up o 2 w') mo' := fun r2 mo' h e => ⟨hr.trans h, P, IVp_q I (eqO_2 o w') e⟩
      unfold w_X4_ahead
      refine b_oz hP I.1 (fun h => absurd rfl (h j hj)) (fun _ _ _ => br_neg n10 (b_isFar (br_zb (fun h => absurd h2 h) (fun _ => b_isPart (br_zb (fun h => absurd h3 h) (fun _ => b_starts ?_))))))
      simp only [nm, jn]
      refine lfp4_inv m (fun i a b c d => a = rnS P (nnS mo) j i ∧ b = nI i ∧ (eqM mo c ∧ c 2 = itS P (nnS mo) i) ∧ d = lo) ?_ ?_ (k := 0) (by omega) ⟨rfl, rfl, ⟨eqM_starts mo, z_upS _ _ _⟩, rfl⟩
      · rintro a b c d ⟨rfl, rfl, ⟨h1, hc2⟩, rfl⟩ G
        refine br_pos (nI_le (Nat.le_refl _) (by omega)) (br_in (fun q => b_of (x := 1) (by omega) (fin _ _ ?_ h1)) (fun q => fin _ _ ?_ h1))
        · rw [aheS, if_pos q, hc2]
        · rw [aheS, if_neg q]
      · rintro i a b c d hi ⟨rfl, rfl, ⟨h1, hc2⟩, rfl⟩ G hG
        have v2 : Vl P (c 2) := by rw [hc2]; exact it_Vl v i
        refine br_neg (nI_ge hi (by omega)) (b_quarterGoes ((h1.1 3 (by omega)).trans I.1) v2 (fun mo' q => b_of (x := 1) (by omega) ?_))
        have hq := QR.eqM v2 q
        have g2 : mo' 2 = itS P (nnS mo) (i + 1) := by rw [q.1, hc2, itS]
        rw [g2]
        refine br_in (fun z => b_flag (fun y => absurd y (by decide)) (fun _ => hG _ _ _ _ ⟨?_, nI_1 i, ⟨h1.tr hq, g2⟩, rfl⟩)) (fun z => b_flag (fun _ => hG _ _ _ _ ⟨?_, nI_1 i, ⟨h1.tr hq, g2⟩, rfl⟩) (fun y => absurd rfl y))
        · rw [rnS, if_pos z]
        · rw [rnS, if_neg z, Int32.add_zero]
    refine lfp3_inv m (fun i a b c => a = rnS P (nnS mo) j i ∧ b = nI (i + 1) ∧ ∃ w', c = va_up o 2 w' ∧ WR P w' (itS P (nnS mo) i)) ?_ ?_ (k := 0) (by omega) ⟨rfl, rfl, w1, rfl, hw1⟩
    · rintro a b c ⟨rfl, rfl, w', rfl, hw'⟩ G
      simp only [z_upS, z_upU]
      refine br_pos (nI_lt (by omega) (by omega)) (br_in (fun q => ⟨z_in (by omega) (by omega), md _ _ ?_⟩) (fun q => md _ _ ?_))
      · rw [aheS, if_pos q]; exact (hw'.2.2.2.2.2.2.2.1 j hj).2.1
      · rw [aheS, if_neg q]
    · rintro i a b c hi ⟨rfl, rfl, w', rfl, hw'⟩ G hG
      simp only [z_upS, z_upU, jn]
      refine br_neg (nI_nlt (by omega) (by omega)) (b_step hw' (it_Vl v i) (fun w2 hw2 => b_isRuined (n := itS P (nnS mo) (i + 1)) hw2 hP hj ?_))
      refine br_zb (fun z => hG _ _ _ ⟨?_, nI_1 (i + 1), w2, rfl, hw2⟩) (fun z => hG _ _ _ ⟨?_, nI_1 (i + 1), w2, rfl, hw2⟩)
      · rw [rnS, if_neg z]
      · rw [rnS, if_pos z]
