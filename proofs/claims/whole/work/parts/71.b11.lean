noncomputable def ctF (P : Nat) (n : S1) (j : Nat) : Nat → Nat → Int32
  | 0, _ => -4
  | f + 1, k => if itS P n k 22 = nI j then nI k else ctF P n j f (k + 1)
noncomputable def ctS (P : Nat) (n : S1) (j : Nat) : Int32 := ctF P n j 61 0
theorem b_comesTo {P j : Nat} {w : S2} {n : S1} {K : Int32 → S2 → Prop} (h : WR P w n) (v : Vl P n) (hj : j < P) (k : ∀ w', K (ctS P n j) w') : w_X2_comesTo (nI j) w K := by
  unfold w_X2_comesTo
  simp only [nm]
  refine lfp2_inv 61 (fun i a b => a = nI i ∧ WR P b (itS P n i) ∧ ctS P n j = ctF P n j (61 - i) i) ?_ ?_ (k := 0) (by omega) ⟨rfl, h, rfl⟩
  · rintro a b ⟨rfl, hb, hc⟩ G
    refine br_pos (nI_lt (a := 60) (by omega) (by omega)) ?_
    have := k b; rw [hc] at this; exact this
  · rintro i a b hi ⟨rfl, hb, hc⟩ G hG
    have ec : ctF P n j (61 - i) i = if itS P n i 22 = nI j then nI i else ctF P n j (61 - (i + 1)) (i + 1) := by
      rw [show 61 - i = (61 - (i + 1)) + 1 by omega, ctF]
    refine br_neg (nI_nlt (a := 60) (by omega) (by omega)) ?_
    rw [hb.2.2.2.1 (by omega)]
    refine br_in (fun q => ?_) (fun q => b_step hb (it_Vl v i) (fun w' hw' => hG _ _ ⟨nI_1 i, hw', ?_⟩))
    · have := k b; rw [hc, ec, if_pos q] at this; exact this
    · rw [hc, ec, if_neg q]
theorem b_quartersTo {P j : Nat} {mo : S2} {lo : SL} {K : Int32 → S2 → SL → Prop} (e3 : mo 0 3 = nI P) (v : Vl P (mo 2)) (k : ∀ mo', eqM mo mo' → K (ctS P (mo 2) j) mo' lo) : w_X4_quartersTo (nI j) mo lo K := by
  unfold w_X4_quartersTo
  simp only [nm, tn_22]
  refine lfp3_inv 61 (fun i a b c => a = nI i ∧ (eqM mo b ∧ b 2 = itS P (mo 2) i ∧ ctS P (mo 2) j = ctF P (mo 2) j (61 - i) i) ∧ c = lo) ?_ ?_ (k := 0) (by omega) ⟨rfl, ⟨eqM.rf mo, rfl, rfl⟩, rfl⟩
  · rintro a b c ⟨rfl, ⟨h1, h2, hc⟩, rfl⟩ G
    refine br_pos (nI_lt (a := 60) (by omega) (by omega)) ?_
    have := k b h1; rw [hc] at this; exact this
  · rintro i a b c hi ⟨rfl, ⟨h1, h2, hc⟩, rfl⟩ G hG
    have ec : ctF P (mo 2) j (61 - i) i = if itS P (mo 2) i 22 = nI j then nI i else ctF P (mo 2) j (61 - (i + 1)) (i + 1) := by
      rw [show 61 - i = (61 - (i + 1)) + 1 by omega, ctF]
    have v2 : Vl P (b 2) := by rw [h2]; exact it_Vl v i
    refine br_neg (nI_nlt (a := 60) (by omega) (by omega)) ?_
    rw [h2]
    refine br_in (fun q => ?_) (fun q => b_quarterGoes ((h1.1 3 (by omega)).trans e3) v2 (fun mo' z => hG _ _ _ ⟨nI_1 i, ⟨h1.tr (QR.eqM v2 z), ?_, ?_⟩, rfl⟩))
    · have := k b h1; rw [hc, ec, if_pos q] at this; exact this
    · rw [z.1, h2, itS]
    · rw [hc, ec, if_neg q]
theorem L_soonest {P : Nat} {o : S3} {mo : S2} {lo : SL} (I : IVp P o mo) (p1 : Int32) : w_X3_soonest p1 o (fun r o' => w_X4_soonest p1 mo lo (fun r2 mo' _ => r = r2 ∧ IV o' mo')) := by
  have hP := I.2.1.1.1
  have v := I.nV
  have w := I.nW
  unfold w_X3_soonest
  simp only [nm]
  refine b_hz hP w.1 (fun hb => ?_) (fun j hj ej => ?_)
  · rw [up_self]
    refine br_pos rfl ?_
    unfold w_X4_soonest
    exact b_oz hP I.1 (fun _ => br_pos rfl ⟨rfl, P, I⟩) (fun j hj ej => absurd ej (hb j hj))
  · rw [up_self]
    subst ej
    refine br_neg n10 (b_become w v (fun w1 hw1 => ?_))
    rw [up_tr1]
    simp only [z_upS, z_upU]
    refine b_comesTo hw1 v hj (fun w2 => ?_)
    unfold w_X4_soonest
    refine b_oz hP I.1 (fun h => absurd rfl (h j hj)) (fun _ _ _ => br_neg n10 (b_starts (b_quartersTo (P := P) I.1 (by rw [z_upS]; exact v) (fun mo' h => ⟨?_, P, IVp_q I (eqO_2 o w2) ((eqM_starts mo).tr h)⟩))))
    rw [z_upS]; rfl
noncomputable def rdF (P : Nat) (n : S1) : Nat → Nat → Int32 → Int32
  | 0, _, _ => -4
  | f + 1, k, b => if b ||| ((1 : Int32) <<< (itS P n (k + 1) 22 &&& 31)) = (1 : Int32) <<< (nI P &&& 31) - 1 then nI (k + 1) else rdF P n f (k + 1) (b ||| ((1 : Int32) <<< (itS P n (k + 1) 22 &&& 31)))
noncomputable def rdS (P : Nat) (n : S1) : Int32 := rdF P n 60 0 ((1 : Int32) <<< (n 22 &&& 31))
theorem L_round {P : Nat} {o : S3} {mo : S2} {lo : SL} (I : IVp P o mo) : w_X3_round o (fun r o' => w_X4_round mo lo (fun r2 mo' _ => r = r2 ∧ IV o' mo')) := by
  have hP := I.2.1.1.1
  have v := I.nV
  have w := I.nW
  unfold w_X3_round
  simp only [nm]
  refine br_in (fun q => ?_) (fun q => b_become w v (fun w1 hw1 => ?_))
  · unfold w_X4_round
    exact br_pos (by rw [I.1, ← w.1]; exact q) ⟨rfl, P, I⟩
  · have P0 : 0 < P := Nat.pos_of_ne_zero (fun z => q (by rw [w.1, z]; rfl))
    have nz : ¬ mo 0 3 = 0 := by rw [I.1, ← w.1]; exact q
    have md : ∀ w' : S2, w_X4_round mo lo (fun r2 mo' _ => rdS P (nnS mo) = r2 ∧ IV (va_up o 2 w') mo') := by
      intro w'
      unfold w_X4_round
      simp only [nm, tn_22]
      refine br_neg nz (b_starts ?_)
      refine lfp4_inv 60 (fun i a b c d => b = nI (i + 1) ∧ (eqM mo c ∧ c 2 = itS P (nnS mo) i ∧ rdS P (nnS mo) = rdF P (nnS mo) (60 - i) i a) ∧ d = lo) ?_ ?_ (k := 0) (by omega) ⟨rfl, ⟨eqM_starts mo, z_upS _ _ _, ?_⟩, rfl⟩
      · rintro a b c d ⟨rfl, ⟨h1, h2, hc⟩, rfl⟩ G
        exact br_pos (nI_lt (a := 60) (by omega) (by omega)) ⟨hc, P, IVp_q I (eqO_2 o w') h1⟩
      · rintro i a b c d hi ⟨rfl, ⟨h1, h2, hc⟩, rfl⟩ G hG
        have v2 : Vl P (c 2) := by rw [h2]; exact it_Vl v i
        refine br_neg (nI_nlt (a := 60) (by omega) (by omega)) (b_quarterGoes ((h1.1 3 (by omega)).trans I.1) v2 (fun mo' z => ?_))
        have hq := QR.eqM v2 z
        have g2 : mo' 2 = itS P (nnS mo) (i + 1) := by rw [z.1, h2, itS]
        rw [g2, (hq.1 3 (by omega)).trans ((h1.1 3 (by omega)).trans I.1)]
        rw [show 60 - i = (60 - (i + 1)) + 1 by omega, rdF] at hc
        refine br_in (fun y => ?_) (fun y => hG _ _ _ _ ⟨nI_1 (i + 1), ⟨h1.tr hq, g2, ?_⟩, rfl⟩)
        · rw [if_pos y] at hc
          exact ⟨hc, P, IVp_q I (eqO_2 o w') (h1.tr hq)⟩
        · rw [if_neg y] at hc; exact hc
      · rw [z_upS]; rfl
    rw [up_tr1]
    simp only [z_upS, up21]
    rw [w.1, (hw1.2.2.2.1 P0)]
    refine lfp3_inv 60 (fun i a b c => b = nI (i + 1) ∧ (∃ w', c = va_up o 2 w' ∧ WR P w' (itS P (nnS mo) i)) ∧ rdS P (nnS mo) = rdF P (nnS mo) (60 - i) i a) ?_ ?_ (k := 0) (by omega) ⟨rfl, ⟨w1, rfl, hw1⟩, rfl⟩
    · rintro a b c ⟨rfl, ⟨w', rfl, hw'⟩, hc⟩ G
      refine br_pos (nI_lt (a := 60) (by omega) (by omega)) ?_
      have := md w'; rw [hc] at this; exact this
    · rintro i a b c hi ⟨rfl, ⟨w', rfl, hw'⟩, hc⟩ G hG
      simp only [z_upS, z_upU]
      refine br_neg (nI_nlt (a := 60) (by omega) (by omega)) (b_step hw' (it_Vl v i) (fun w2 hw2 => ?_))
      have hw2 : WR P w2 (itS P (nnS mo) (i + 1)) := hw2
      rw [hw2.2.2.2.1 P0]
      rw [show 60 - i = (60 - (i + 1)) + 1 by omega, rdF] at hc
      refine br_in (fun y => ?_) (fun y => hG _ _ _ ⟨nI_1 (i + 1), ⟨w2, rfl, hw2⟩, ?_⟩)
      · rw [if_pos y] at hc
        have := md w2; rw [hc] at this; exact this
      · rw [if_neg y] at hc; exact hc
-- the best
noncomputable def tdS (P : Nat) (n : S1) (j : Nat) : Nat → Int32 × Int32
  | 0 => (-4, 61)
  | t + 1 => if ctS P (upd n (4 * j + 2) (nI t)) j = -4 ∨ (tdS P n j t).2 ≤ ctS P (upd n (4 * j + 2) (nI t)) j then tdS P n j t else (nI t, ctS P (upd n (4 * j + 2) (nI t)) j)
noncomputable def traS (P : Nat) (n : S1) (j : Nat) (p : Int32) : Int32 := if (tdS P n j 21).1 = -4 then -4 else if p = 0 then (tdS P n j 21).1 else (tdS P n j 21).2
theorem L_trade {P : Nat} {o : S3} {mo : S2} {lo : SL} (I : IVp P o mo) (p1 p2 : Int32) : w_X3_trade p1 p2 o (fun r o' => w_X4_trade p1 p2 mo lo (fun r2 mo' _ => r = r2 ∧ IV o' mo')) := by
  have hP := I.2.1.1.1
  have v := I.nV
  have w := I.nW
  have bad : ((∀ j, j < P → p1 ≠ nI j) ∨ ¬ (0 ≤ p2 ∧ p2 ≤ 1)) → w_X4_trade p1 p2 mo lo (fun r2 mo' _ => (-1 : Int32) = r2 ∧ IV o mo') := by
    intro hb
    unfold w_X4_trade
    refine b_oz hP I.1 (fun _ => br_pos rfl ⟨rfl, P, I⟩) (fun j hj ej => br_neg n10 (b_isPart (br_zb (fun _ => ⟨rfl, P, I⟩) (fun h3 => ?_))))
    rcases hb with z | z
    · exact absurd ej (z j hj)
    · exact absurd h3 z
  unfold w_X3_trade
  simp only [nm]
  refine b_hz hP w.1 (fun hb => ?_) (fun j hj ej => ?_)
  · rw [up_self]; exact br_pos rfl (bad (Or.inl hb))
  · rw [up_self]
    refine br_neg n10 (b_wz (fun hb => br_pos rfl (bad (Or.inr hb))) (fun h2 => br_neg n10 ?_))
    subst ej
    rw [z_cl (by omega)]
    have md : ∀ (r : Int32) (w' : S2), r = traS P (nnS mo) j p2 → w_X4_trade (nI j) p2 mo lo (fun r2 mo' _ => r = r2 ∧ IV (va_up o 2 w') mo') := by
      intro r w' hr
      have fin : ∀ (r2 : Int32) (mo' : S2), traS P (nnS mo) j p2 = r2 → eqM mo mo' → r = r2 ∧ IV (va_up o 2 w') mo' := fun r2 mo' h e => ⟨hr.trans h, P, IVp_q I (eqO_2 o w') e⟩
      unfold w_X4_trade
      refine b_oz hP I.1 (fun h => absurd rfl (h j hj)) (fun _ _ _ => br_neg n10 (b_isPart (br_zb (fun h => absurd h2 h) (fun _ => ?_))))
      simp only [nm, jn]
      refine lfp5_inv 21 (fun i a b c d e => a = (tdS P (nnS mo) j i).2 ∧ b = (tdS P (nnS mo) j i).1 ∧ c = nI i ∧ eqM mo d ∧ e = lo) ?_ ?_ (k := 0) (by omega) ⟨rfl, rfl, rfl, eqM.rf mo, rfl⟩
      · rintro a b c d e ⟨rfl, rfl, rfl, h1, rfl⟩ G
        refine br_pos (nI_lt (a := 20) (by omega) (by omega)) (br_in (fun q => fin _ _ ?_ h1) (fun q => br_in (fun q2 => fin _ _ ?_ h1) (fun q2 => fin _ _ ?_ h1)))
        · rw [traS, if_pos q]
        · rw [traS, if_neg q, if_pos q2]
        · rw [traS, if_neg q, if_neg q2]
      · rintro i a b c d e hi ⟨rfl, rfl, rfl, h1, rfl⟩ G hG
        refine br_neg (nI_nlt (a := 20) (by omega) (by omega)) (b_starts (b_becomesOf (x := 2) (by omega) ?_))
        rw [z_upU, z_upS]
        have en : fil (d 1) (d 2) 57 = nnS mo := h1.nn
        rw [en]
        refine b_quartersTo (P := P) ((h1.1 3 (by omega)).trans I.1) (by rw [z_upS]; exact Vl_safe v (by omega) _) (fun mo' h => ?_)
        rw [z_upS]
        have h3 : eqM mo mo' := (h1.tr (eqM_up2 d _ (fun x hx => by rw [z_upd_ne _ _ (by omega), ← en]; exact fil_hi _ _ hx))).tr h
        refine br_in (fun y => ?_) (fun y => br_in (fun y2 => ?_) (fun y2 => ?_))
        · exact br_pos trivial (br_pos trivial (hG _ _ _ _ _ ⟨by rw [tdS, if_pos (Or.inl y)], by rw [tdS, if_pos (Or.inl y)], nI_1 i, h3, rfl⟩))
        · exact br_pos trivial (br_pos trivial (hG _ _ _ _ _ ⟨by rw [tdS, if_pos (Or.inr y2)], by rw [tdS, if_pos (Or.inr y2)], nI_1 i, h3, rfl⟩))
        · have hn : ¬ (ctS P (upd (nnS mo) (4 * j + 2) (nI i)) j = -4 ∨ (tdS P (nnS mo) j i).2 ≤ ctS P (upd (nnS mo) (4 * j + 2) (nI i)) j) := fun z => z.elim y y2
          exact br_neg n10 (br_neg n10 (hG _ _ _ _ _ ⟨by rw [tdS, if_neg hn], by rw [tdS, if_neg hn], nI_1 i, h3, rfl⟩))
    refine lfp4_inv 21 (fun i a b c d => a = (tdS P (nnS mo) j i).1 ∧ b = (tdS P (nnS mo) j i).2 ∧ c = nI i ∧ ∃ w', d = va_up o 2 w') ?_ ?_ (k := 0) (by omega) ⟨rfl, rfl, rfl, o 2, up_22 o⟩
    · rintro a b c d ⟨rfl, rfl, rfl, w', rfl⟩ G
      refine br_pos (nI_lt (a := 20) (by omega) (by omega)) (br_in (fun q => md _ _ ?_) (fun q => br_in (fun q2 => md _ _ ?_) (fun q2 => md _ _ ?_)))
      · rw [traS, if_pos q]; exact q
      · rw [traS, if_neg q, if_pos q2]
      · rw [traS, if_neg q, if_neg q2]
    · rintro i a b c d hi ⟨rfl, rfl, rfl, w', rfl⟩ G hG
      simp only [up21]
      refine br_neg (nI_nlt (a := 20) (by omega) (by omega)) (b_become w v (fun w1 hw1 => ⟨z_in (by omega) (by omega), ?_⟩))
      rw [up_tr2]
      simp only [z_upS, z_upU, jn]
      refine b_comesTo (WR_td hw1 hP hj _) (Vl_safe v (by omega) _) hj (fun w2 => ?_)
      refine br_in (fun y => ?_) (fun y => br_in (fun y2 => ?_) (fun y2 => ?_))
      · exact hG _ _ _ _ ⟨by rw [tdS, if_pos (Or.inl y)], by rw [tdS, if_pos (Or.inl y)], nI_1 i, w2, rfl⟩
      · exact hG _ _ _ _ ⟨by rw [tdS, if_pos (Or.inr y2)], by rw [tdS, if_pos (Or.inr y2)], nI_1 i, w2, rfl⟩
      · have hn : ¬ (ctS P (upd (nnS mo) (4 * j + 2) (nI i)) j = -4 ∨ (tdS P (nnS mo) j i).2 ≤ ctS P (upd (nnS mo) (4 * j + 2) (nI i)) j) := fun z => z.elim y y2
        exact hG _ _ _ _ ⟨by rw [tdS, if_neg hn], by rw [tdS, if_neg hn], nI_1 i, w2, rfl⟩
