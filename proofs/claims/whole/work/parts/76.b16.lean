theorem b_fits {P j t : Nat} {o c : S3} {n : S1} {K : Int32 → S3 → Prop} (w : WR P (o 1) n) (v : Vl P n) (hj : j < P) (h1 : eqO o c) (k : ∀ d, eqO o d → (∀ q, q < 21 → d 0 4 q = itS P (upd n (4 * j + 2) (nI t)) q 22) → d 0 5 = c 0 5 → K (fiS P n (upd n (4 * j + 2) (nI t))) d) : w_X3_fitsByTrade (nI j) (nI t) c K := by
  have hP := v.1
  have c1 : c 1 = o 1 := h1.1 1 (by omega) (by omega) (by omega)
  unfold w_X3_fitsByTrade
  refine b_become (by rw [c1]; exact w) v (fun w1 hw1 => nm_in ?_)
  rw [c1, z_cl (by omega)]
  have hd := eqO_b (eqO_a h1 w1) (o 1) rfl
  have d2 : (va_up (va_up c 2 w1) 1 (o 1)) 2 = w1 := by rw [z_upN _ _ (by decide), z_upS]
  have d5 : (va_up (va_up c 2 w1) 1 (o 1)) 0 5 = c 0 5 := rfl
  generalize va_up (va_up c 2 w1) 1 (o 1) = d at hd d2 d5 ⊢
  rw [d2]
  refine ⟨z_in (by omega) (by omega), nm_in ?_⟩
  rw [z_upS]
  refine b_trace (WR_td hw1 hP hj (nI t)) (Vl_safe v (by omega) _) (by omega) (fun w2 f2 hf2 => nm_in ?_)
  have hd2 := eqO_c (eqO_a (eqO_a hd (va_up w1 3 (upd (w1 3) j (nI t)))) w2) (k := 4) (by omega) f2
  have g1 := hd2.1 1 (by omega) (by omega) (by omega)
  have g4 : (va_up (va_up (va_up d 2 (va_up w1 3 (upd (w1 3) j (nI t)))) 2 w2) 0 (va_up ((va_up (va_up d 2 (va_up w1 3 (upd (w1 3) j (nI t)))) 2 w2) 0) 4 f2)) 0 4 = f2 := by rw [z_upS, z_upS]
  have g5 : (va_up (va_up (va_up d 2 (va_up w1 3 (upd (w1 3) j (nI t)))) 2 w2) 0 (va_up ((va_up (va_up d 2 (va_up w1 3 (upd (w1 3) j (nI t)))) 2 w2) 0) 4 f2)) 0 5 = c 0 5 := d5
  have eX : (va_up (va_up d 2 (va_up w1 3 (upd (w1 3) j (nI t)))) 2 w2) 0 = (va_up d 2 (va_up w1 3 (upd (w1 3) j (nI t)))) 0 := rfl
  rw [eX] at hd2 g1 g4 g5
  generalize va_up (va_up (va_up d 2 (va_up w1 3 (upd (w1 3) j (nI t)))) 2 w2) 0 (va_up ((va_up d 2 (va_up w1 3 (upd (w1 3) j (nI t)))) 0) 4 f2) = e at hd2 g1 g4 g5 ⊢
  rw [g1, g4]
  refine b_isAsSeen w v (nm_in ⟨as_01 _ _ _, ?_⟩)
  have hd3 := eqO_c (eqO_b hd2 (o 1) rfl) (k := 4) (by omega) f2
  have ef : asS n f2 (n 44).toNatClampNeg = fiS P n (upd n (4 * j + 2) (nI t)) := by
    obtain ⟨s, s6, hs, hsi⟩ := v.2.2.2.2.1
    unfold fiS
    rw [hs, z_cl (by omega)]
    exact as_cong s6 hsi (fun _ _ => rfl) hf2 s (Nat.le_refl _)
  rw [ef]
  refine k _ hd3 (fun q hq => ?_) ?_
  · rw [z_upS, z_upS]; exact hf2 q hq
  · rw [z_upS, z_upN _ _ (by decide)]; exact g5
theorem L_trades {P : Nat} {o : S3} {mo : S2} {lo : SL} (I : IVp P o mo) (p1 : Int32) : w_X3_trades p1 o (fun r o' => w_X4_trades p1 mo lo (fun r2 mo' _ => r = r2 ∧ IV o' mo')) := by
  have hP := I.2.1.1.1
  have v := I.nV
  have w := I.nW
  unfold w_X3_trades
  refine b_hz hP w.1 (fun hb => nm_in ?_) (fun j hj ej => nm_in ?_)
  · rw [up_self]
    refine br_pos rfl ?_
    unfold w_X4_trades
    exact b_oz hP I.1 (fun _ => br_pos rfl ⟨rfl, P, I⟩) (fun j hj ej => absurd ej (hb j hj))
  · rw [up_self]
    subst ej
    refine br_neg n10 ?_
    have md : ∀ o' : S3, eqO o o' → w_X4_trades (nI j) mo lo (fun r2 mo' _ => bsS P (nnS mo) (4 * j + 2) 21 = r2 ∧ IV o' mo') := by
      intro o' ho
      unfold w_X4_trades
      refine b_oz hP I.1 (fun h => absurd rfl (h j hj)) (fun _ _ _ => br_neg n10 ?_)
      refine lfp4_inv 21 (fun i a b c d => a = bsS P (nnS mo) (4 * j + 2) i ∧ b = nI i ∧ eqM mo c ∧ d = lo) ?_ ?_ (k := 0) (by omega) ⟨rfl, rfl, eqM.rf mo, rfl⟩
      · rintro a b c d ⟨rfl, rfl, h1, rfl⟩ G
        exact br_pos (nI_lt (a := 20) (by omega) (by omega)) ⟨rfl, P, IVp_q I ho h1⟩
      · rintro i a b c d hi ⟨rfl, rfl, h1, rfl⟩ G hG
        refine br_neg (nI_nlt (a := 20) (by omega) (by omega)) (b_isSoWith (P := P) (x := 2) ((h1.1 3 (by omega)).trans I.1) (by rw [h1.nn]; exact v) (by omega) (by rw [h1.nn]; exact Vl_safe v (by omega) _) (fun mo' h2 _ _ => ?_))
        rw [h1.nn]
        exact b_flagF (nm_in (nm_in (hG _ _ _ _ ⟨md_bits (by omega), nI_1 i, h1.tr h2, rfl⟩)))
    refine lfp3_inv 21 (fun i a b c => a = bsS P (nnS mo) (4 * j + 2) i ∧ b = nI i ∧ eqO o c) ?_ ?_ (k := 0) (by omega) ⟨rfl, rfl, eqO.rf o⟩
    · rintro a b c ⟨rfl, rfl, h1⟩ G
      exact br_pos (nI_lt (a := 20) (by omega) (by omega)) (md c h1)
    · rintro i a b c hi ⟨rfl, rfl, h1⟩ G hG
      refine br_neg (nI_nlt (a := 20) (by omega) (by omega)) (b_fits w v hj h1 (fun d hd _ _ => ?_))
      refine jn_in (fun J => J (bsS P (nnS mo) (4 * j + 2) (i + 1))) (nm_in (hG _ _ _ ⟨rfl, nI_1 i, hd⟩)) (fun J hJ => br_in (fun q => ?_) (fun q => nm_in ?_))
      · rw [bsS, if_pos q] at hJ; exact hJ
      · rw [bsS, if_neg q] at hJ; exact hJ
-- which quarter to ask for
/-- one more for each place where the coin is -/
def wyA (f h : S1) : Nat → S1
  | 0 => f
  | q + 1 => upd (wyA f h q) (5 * q + (h q).toNatClampNeg) (wyA f h q (5 * q + (h q).toNatClampNeg) + 1)
noncomputable def wyS (P : Nat) (n : S1) (j : Nat) : Nat → S1
  | 0 => fun _ => 0
  | t + 1 => if fiS P n (upd n (4 * j + 2) (nI t)) = 0 then wyS P n j t else wyA (wyS P n j t) (fun q => itS P (upd n (4 * j + 2) (nI t)) q 22) 21
noncomputable def cnS (P : Nat) (n : S1) (j : Nat) : Nat → Int32
  | 0 => 0
  | t + 1 => if fiS P n (upd n (4 * j + 2) (nI t)) = 0 then cnS P n j t else cnS P n j t + 1
theorem wyA_cong {f g h k : S1} (hf : ∀ i, i < 105 → f i = g i) (hk : ∀ q, q < 21 → h q = k q) (hr : ∀ q, q < 21 → (k q).toNatClampNeg < 5) : ∀ q, q ≤ 21 → ∀ i, i < 105 → wyA f h q i = wyA g k q i := by
  intro q
  induction q with
  | zero => intro _ i hi; exact hf i hi
  | succ q ih =>
    intro hq i hi
    have ih := ih (by omega)
    have hr := hr q (by omega)
    rw [wyA, wyA, hk q (by omega), ih _ (by omega)]
    by_cases e : i = 5 * q + (k q).toNatClampNeg
    · rw [e, z_upd_same, z_upd_same]
    · rw [z_upd_ne _ _ e, z_upd_ne _ _ e]; exact ih i hi
theorem it22 {P : Nat} {n : S1} (v : Vl P n) (P0 : 0 < P) (q : Nat) : ∃ h, h < P ∧ itS P n q 22 = nI h := (it_Vl v q).2.2.1 P0
def mxS (f : S1) (q : Nat) : Nat → Int32
  | 0 => 0
  | p + 1 => if mxS f q p < f (5 * q + p) then f (5 * q + p) else mxS f q p
theorem mx_cong {f g : S1} {q : Nat} (hq : q < 21) (h : ∀ i, i < 105 → f i = g i) : ∀ p, p ≤ 5 → mxS f q p = mxS g q p := by
  intro p
  induction p with
  | zero => intro _; rfl
  | succ p ih => intro hp; rw [mxS, mxS, ih (by omega), h _ (by omega)]
noncomputable def akS (P : Nat) (n : S1) (j : Nat) : Nat → Int32 × Int32
  | 0 => (-4, cnS P n j 21)
  | q + 1 => if (akS P n j q).2 ≤ mxS (wyS P n j 21) q 5 then akS P n j q else (nI q, mxS (wyS P n j 21) q 5)
noncomputable def askS (P : Nat) (n : S1) (j : Nat) (p : Int32) : Int32 := if (akS P n j 21).1 = -4 then -4 else if p = 0 then (akS P n j 21).1 else (akS P n j 21).2
theorem b_mostInRow {q : Nat} {o : S3} {K : Int32 → S3 → Prop} (hq : q < 21) (k : K (mxS (o 0 5) q 5) o) : w_X3_mostInRow (nI q) o K := by
  unfold w_X3_mostInRow
  refine lfp2_inv 5 (fun i a b => a = mxS (o 0 5) q i ∧ b = nI i) ?_ ?_ (k := 0) (by omega) ⟨rfl, rfl⟩
  · rintro a b ⟨rfl, rfl⟩ G
    exact br_pos (nI_le (Nat.le_refl 5) (by omega)) k
  · rintro i a b hi ⟨rfl, rfl⟩ G hG
    rw [show nI q * 5 + nI i = nI (5 * q + i) by rw [show (5 : Int32) = nI 5 from rfl, z_mul, z_add, Nat.mul_comm], z_cl (by omega)]
    exact br_neg (nI_ge (b := 5) hi (by omega)) ⟨z_in (by omega) (by omega), nm_in (nm_in (hG _ _ ⟨by rw [mxS], nI_1 i⟩))⟩
theorem b_tally {P j : Nat} {o : S3} {n : S1} {K : Int32 → S3 → Prop} (w : WR P (o 1) n) (v : Vl P n) (hj : j < P) (k : ∀ d, eqO o d → (∀ i, i < 105 → d 0 5 i = wyS P n j 21 i) → K (cnS P n j 21) d) : w_X3_tallyTrades (nI j) o K := by
  have hP := v.1
  unfold w_X3_tallyTrades
  refine lfp2_inv 105 (fun i a c => a = nI i ∧ eqO o c ∧ ∀ q, q < i → c 0 5 q = 0) ?_ ?_ (k := 0) (by omega) ⟨rfl, eqO.rf o, fun q hq => absurd hq (by omega)⟩
  · rintro a c ⟨rfl, h1, h5⟩ G
    refine br_pos (nI_le (Nat.le_refl 105) (by omega)) ?_
    refine lfp3_inv 21 (fun t a b d => a = cnS P n j t ∧ b = nI t ∧ eqO o d ∧ ∀ i, i < 105 → d 0 5 i = wyS P n j t i) ?_ ?_ (k := 0) (by omega) ⟨rfl, rfl, h1, h5⟩
    · rintro a b d ⟨rfl, rfl, h2, hd⟩ G2
      exact br_pos (nI_lt (a := 20) (by omega) (by omega)) (k d h2 hd)
    · rintro t a b d ht ⟨rfl, rfl, h2, hd⟩ G2 hG2
      refine br_neg (nI_nlt (a := 20) (by omega) (by omega)) (b_fits w v hj h2 (fun e he hf h05 => ?_))
      have vt : Vl P (upd n (4 * j + 2) (nI t)) := Vl_safe v (by omega) _
      refine jn_in (fun J => ∀ e', eqO o e' → (∀ i, i < 105 → e' 0 5 i = wyS P n j (t + 1) i) → J (cnS P n j (t + 1)) e') (fun e' he' h' => nm_in (hG2 _ _ _ ⟨rfl, nI_1 t, he', h'⟩)) (fun J hJ => br_in (fun q => ?_) (fun q => nm_in ?_))
      · have := hJ e he (fun i hi => by rw [h05, wyS, if_pos q]; exact hd i hi)
        rw [cnS, if_pos q] at this; exact this
      · refine lfp2_inv 21 (fun q a b => a = nI q ∧ eqO o b ∧ b 0 4 = e 0 4 ∧ b 0 5 = wyA (e 0 5) (e 0 4) q) ?_ ?_ (k := 0) (by omega) ⟨rfl, he, rfl, rfl⟩
        · rintro a b ⟨rfl, hb, b4, b5⟩ G3
          refine br_pos (nI_lt (a := 20) (by omega) (by omega)) ?_
          have := hJ b hb (fun i hi => by
            rw [wyS, if_neg q, b5]
            refine wyA_cong (fun i hi => by rw [h05]; exact hd i hi) hf (fun q hq => ?_) 21 (Nat.le_refl _) i hi
            obtain ⟨x, hx, ex⟩ := it22 vt (by omega) q
            rw [ex, z_cl (by omega)]; omega)
          rw [cnS, if_neg q] at this; exact this
        · rintro q a b hq ⟨rfl, hb, b4, b5⟩ G3 hG3
          obtain ⟨x, hx, ex⟩ := it22 vt (by omega) q
          rw [z_cl (n := q) (by omega), b4, hf q hq, ex, show nI q * 5 + nI x = nI (5 * q + x) by rw [show (5 : Int32) = nI 5 from rfl, z_mul, z_add, Nat.mul_comm], z_cl (n := 5 * q + x) (by omega)]
          refine br_neg (nI_nlt (a := 20) (by omega) (by omega)) ⟨z_in (by omega) (by omega), z_in (by omega) (by omega), z_in (by omega) (by omega), nm_in (nm_in (hG3 _ _ ⟨nI_1 q, eqO_c hb (by omega) _, ?_, ?_⟩))⟩
          · rw [z_upS, z_upN _ _ (by decide)]; exact b4
          · rw [z_upS, z_upS, wyA, hf q hq, ex, z_cl (by omega), b5]
  · rintro i a c hi ⟨rfl, h1, h5⟩ G hG
    rw [z_cl (by omega)]
    refine br_neg (nI_ge (b := 105) hi (by omega)) ⟨z_in (by omega) (by omega), nm_in (nm_in (hG _ _ ⟨nI_1 i, eqO_c h1 (by omega) _, fun q hq => ?_⟩))⟩
    rw [z_upS, z_upS]
    by_cases e : q = i
    · subst e; exact z_upd_same _ _ _
    · rw [z_upd_ne _ _ e]; exact h5 q (by omega)
theorem L_ask {P : Nat} {o : S3} {mo : S2} {lo : SL} (I : IVp P o mo) (p1 p2 : Int32) : w_X3_ask p1 p2 o (fun r o' => w_X4_ask p1 p2 mo lo (fun r2 mo' _ => r = r2 ∧ IV o' mo')) := by
  have hP := I.2.1.1.1
  have v := I.nV
  have w := I.nW
  have bad : ((∀ j, j < P → p1 ≠ nI j) ∨ ¬ (0 ≤ p2 ∧ p2 ≤ 1)) → w_X4_ask p1 p2 mo lo (fun r2 mo' _ => (-1 : Int32) = r2 ∧ IV o mo') := by
    intro hb
    unfold w_X4_ask
    refine b_oz hP I.1 (fun _ => br_pos rfl ⟨rfl, P, I⟩) (fun j hj ej => br_neg n10 (b_isPart (br_zb (fun _ => ⟨rfl, P, I⟩) (fun h3 => ?_))))
    rcases hb with z | z
    · exact absurd ej (z j hj)
    · exact absurd h3 z
  unfold w_X3_ask
  refine b_hz hP w.1 (fun hb => nm_in ?_) (fun j hj ej => nm_in ?_)
  · rw [up_self]; exact br_pos rfl (bad (Or.inl hb))
  · rw [up_self]
    refine br_neg n10 (b_wz (fun hb => br_pos rfl (bad (Or.inr hb))) (fun h2 => br_neg n10 (nm_in ?_)))
    subst ej
    have md : ∀ (r : Int32) (o' : S3), eqO o o' → r = askS P (nnS mo) j p2 → w_X4_ask (nI j) p2 mo lo (fun r2 mo' _ => r = r2 ∧ IV o' mo') := by
      intro r o' ho hr
      have fin : ∀ (r2 : Int32) (mo' : S2), askS P (nnS mo) j p2 = r2 → eqM mo mo' → r = r2 ∧ IV o' mo' := fun r2 mo' h e => ⟨hr.trans h, P, IVp_q I ho e⟩
      unfold w_X4_ask
      refine b_oz hP I.1 (fun h => absurd rfl (h j hj)) (fun _ _ _ => br_neg n10 (b_isPart (br_zb (fun h => absurd h2 h) (fun _ => nm_in ?_))))
      refine lfp3_inv 105 (fun i a b c => a = nI i ∧ (eqM mo b ∧ ∀ q, q < i → b 8 q = 0) ∧ c = lo) ?_ ?_ (k := 0) (by omega) ⟨rfl, ⟨eqM.rf mo, fun q hq => absurd hq (by omega)⟩, rfl⟩
      · rintro a b c ⟨rfl, ⟨h1, h8⟩, rfl⟩ G
        refine br_pos (nI_le (Nat.le_refl 105) (by omega)) ?_
        refine lfp4_inv 21 (fun t a b d e => a = cnS P (nnS mo) j t ∧ b = nI t ∧ (eqM mo d ∧ ∀ i, i < 105 → d 8 i = wyS P (nnS mo) j t i) ∧ e = c) ?_ ?_ (k := 0) (by omega) ⟨rfl, rfl, ⟨h1, h8⟩, rfl⟩
        · rintro a b d e ⟨rfl, rfl, ⟨h3, hd⟩, rfl⟩ G2
          refine br_pos (nI_lt (a := 20) (by omega) (by omega)) ?_
          refine lfp3_inv 21 (fun q a b c => a = (akS P (nnS mo) j q).2 ∧ b = (akS P (nnS mo) j q).1 ∧ c = nI q) ?_ ?_ (k := 0) (by omega) ⟨by rw [akS], by rw [akS], rfl⟩
          · rintro a b c ⟨rfl, rfl, rfl⟩ G3
            refine br_pos (nI_lt (a := 20) (by omega) (by omega)) (br_in (fun q => fin _ _ ?_ h3) (fun q => br_in (fun q2 => fin _ _ ?_ h3) (fun q2 => fin _ _ ?_ h3)))
            · rw [askS, if_pos q]
            · rw [askS, if_neg q, if_pos q2]
            · rw [askS, if_neg q, if_neg q2]
          · rintro q a b c hq ⟨rfl, rfl, rfl⟩ G3 hG3
            refine br_neg (nI_nlt (a := 20) (by omega) (by omega)) ?_
            refine lfp2_inv 5 (fun i a b => a = mxS (d 8) q i ∧ b = nI i) ?_ ?_ (k := 0) (by omega) ⟨rfl, rfl⟩
            · rintro a b ⟨rfl, rfl⟩ G4
              refine br_pos (nI_le (Nat.le_refl 5) (by omega)) ?_
              rw [mx_cong hq hd 5 (Nat.le_refl _)]
              refine jn_in (fun J => J (akS P (nnS mo) j (q + 1)).1) (jn_in (fun J2 => J2 (akS P (nnS mo) j (q + 1)).2) (nm_in (hG3 _ _ _ ⟨rfl, rfl, nI_1 q⟩)) (fun J2 hJ2 => br_in (fun y => ?_) (fun y => ?_))) (fun J hJ => br_in (fun y => ?_) (fun y => ?_))
              · rw [akS, if_pos y] at hJ2; exact hJ2
              · rw [akS, if_neg y] at hJ2; exact hJ2
              · rw [akS, if_pos y] at hJ; exact hJ
              · rw [akS, if_neg y] at hJ; exact hJ
            · rintro i a b hi ⟨rfl, rfl⟩ G4 hG4
              rw [show (5 : Int32) * nI q + nI i = nI (5 * q + i) by rw [show (5 : Int32) = nI 5 from rfl, z_mul, z_add], z_cl (by omega)]
              refine br_neg (nI_ge (b := 5) hi (by omega)) ⟨z_in (by omega) (by omega), jn_in (fun J => J (mxS (d 8) q (i + 1))) (nm_in (hG4 _ _ ⟨rfl, nI_1 i⟩)) (fun J hJ => br_in (fun y => ?_) (fun y => ⟨z_in (by omega) (by omega), ?_⟩))⟩
              · rw [mxS, if_neg (z_nlt.mpr y)] at hJ; exact hJ
              · rw [mxS, if_pos (z_nle.mp y)] at hJ; exact hJ
        · rintro t a b d e ht ⟨rfl, rfl, ⟨h3, hd⟩, rfl⟩ G2 hG2
          have vt : Vl P (upd (nnS mo) (4 * j + 2) (nI t)) := Vl_safe v (by omega) _
          refine br_neg (nI_nlt (a := 20) (by omega) (by omega)) (b_isSoWith (P := P) (x := 2) ((h3.1 3 (by omega)).trans I.1) (by rw [h3.nn]; exact v) (by omega) (by rw [h3.nn]; exact vt) (fun mo' h4 h7 h8' => ?_))
          rw [h3.nn] at h7 ⊢
          refine jn_in (fun J => ∀ m', eqM mo m' → (∀ i, i < 105 → m' 8 i = wyS P (nnS mo) j (t + 1) i) → J (cnS P (nnS mo) j (t + 1)) m' e) (fun m' hm' h' => nm_in (hG2 _ _ _ _ ⟨rfl, nI_1 t, ⟨hm', h'⟩, rfl⟩)) (fun J hJ => br_in (fun q => ?_) (fun q => nm_in ?_))
          · have := hJ mo' (h3.tr h4) (fun i hi => by rw [h8', wyS, if_pos q]; exact hd i hi)
            rw [cnS, if_pos q] at this; exact this
          · refine lfp3_inv 21 (fun q a b c => a = nI q ∧ (eqM mo b ∧ b 7 = mo' 7 ∧ b 8 = wyA (mo' 8) (mo' 7) q) ∧ c = e) ?_ ?_ (k := 0) (by omega) ⟨rfl, ⟨h3.tr h4, rfl, rfl⟩, rfl⟩
            · rintro a b c ⟨rfl, ⟨hb, b7, b8⟩, rfl⟩ G3
              refine br_pos (nI_lt (a := 20) (by omega) (by omega)) ?_
              have := hJ b hb (fun i hi => by
                rw [wyS, if_neg q, b8]
                refine wyA_cong (fun i hi => by rw [h8']; exact hd i hi) h7 (fun q hq => ?_) 21 (Nat.le_refl _) i hi
                obtain ⟨x, hx, ex⟩ := it22 vt (by omega) q
                rw [ex, z_cl (by omega)]; omega)
              rw [cnS, if_neg q] at this; exact this
            · rintro q a b c hq ⟨rfl, ⟨hb, b7, b8⟩, rfl⟩ G3 hG3
              obtain ⟨x, hx, ex⟩ := it22 vt (by omega) q
              rw [z_cl (n := q) (by omega), b7, h7 q hq, ex, show (5 : Int32) * nI q + nI x = nI (5 * q + x) by rw [show (5 : Int32) = nI 5 from rfl, z_mul, z_add], z_cl (n := 5 * q + x) (by omega)]
              refine br_neg (nI_nlt (a := 20) (by omega) (by omega)) ⟨z_in (by omega) (by omega), z_in (by omega) (by omega), z_in (by omega) (by omega), nm_in (nm_in (hG3 _ _ _ ⟨nI_1 q, ⟨⟨fun k hk => hb.1 k hk, fun c hc => by rw [z_upN _ _ (by omega)]; exact hb.2.1 c hc, fun i hi => hb.2.2 i hi⟩, b7, ?_⟩, rfl⟩))⟩
              rw [z_upS, wyA, h7 q hq, ex, z_cl (by omega), b8]
      · rintro i a b c hi ⟨rfl, ⟨h1, h8⟩, rfl⟩ G hG
        rw [z_cl (by omega)]
        refine br_neg (nI_ge (b := 105) hi (by omega)) ⟨z_in (by omega) (by omega), nm_in (nm_in (hG _ _ _ ⟨nI_1 i, ⟨⟨fun k hk => h1.1 k hk, fun c hc => by rw [z_upN _ _ (by omega)]; exact h1.2.1 c hc, fun i hi => h1.2.2 i hi⟩, fun q hq => ?_⟩, rfl⟩))⟩
        rw [z_upS]
        by_cases e : q = i
        · subst e; exact z_upd_same _ _ _
        · rw [z_upd_ne _ _ e]; exact h8 q (by omega)
    refine b_tally w v hj (fun d hd h5 => ?_)
    refine lfp4_inv 21 (fun q a b c e => a = (akS P (nnS mo) j q).1 ∧ b = (akS P (nnS mo) j q).2 ∧ c = nI q ∧ e = d) ?_ ?_ (k := 0) (by omega) ⟨by rw [akS], by rw [akS], rfl, rfl⟩
    · rintro a b c e ⟨rfl, rfl, rfl, rfl⟩ G
      refine br_pos (nI_lt (a := 20) (by omega) (by omega)) (br_in (fun q => md _ _ hd ?_) (fun q => br_in (fun q2 => md _ _ hd ?_) (fun q2 => md _ _ hd ?_)))
      · rw [askS, if_pos q]; exact q
      · rw [askS, if_neg q, if_pos q2]
      · rw [askS, if_neg q, if_neg q2]
    · rintro q a b c e hq ⟨rfl, rfl, rfl, rfl⟩ G hG
      refine br_neg (nI_nlt (a := 20) (by omega) (by omega)) (b_mostInRow hq ?_)
      rw [mx_cong hq h5 5 (Nat.le_refl _)]
      refine jn_in (fun J => J (akS P (nnS mo) j (q + 1)).1 (akS P (nnS mo) j (q + 1)).2) (nm_in (hG _ _ _ _ ⟨rfl, rfl, nI_1 q, rfl⟩)) (fun J hJ => br_in (fun y => ?_) (fun y => ?_))
      · rw [akS, if_pos y] at hJ; exact hJ
      · rw [akS, if_neg y] at hJ; exact hJ
