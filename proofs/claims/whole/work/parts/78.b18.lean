theorem va_ms {P : Nat} {n : S1} (v : Vl P n) {j : Nat} (hj : j < P) : ∃ t, t ≤ 999 ∧ n (4 * j + 1) = nI t := by
  obtain ⟨h1, h2⟩ := v.2.2.2.2.2 j hj
  obtain ⟨t, -, ht, et⟩ := z_of h1 h2 (by omega) (by omega)
  exact ⟨t, ht, et⟩
theorem p10 : ∀ m, m ≤ 8 → 0 < 10 ^ m ∧ 10 ^ m ≤ 100000000 := by decide
theorem cl_odds {P j v m : Nat} {o : S3} {n : S1} {p4 p5 : Int32} {ms : Bool} {K : Int64 → S3 → Prop} (w : WR P (o 1) n) (vv : Vl P n) (hj : j < P) (hv : v ≤ 10) (hm : m ≤ 8) (h4 : 0 ≤ p4 ∧ p4 ≤ 1) (h5 : p5 = if ms then 1 else 0) (k : ∀ w', K (frcS (suO P n j m v ms (2 ^ m)) (10 ^ m) p4) (va_up o 2 w')) : w_X3_byOdds (nI v) (nI j) (nI m) p4 p5 o K := by
  have hP := vv.1
  obtain ⟨ep, hp⟩ := p2m m hm
  obtain ⟨t0, t1⟩ := p10 m hm
  unfold w_X3_byOdds
  refine b_wz (fun h => absurd ⟨nI_pos' (by omega), nI_le (b := 10) hv (by omega)⟩ h) (fun _ => ?_)
  refine jn_in (fun J => J 0 o) ?_ (fun J hJ => jn_in (fun _ => True) trivial (fun J2 _ => br_neg n10 (b_hz hP w.1 (fun h => absurd rfl (h j hj)) (fun _ _ _ => nm_in ?_))))
  · refine br_pos rfl ?_
    rw [ep]
    refine lfp3_inv (2 ^ m) (fun y a b c => a = lN (suO P n j m v ms y) ∧ b = nI y ∧ ∃ w', c = va_up o 2 w') ?_ ?_ (k := 0) (Nat.zero_le _) ⟨rfl, rfl, o 2, up_22 o⟩
    · rintro a b c ⟨rfl, rfl, w', rfl⟩ G
      refine br_pos (nI_le (Nat.le_refl _) (by omega)) ?_
      have hs := su_le vv hj hm hv ms (2 ^ m)
      refine lfp2_inv m (fun q a b => a = lN (10 ^ q) ∧ b = nI q) ?_ ?_ (k := 0) (by omega) ⟨rfl, rfl⟩
      · rintro a b ⟨rfl, rfl⟩ G2
        exact br_pos (nI_le (Nat.le_refl _) (by omega)) (b_ofFraction (by omega) (by omega) t0 (k w'))
      · rintro q a b hq ⟨rfl, rfl⟩ G2 hG2
        refine br_neg (nI_ge hq (by omega)) (nm_in (nm_in (hG2 _ _ ⟨?_, nI_1 q⟩)))
        rw [Nat.pow_succ]; exact lN_mul _ 10
    · rintro y a b c hy ⟨rfl, rfl, w', rfl⟩ G hG
      have hw := wt_le (v := v) (y := y) hv m
      refine br_neg (nI_ge hy (by omega)) (b_weight hv hm ?_)
      refine jn_in (fun J => ∀ w2, J (lN (suO P n j m v ms (y + 1))) (va_up o 2 w2)) (fun w2 => nm_in (hG _ _ _ ⟨rfl, nI_1 y, w2, rfl⟩)) (fun J hJ => ?_)
      refine br_in (fun z => ?_) (fun z => b_goWay w vv hm (fun w2 hw2 => ?_))
      · rw [lg_cmp_eq, lN0 (by omega)] at z
        have := hJ w'
        rw [suO, z, Nat.zero_mul, Nat.add_zero] at this
        exact this
      · have fin : ∀ x : Int32, x = nI (vlS P n j m ms y) → nm (lN (suO P n j m v ms y) + lN (wtS v y m) * x.toInt64) (fun x26 => J x26 (va_up o 2 w2)) := by
          intro x hx
          refine nm_in ?_
          have hl := vl_le vv hj ms y (m := m)
          rw [hx, z_i64 (by omega), lN_mul, lN_add]
          exact hJ w2
        rw [z_upS, z_cl (n := j) (by omega)]
        refine jn_in (fun J2 => ∀ x, x = nI (vlS P n j m ms y) → J2 x) fin (fun J2 hJ2 => ?_)
        cases ms with
        | false =>
          rw [h5]
          refine br_pos rfl ?_
          rw [hw2.2.2.2.1 (by omega)]
          refine br_in (fun q => hJ2 1 ?_) (fun q => hJ2 0 ?_)
          · rw [vlS, if_neg (by decide), if_pos q]; rfl
          · rw [vlS, if_neg (by decide), if_neg q]; rfl
        | true =>
          rw [h5]
          refine br_neg n10 ⟨z_in (by omega) (by omega), hJ2 _ ?_⟩
          obtain ⟨t, ht, et⟩ := va_ms (gw_Vl vv y m) hj
          rw [(hw2.2.2.2.2.2.2.2.1 j hj).2.1, vlS, if_pos rfl, et, z_cl (by omega)]
  · rw [up_self]
    exact br_neg n10 (b_wz (fun h => absurd ⟨nI_pos' (by omega), nI_le (b := 8) hm (by omega)⟩ h) (fun _ => br_neg n10 (b_wz (fun h => absurd h4 h) (fun _ => br_neg n10 hJ))))
theorem cl_odds_bad {P : Nat} {o : S3} {n : S1} {p1 p2 p3 p4 p5 : Int32} {K : Int64 → S3 → Prop} (w : WR P (o 1) n) (hP : P ≤ 5) (hb : ¬ ((0 ≤ p1 ∧ p1 ≤ 10) ∧ (∃ j, j < P ∧ p2 = nI j) ∧ (0 ≤ p3 ∧ p3 ≤ 8) ∧ (0 ≤ p4 ∧ p4 ≤ 1))) (k : K (-1) o) : w_X3_byOdds p1 p2 p3 p4 p5 o K := by
  unfold w_X3_byOdds
  refine b_wz (fun h => ?_) (fun h1 => ?_)
  · exact jn_in (fun J => J 1 o) (br_neg n10 k) (fun J hJ => jn_in (fun J2 => J2 o) hJ (fun J2 hJ2 => br_pos rfl hJ2))
  · refine jn_in (fun J => J 1 o) (br_neg n10 k) (fun J hJ => jn_in (fun J2 => J2 o) hJ (fun J2 hJ2 => br_neg n10 (b_hz hP w.1 (fun h => nm_in ?_) (fun j hj ej => nm_in ?_))))
    · rw [up_self]; exact br_pos rfl hJ2
    · rw [up_self]
      exact br_neg n10 (b_wz (fun _ => br_pos rfl hJ2) (fun h3 => br_neg n10 (b_wz (fun _ => br_pos rfl hJ2) (fun h4 => absurd ⟨h1, ⟨j, hj, ej⟩, h3, h4⟩ hb))))
theorem b_findOdds {P j v m : Nat} {mo : S2} {lo : SL} {K : S2 → SL → Prop} (e3 : mo 0 3 = nI P) (vv : Vl P (nnS mo)) (hj : j < P) (hv : v ≤ 10) (hm : m ≤ 8) (k : ∀ mo' lo', eqM mo mo' → lo' 19 = lN (suO P (nnS mo) j m v false (2 ^ m)) → lo' 20 = lN (suO P (nnS mo) j m v true (2 ^ m)) → lo' 21 = lN (10 ^ m) → K mo' lo') : w_X4_findOdds (nI v) (nI j) (nI m) mo lo K := by
  have hP := vv.1
  obtain ⟨ep, hp⟩ := p2m m hm
  unfold w_X4_findOdds
  refine nm_in (nm_in (nm_in ?_))
  refine lfp3_inv m (fun q a b c => a = nI q ∧ b = mo ∧ c 19 = lN 0 ∧ c 20 = lN 0 ∧ c 21 = lN (10 ^ q)) ?_ ?_ (k := 0) (by omega) ⟨rfl, rfl, rfl, rfl, rfl⟩
  · rintro a b c ⟨rfl, rfl, c19, c20, c21⟩ G
    refine br_pos (nI_le (Nat.le_refl _) (by omega)) ?_
    rw [ep]
    refine lfp3_inv (2 ^ m) (fun y a d e => a = nI y ∧ eqM b d ∧ e 19 = lN (suO P (nnS b) j m v false y) ∧ e 20 = lN (suO P (nnS b) j m v true y) ∧ e 21 = lN (10 ^ m)) ?_ ?_ (k := 0) (Nat.zero_le _) ⟨rfl, eqM.rf b, c19, c20, c21⟩
    · rintro a d e ⟨rfl, h1, e19, e20, e21⟩ G2
      exact br_pos (nI_le (Nat.le_refl _) (by omega)) (k d e h1 e19 e20 e21)
    · rintro y a d e hy ⟨rfl, h1, e19, e20, e21⟩ G2 hG2
      refine br_neg (nI_ge hy (by omega)) (b_starts ?_)
      have en : fil (d 1) (d 2) 57 = nnS b := h1.nn
      rw [en, tn_21, tn_22]
      have h0 : eqM b (va_up d 2 (nnS b)) := h1.tr (eqM_up2 d _ (fun x hx => by rw [← en]; exact fil_hi _ _ hx))
      refine lfp4_inv m (fun q a b' f g => a = lN (wtS v y q) ∧ b' = nI q ∧ (eqM b f ∧ f 2 = gwN P (nnS b) y q) ∧ g = e) ?_ ?_ (k := 0) (by omega) ⟨rfl, rfl, ⟨h0, z_upS _ _ _⟩, rfl⟩
      · rintro a b' f g ⟨rfl, rfl, ⟨h2, hf2⟩, rfl⟩ G3
        refine br_pos (nI_le (Nat.le_refl _) (by omega)) ?_
        obtain ⟨t, ht, et⟩ := va_ms (gw_Vl vv y m) hj
        refine jn_in (fun J => J (lN (wtS v y m * vlS P (nnS b) j m false y))) (nm_in (b_of (x := 1) (by omega) (nm_in (nm_in (hG2 _ _ _ ⟨nI_1 y, h2, ?_, ?_, ?_⟩))))) (fun J hJ => ?_)
        · rw [z_upN _ _ (by decide), z_upS, e19, lN_add, suO]
        · rw [z_upS, z_upN _ _ (by decide), e20, hf2, et, z_i64 (by omega), lN_mul, lN_add, suO, vlS, if_pos rfl, et, z_cl (by omega)]
        · rw [z_upN _ _ (by decide), z_upN _ _ (by decide)]; exact e21
        · rw [hf2]
          refine br_in (fun q => ?_) (fun q => ?_)
          · rw [vlS, if_neg (by decide), if_pos q, Nat.mul_one] at hJ; exact hJ
          · rw [vlS, if_neg (by decide), if_neg q, Nat.mul_zero] at hJ; exact hJ
      · rintro q a b' f g hq ⟨rfl, rfl, ⟨h2, hf2⟩, rfl⟩ G3 hG3
        have f21 : f 1 21 = nnS b 21 := by rw [h2.2.1 1 (by omega), nn_lo b (by omega)]
        rw [ten_sub hv, z_i64 (by omega), z_i64 (by omega), f21]
        have go : ∀ (a : Int64) (x : Int32), a = lN (wtS v y (q + 1)) → stS P (upd (gwN P (nnS b) y q) 21 x) = gwN P (nnS b) y (q + 1) → nm (va_up f 2 (upd (f 2) 21 x)) (fun mo33 => w_X4_quarterGoes mo33 g (fun mo34 lo35 => nm (nI q + 1) (fun x37 => G3 a x37 mo34 lo35))) := by
          intro a x ha hx
          refine nm_in ?_
          have v2 : Vl P ((va_up f 2 (upd (f 2) 21 x)) 2) := by rw [z_upS, hf2]; exact Vl_safe (gw_Vl vv y q) (by omega) _
          refine b_quarterGoes (P := P) ((h2.1 3 (by omega)).trans e3) v2 (fun mo' z => nm_in (hG3 _ _ _ _ ⟨ha, nI_1 q, ⟨?_, ?_⟩, rfl⟩))
          · have h3 : eqM f (va_up f 2 (upd (f 2) 21 x)) := eqM_up2 f _ (fun i hi => z_upd_ne _ _ (by omega))
            exact (h2.tr h3).tr (QR.eqM v2 z)
          · have := z.1
            rw [z_upS, hf2, hx] at this
            exact this
        refine br_neg (nI_ge hq (by omega)) (jn_in (fun J => (bitc y q → J 1) ∧ (¬ bitc y q → J 0)) ⟨fun z => ?_, fun z => ?_⟩ (fun J hJ => br_in hJ.1 hJ.2))
        · refine jn_in (fun J => J (lN v)) (nm_in (jn_in (fun J => J 9) (go _ _ ?_ ?_) (fun J hJ => br_neg n10 hJ))) (fun J hJ => br_neg n10 hJ)
          · rw [lN_mul, wtS, if_pos z]
          · rw [gwN, if_pos z]
        · refine jn_in (fun J => J (lN (10 - v))) (nm_in (jn_in (fun J => J (nnS b 21)) (go _ _ ?_ ?_) (fun J hJ => br_pos rfl hJ))) (fun J hJ => br_pos rfl hJ)
          · rw [lN_mul, wtS, if_neg z]
          · rw [gwN, if_neg z]
  · rintro q a b c hq ⟨rfl, rfl, c19, c20, c21⟩ G hG
    refine br_neg (nI_ge hq (by omega)) (nm_in (nm_in (hG _ _ _ ⟨nI_1 q, rfl, ?_, ?_, ?_⟩)))
    · rw [z_upN _ _ (by decide)]; exact c19
    · rw [z_upN _ _ (by decide)]; exact c20
    · rw [z_upS, c21, Nat.pow_succ]; exact lN_mul _ 10
theorem L_luck {P : Nat} {o : S3} {mo : S2} {lo : SL} (I : IVp P o mo) (p1 p2 p3 p4 : Int32) : w_X3_luck p1 p2 p3 p4 o (fun r o' => w_X4_luck p1 p2 p3 p4 mo lo (fun r2 mo' _ => r = r2 ∧ IV o' mo')) := by
  have hP := I.2.1.1.1
  unfold w_X3_luck
  by_cases hb : (0 ≤ p1 ∧ p1 ≤ 10) ∧ (∃ j, j < P ∧ p2 = nI j) ∧ (0 ≤ p3 ∧ p3 ≤ 8) ∧ (0 ≤ p4 ∧ p4 ≤ 1)
  · obtain ⟨h1, ⟨j, hj, ej⟩, h3, h4⟩ := id hb
    obtain ⟨v, hv, rfl⟩ := r_of (hi := 10) (by omega) h1
    obtain ⟨m, hm, rfl⟩ := r_of (hi := 8) (by omega) h3
    subst ej
    obtain ⟨t0, t1⟩ := p10 m hm
    obtain ⟨-, hp⟩ := p2m m hm
    have hs := su_le I.nV hj hm hv false (2 ^ m)
    refine cl_odds (ms := false) I.nW I.nV hj hv hm h4 rfl (fun w' => ?_)
    unfold w_X4_luck
    refine ok_odds hP I.1 hb (br_neg n10 (b_findOdds (P := P) I.1 I.nV hj hv hm (fun mo' lo' h l1 l2 l3 => ?_)))
    rw [l1, l3]
    exact b_told (by omega) (by omega) t0 ⟨rfl, P, IVp_q I (eqO_2 o w') h⟩
  · refine cl_odds_bad I.nW hP hb ?_
    unfold w_X4_luck
    exact bad_odds hP I.1 hb (br_pos rfl ⟨rfl, P, I⟩)
theorem L_mean {P : Nat} {o : S3} {mo : S2} {lo : SL} (I : IVp P o mo) (p1 p2 p3 p4 : Int32) : w_X3_mean p1 p2 p3 p4 o (fun r o' => w_X4_mean p1 p2 p3 p4 mo lo (fun r2 mo' _ => r = r2 ∧ IV o' mo')) := by
  have hP := I.2.1.1.1
  unfold w_X3_mean
  by_cases hb : (0 ≤ p1 ∧ p1 ≤ 10) ∧ (∃ j, j < P ∧ p2 = nI j) ∧ (0 ≤ p3 ∧ p3 ≤ 8) ∧ (0 ≤ p4 ∧ p4 ≤ 1)
  · obtain ⟨h1, ⟨j, hj, ej⟩, h3, h4⟩ := id hb
    obtain ⟨v, hv, rfl⟩ := r_of (hi := 10) (by omega) h1
    obtain ⟨m, hm, rfl⟩ := r_of (hi := 8) (by omega) h3
    subst ej
    obtain ⟨t0, t1⟩ := p10 m hm
    obtain ⟨-, hp⟩ := p2m m hm
    have hs := su_le I.nV hj hm hv true (2 ^ m)
    refine cl_odds (ms := true) I.nW I.nV hj hv hm h4 rfl (fun w' => ?_)
    unfold w_X4_mean
    refine ok_odds hP I.1 hb (br_neg n10 (b_findOdds (P := P) I.1 I.nV hj hv hm (fun mo' lo' h l1 l2 l3 => ?_)))
    rw [l2, l3]
    exact b_told (by omega) (by omega) t0 ⟨rfl, P, IVp_q I (eqO_2 o w') h⟩
  · refine cl_odds_bad I.nW hP hb ?_
    unfold w_X4_mean
    exact bad_odds hP I.1 hb (br_pos rfl ⟨rfl, P, I⟩)
