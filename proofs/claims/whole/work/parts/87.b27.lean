theorem cl_tellCoin {L : Nat} {b : Nat → Nat} {σ : SG} {ω : OM} {t w : S2} {K : S2 → S2 → Prop} (B : BB L b) (T : TR L b σ t) (ok : OK L σ) (W : WD ω w) (hP : ω.2.1 ≤ 5) (hs : ω.2.2.2.2.1 ≤ 1) (t7 : t 0 7 = nI ω.2.2.2.1) (t8 : t 0 8 = nI ω.2.2.2.2.1) (k : lnK L b 5 σ ω K) : w_X1_tellCoin t w K := by
  unfold w_X1_tellCoin
  refine jn_in (fun J => ∀ t1, TR L b (hd1 5 σ ω) t1 → t1 0 7 = t 0 7 → t1 0 8 = t 0 8 → J t1 w) (fun t1 T1 g7 g8 => nm_in ?_) (fun J hJ => ?_)
  · have ok1 := hd1_OK (ln := 5) (ω := ω) ok
    have T1' : TR L b (hd1 5 σ ω) (va_up t1 0 (upd (t1 0) 8 1)) := T1
    refine cl_takeNumber (lo := 0) (hi := 4) B T1' ok1 (by omega) (by omega) (fun t2 x T2 a7 a8 hx => nm_in (k t2 _ T2 (fun f0 => ?_)))
    have f0 : (num L b 0 4 (hd1 5 σ ω)).1 = 0 := f0
    have f2 := (num_0 f0).1
    obtain ⟨e1, -⟩ := hd1_0 f2
    rw [e1] at hx f0
    have hx := hx f0
    obtain ⟨w0, w1, w2, w3, w4, w5, wp, wg⟩ := W
    have el : lnW L b 5 σ ω = (upd ω.1 22 x, ω.2.1, ω.2.2.1, ω.2.2.2.1, 1, max ω.2.2.2.2.2 (vl b (num L b 0 4 σ) + 1)) := by unfold lnW; rw [if_neg (by omega), if_neg (by omega), if_pos rfl, hx]
    rw [el]
    refine ⟨(a7.trans g7).trans t7, a8, w0, w1, ?_, ?_, w4, w5, fun p hp => ?_, fun j hj => ?_⟩
    · show w 0 2 = upd ω.1 22 x 21
      rw [z_upd_ne _ _ (by omega)]; exact w2
    · show x = upd ω.1 22 x 22
      rw [z_upd_same]
    · have := wp p hp
      have hp : p < ω.2.1 := hp
      show _ = upd ω.1 22 x (4 * p) ∧ _ = upd ω.1 22 x (4 * p + 1) ∧ _ = upd ω.1 22 x (4 * p + 2) ∧ _ = upd ω.1 22 x (4 * p + 3)
      rw [z_upd_ne _ _ (by omega), z_upd_ne _ _ (by omega), z_upd_ne _ _ (by omega), z_upd_ne _ _ (by omega)]; exact this
    · have hj : j < 4 * ω.2.2.1 := hj
      show w 5 j = upd ω.1 22 x (24 + j)
      rw [z_upd_ne _ _ (by omega)]; exact wg j hj
  · unfold hd1 at hJ
    rw [if_neg (by omega), if_neg (by omega), if_pos rfl] at hJ
    rw [t8]
    refine br_in (fun q => hJ t ?_ rfl rfl) (fun q => cl_refuse (c := 4) T ok.1 (fun t' T' g7 g8 => hJ t' ?_ g7 g8))
    · rw [if_pos ((nI_eq (b := 0) (by omega) (by omega)).mp q)]; exact T
    · rw [if_neg (fun z => q ((nI_eq (b := 0) (by omega) (by omega)).mpr z))]; exact T'
theorem hd2_6 {L : Nat} {b : Nat → Nat} {σ : SG} : hd2 L b 6 σ = num L b 1 20 (gf3 L b σ) := by unfold hd2; rw [if_neg (by omega), if_neg (by omega), if_neg (by omega), if_pos rfl]
theorem cl_tellGift {L : Nat} {b : Nat → Nat} {σ : SG} {ω : OM} {t w : S2} {K : S2 → S2 → Prop} (B : BB L b) (T : TR L b σ t) (ok : OK L σ) (W : WD ω w) (hP : ω.2.1 ≤ 5) (hg : ω.2.2.1 ≤ 4) (t7 : t 0 7 = nI ω.2.2.2.1) (t8 : t 0 8 = nI ω.2.2.2.2.1) (k : lnK L b 6 σ ω K) : w_X1_tellGift t w K := by
  unfold w_X1_tellGift
  unfold lnK at k
  rw [hd2_6] at k
  refine jn_in (fun J => ∀ t1, TR L b (hd1 6 σ ω) t1 → t1 0 7 = t 0 7 → t1 0 8 = t 0 8 → J t1 w) (fun t1 T1 g7 g8 => ?_) (fun J hJ => ?_)
  · have ok1 := hd1_OK (ln := 6) (ω := ω) ok
    refine cl_takeNumber (lo := 0) (hi := 20) B T1 ok1 (by omega) (by omega) (fun t2 x T2 a7 a8 hx => ?_)
    refine cl_takeNumber (lo := 0) (hi := 4) B T2 (num_OK ok1) (by omega) (by omega) (fun t3 y T3 b7 b8 hy => ?_)
    refine cl_takeNumber (lo := 0) (hi := 4) B T3 (num_OK (num_OK ok1)) (by omega) (by omega) (fun t4 z T4 c7 c8 hz => ?_)
    have ok4 := num_OK (b := b) (lo := 0) (hi := 4) (num_OK (b := b) (lo := 0) (hi := 4) (num_OK (b := b) (lo := 0) (hi := 20) ok1))
    refine jn_in (fun J => ∀ t5, TR L b (gf3 L b (hd1 6 σ ω)) t5 → t5 0 7 = t4 0 7 → t5 0 8 = t4 0 8 → J t5 w) (fun t5 T5 d7 d8 => ?_) (fun J hJ => ?_)
    · refine cl_takeNumber (lo := 1) (hi := 20) B T5 (gf3_OK ok1) (by omega) (by omega) (fun t6 u T6 e7 e8 hu => ?_)
      refine cl_addGift W.2.2.2.2.1 hg (fun r w' hw' => k t6 w' T6 (fun f0 => ?_))
      have f1 := (num_0 f0).1
      have f2 : (num L b 0 4 (num L b 0 4 (num L b 0 20 (hd1 6 σ ω)))).1 = 0 := by rw [← (gf3_0 f1).1]; exact f1
      have f3 := (num_0 f2).1
      have f4 := (num_0 f3).1
      have f5 := (num_0 f4).1
      obtain ⟨e1, -, -, -, -, g4, -⟩ := hd1_0 f5
      have g4 := g4 rfl
      rw [e1] at hx hy hz hu f0 f1 f2 f3 f4
      have hx := hx f4
      have hy := hy f3
      have hz := hz f2
      have hu := hu f0
      obtain ⟨n0, n1, n2, n3, n4, n5⟩ := hw' g4
      obtain ⟨w0, w1, w2, w3, w4, w5, wp, wg⟩ := W
      have el : lnW L b 6 σ ω = (upd (upd (upd (upd (upd ω.1 (24 + 4 * ω.2.2.1) x) (25 + 4 * ω.2.2.1) y) (26 + 4 * ω.2.2.1) z) (27 + 4 * ω.2.2.1) u) 23 (nI (ω.2.2.1 + 1)), ω.2.1, ω.2.2.1 + 1, ω.2.2.2.1, ω.2.2.2.2.1, max (max ω.2.2.2.2.2 (vl b (num L b 0 4 (num L b 0 20 σ)) + 1)) (vl b (num L b 0 4 (num L b 0 4 (num L b 0 20 σ))) + 1)) := by
        unfold lnW; rw [if_neg (by omega), if_neg (by omega), if_neg (by omega), hx, hy, hz, hu]
      rw [el]
      refine ⟨e7.trans (d7.trans (c7.trans (b7.trans (a7.trans (g7.trans t7))))), e8.trans (d8.trans (c8.trans (b8.trans (a8.trans (g8.trans t8))))), ?_, ?_, ?_, ?_, ?_, ?_, fun p hp => ?_, fun j hj => ?_⟩
      · rw [n0, z_upd_ne _ _ (by omega)]; exact w0
      · rw [n0, z_upd_ne _ _ (by omega)]; exact w1
      · rw [n0, z_upd_ne _ _ (by omega), w2]
        show _ = upd _ _ _ 21
        rw [z_upd_ne _ _ (by omega), z_upd_ne _ _ (by omega), z_upd_ne _ _ (by omega), z_upd_ne _ _ (by omega)]
      · rw [n0, z_upd_ne _ _ (by omega), w3]
        show _ = upd _ _ _ 22
        rw [z_upd_ne _ _ (by omega), z_upd_ne _ _ (by omega), z_upd_ne _ _ (by omega), z_upd_ne _ _ (by omega)]
      · rw [n0]; exact z_upd_same _ _ _
      · rw [n0, z_upd_ne _ _ (by omega)]; exact w5
      · have hp : p < ω.2.1 := hp
        have key : ∀ i, i < 20 → upd (upd (upd (upd (upd ω.1 (24 + 4 * ω.2.2.1) x) (25 + 4 * ω.2.2.1) y) (26 + 4 * ω.2.2.1) z) (27 + 4 * ω.2.2.1) u) 23 (nI (ω.2.2.1 + 1)) i = ω.1 i := fun i hi => by
          rw [z_upd_ne _ _ (by omega), z_upd_ne _ _ (by omega), z_upd_ne _ _ (by omega), z_upd_ne _ _ (by omega), z_upd_ne _ _ (by omega)]
        rw [n1, n2, n3, n4]
        have := wp p hp
        show _ = upd (upd (upd (upd (upd ω.1 (24 + 4 * ω.2.2.1) x) (25 + 4 * ω.2.2.1) y) (26 + 4 * ω.2.2.1) z) (27 + 4 * ω.2.2.1) u) 23 (nI (ω.2.2.1 + 1)) (4 * p) ∧ _ = upd (upd (upd (upd (upd ω.1 (24 + 4 * ω.2.2.1) x) (25 + 4 * ω.2.2.1) y) (26 + 4 * ω.2.2.1) z) (27 + 4 * ω.2.2.1) u) 23 (nI (ω.2.2.1 + 1)) (4 * p + 1) ∧ _ = upd (upd (upd (upd (upd ω.1 (24 + 4 * ω.2.2.1) x) (25 + 4 * ω.2.2.1) y) (26 + 4 * ω.2.2.1) z) (27 + 4 * ω.2.2.1) u) 23 (nI (ω.2.2.1 + 1)) (4 * p + 2) ∧ _ = upd (upd (upd (upd (upd ω.1 (24 + 4 * ω.2.2.1) x) (25 + 4 * ω.2.2.1) y) (26 + 4 * ω.2.2.1) z) (27 + 4 * ω.2.2.1) u) 23 (nI (ω.2.2.1 + 1)) (4 * p + 3)
        rw [key _ (by omega), key _ (by omega), key _ (by omega), key _ (by omega)]; exact this
      · have hj : j < 4 * (ω.2.2.1 + 1) := hj
        rw [n5]
        show _ = upd (upd (upd (upd (upd ω.1 (24 + 4 * ω.2.2.1) x) (25 + 4 * ω.2.2.1) y) (26 + 4 * ω.2.2.1) z) (27 + 4 * ω.2.2.1) u) 23 (nI (ω.2.2.1 + 1)) (24 + j)
        rw [z_upd_ne _ (nI (ω.2.2.1 + 1)) (show 24 + j ≠ 23 by omega)]
        rcases (show j = 4 * ω.2.2.1 + 3 ∨ j = 4 * ω.2.2.1 + 2 ∨ j = 4 * ω.2.2.1 + 1 ∨ j = 4 * ω.2.2.1 ∨ j < 4 * ω.2.2.1 by omega) with e | e | e | e | e
        · subst e; rw [z_upd_same, show 24 + (4 * ω.2.2.1 + 3) = 27 + 4 * ω.2.2.1 by omega, z_upd_same]
        · subst e; rw [z_upd_ne _ _ (by omega), z_upd_same, show 24 + (4 * ω.2.2.1 + 2) = 26 + 4 * ω.2.2.1 by omega, z_upd_ne _ _ (by omega), z_upd_same]
        · subst e; rw [z_upd_ne _ _ (by omega), z_upd_ne _ _ (by omega), z_upd_same, show 24 + (4 * ω.2.2.1 + 1) = 25 + 4 * ω.2.2.1 by omega, z_upd_ne _ _ (by omega), z_upd_ne _ _ (by omega), z_upd_same]
        · subst e; rw [z_upd_ne _ _ (by omega), z_upd_ne _ _ (by omega), z_upd_ne _ _ (by omega), z_upd_same, z_upd_ne _ _ (by omega), z_upd_ne _ _ (by omega), z_upd_ne _ _ (by omega), z_upd_same]
        · rw [z_upd_ne _ _ (by omega), z_upd_ne _ _ (by omega), z_upd_ne _ _ (by omega), z_upd_ne _ _ (by omega), z_upd_ne _ _ (by omega), z_upd_ne _ _ (by omega), z_upd_ne _ _ (by omega), z_upd_ne _ _ (by omega)]; exact wg j e
    · -- the two ones alike
      unfold gf3 at hJ
      generalize hd1 6 σ ω = τ at *
      by_cases f0 : (num L b 0 4 (num L b 0 4 (num L b 0 20 τ))).1 = 0
      · have f1 := (num_0 f0).1
        have hy := hy f1
        have hz := hz f0
        have q1 := (num_0 f0).2.2.2.1
        have q2 := (num_0 f1).2.2.2.1
        rw [hy, hz]
        refine br_in (fun q => cl_refuse (c := 3) T4 ok4.1 (fun t' T' g7 g8 => hJ t' ?_ g7 g8)) (fun q => hJ t4 ?_ rfl rfl)
        · rw [if_pos ((nI_eq (by omega) (by omega)).mp q)]; exact T'
        · rw [if_neg (fun y => q ((nI_eq (by omega) (by omega)).mpr y))]; exact T4
      · rw [rf_F f0, ite_self] at hJ
        refine br_in (fun q => cl_refuse (c := 3) T4 ok4.1 (fun t' T' g7 g8 => hJ t' ?_ g7 g8)) (fun q => hJ t4 T4 rfl rfl)
        rw [rf_F f0] at T'; exact T'
  · unfold hd1 at hJ
    rw [if_neg (by omega), if_neg (by omega), if_neg (by omega), if_pos rfl] at hJ
    rw [W.2.2.2.2.1]
    refine br_in (fun q => hJ t ?_ rfl rfl) (fun q => cl_refuse (c := 5) T ok.1 (fun t' T' g7 g8 => hJ t' ?_ g7 g8))
    · rw [if_pos ((nI_ltI (b := 4) (by omega) (by omega)).mp q)]; exact T
    · rw [if_neg (fun z => q ((nI_ltI (b := 4) (by omega) (by omega)).mpr z))]; exact T'
theorem cl_tellLine {L : Nat} {b : Nat → Nat} {σ : SG} {ω : OM} {t w : S2} {K : S2 → S2 → Prop} (B : BB L b) (T : TR L b σ t) (ok : OK L σ) (W : WD ω w) (hP : ω.2.1 ≤ 5) (hg : ω.2.2.1 ≤ 4) (hs : ω.2.2.2.1 ≤ 1) (hc : ω.2.2.2.2.1 ≤ 1) (h3 : ∀ p, p < 5 → ω.1 (4 * p + 3) = 0) (t7 : t 0 7 = nI ω.2.2.2.1) (t8 : t 0 8 = nI ω.2.2.2.2.1) (k : ∀ ln, LN b σ ln → ∀ t' w', TR L b (st L b (hd2 L b ln (hd1 ln σ ω))) t' → ((st L b (hd2 L b ln (hd1 ln σ ω))).1 = 0 → t' 0 7 = nI (lnW L b ln σ ω).2.2.2.1 ∧ t' 0 8 = nI (lnW L b ln σ ω).2.2.2.2.1 ∧ WD (lnW L b ln σ ω) w') → K t' w') : w_X1_tellLine t w K := by
  have hL := B.1
  unfold w_X1_tellLine
  refine jn_in (fun J => ∀ ln, LN b σ ln → ln ≤ 7 → J (nI ln) t w) (fun ln hln l7 => ?_) (fun J hJ => ?_)
  · refine jn_in (fun J => lnK L b ln σ ω (fun t' w' => J t' w')) (fun t' w' T' h' => cl_takeStop B T' (hd2_OK (hd1_OK ok)) (fun t2 T2 g7 g8 => k ln hln t2 w' T2 (fun f0 => ?_))) (fun J hJ => ?_)
    · obtain ⟨a7, a8, hw⟩ := h' (st_0 f0).1
      exact ⟨g7.trans a7, g8.trans a8, hw⟩
    · have hne : ∀ c, c ≤ 7 → (nI ln = nI c ↔ ln = c) := fun c hc => nI_eq (by omega) (by omega)
      refine br_in (fun q => ?_) (fun q => br_in (fun q1 => ?_) (fun q1 => br_in (fun q2 => ?_) (fun q2 => br_in (fun q3 => ?_) (fun q3 => ?_))))
      · have e := (hne 7 (by omega)).mp q
        subst e
        refine cl_refuse (c := 2) T ok.1 (fun t' T' g7 g8 => hJ t' w T' (fun f0 => ?_))
        exact absurd f0 (rf_f (by omega))
      · have e := (hne 4 (by omega)).mp q1
        subst e
        exact cl_tellSlump B T ok W hP hs t7 t8 hJ
      · have e := (hne 5 (by omega)).mp q2
        subst e
        exact cl_tellCoin B T ok W hP hc t7 t8 hJ
      · have e := (hne 6 (by omega)).mp q3
        subst e
        exact cl_tellGift B T ok W hP hg t7 t8 hJ
      · have n7 : ln ≠ 7 := fun z => q ((hne 7 (by omega)).mpr z)
        have n4 : ln ≠ 4 := fun z => q1 ((hne 4 (by omega)).mpr z)
        have n5 : ln ≠ 5 := fun z => q2 ((hne 5 (by omega)).mpr z)
        have n6 : ln ≠ 6 := fun z => q3 ((hne 6 (by omega)).mpr z)
        exact cl_tellOne B T ok W hP h3 t7 t8 (by omega) hJ
  · rw [T.2.2.2.2.2.1]
    refine br_in (fun q => ?_) (fun q => ?_)
    · have q1 : σ.2.2.2.2 = 1 := (nI_eq (b := 1) (by have := ok.2.2.2.1; omega) (by omega)).mp q
      refine ⟨σ.2.2.2.1, σ.2.2.1, ok.2.1, by have := ok.2.2.1; omega, T.2.2.2.2.2.2, T.2.2.2.2.1, fun ln hln => ?_⟩
      have l7 : ln ≤ 7 := by
        rcases hln.1 with ⟨z, -⟩ | z
        · omega
        · omega
      refine hJ ln ⟨fun _ => ⟨?_, fun j hj z => hln.2 j hj ((mt_TB B T.2.1 ok.2.2.1).mpr z)⟩, fun z => absurd q1 z⟩ l7
      rcases hln.1 with ⟨z, z2⟩ | z
      · exact Or.inl ⟨z, (mt_TB B T.2.1 ok.2.2.1).mp z2⟩
      · exact Or.inr z
    · exact hJ 7 ⟨fun z => absurd (by rw [z]; rfl) q, fun _ => rfl⟩ (by omega)
