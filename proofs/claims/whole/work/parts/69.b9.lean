def seS (n : S1) (g : Nat) (a b : Int32) : S1 := upd (upd (upd n (45 + 2 * g) a) (46 + 2 * g) b) 44 (nI (g + 1))
theorem se_out {n : S1} {g : Nat} {a b : Int32} {j : Nat} (h : j ≠ 44 ∧ (j < 45 + 2 * g ∨ 47 + 2 * g ≤ j)) : seS n g a b j = n j := by
  unfold seS; rw [z_upd_ne _ _ (by omega), z_upd_ne _ _ (by omega), z_upd_ne _ _ (by omega)]
theorem se_44 {n : S1} {g : Nat} {a b : Int32} : seS n g a b 44 = nI (g + 1) := z_upd_same _ _ _
theorem se_a {n : S1} {g : Nat} {a b : Int32} : seS n g a b (45 + 2 * g) = a := by
  unfold seS; rw [z_upd_ne _ _ (by omega), z_upd_ne _ _ (by omega), z_upd_same]
theorem se_b {n : S1} {g : Nat} {a b : Int32} : seS n g a b (46 + 2 * g) = b := by
  unfold seS; rw [z_upd_ne _ _ (by omega), z_upd_same]
theorem L_see {P : Nat} {o : S3} {mo : S2} {lo : SL} (I : IVp P o mo) (p1 p2 : Int32) : w_X3_see p1 p2 o (fun r o' => w_X4_see p1 p2 mo lo (fun r2 mo' _ => r = r2 ∧ IV o' mo')) := by
  have hP := I.2.1.1.1
  have v := I.2.1.1
  obtain ⟨c, c4, hc, hci⟩ := v.2.2.2.1
  obtain ⟨g, g6, hg, hgi⟩ := v.2.2.2.2.1
  have w := I.2.1.2.1
  have e5 : o 1 0 5 = nI g := w.2.2.2.2.2.2.1.trans hg
  have bad : (¬ (0 ≤ p1 ∧ p1 ≤ 20) ∨ (∀ j, j < P → p2 ≠ nI j)) → w_X4_see p1 p2 mo lo (fun r2 mo' _ => (-1 : Int32) = r2 ∧ IV o mo') := by
    intro hb
    unfold w_X4_see
    refine b_inz (b := 0) (c := 20) (fun _ => br_pos rfl ⟨rfl, P, I⟩) (fun h1 => br_neg n10 (b_oz hP I.1 (fun _ => br_pos rfl ⟨rfl, P, I⟩) (fun j hj ej => ?_)))
    rcases hb with z | z
    · exact absurd h1 z
    · exact absurd ej (z j hj)
  unfold w_X3_see w_X2_addSeen
  simp only [nm]
  refine b_wz (fun hb => br_pos rfl (bad (Or.inl hb))) (fun h1 => br_neg n10 (b_hz hP w.1 (fun hb => ?_) (fun j hj ej => ?_)))
  · rw [up_self]; exact br_pos rfl (bad (Or.inr hb))
  · rw [up_self]
    refine br_neg n10 ?_
    have e5b : ∀ x : S1, (va_up (o 1) 6 x) 0 5 = nI g := fun x => e5
    rw [e5, e5b]
    refine br_in (fun q => ?_) (fun q => ?_)
    · have gl : g < 6 := (nI_ltI (b := 6) (by omega) (by omega)).mp q
      refine ⟨z_in gl (by omega), z_in gl (by omega), br_neg n10 ?_⟩
      unfold w_X4_see
      refine b_inz (b := 0) (c := 20) (fun h => absurd h1 h) (fun _ => br_neg n10 (b_oz hP I.1 (fun h => absurd ej (h j hj)) (fun _ _ _ => br_neg n10 (br_neg ?_ ?_))))
      · rw [tn_44, hg]; exact fun z => absurd ((nI_eq (b := 6) (by omega) (by omega)).mp z) (by omega)
      · rw [tn_44, hg, show (45 : Int32) + 2 * nI g = nI (45 + 2 * g) by rw [show (2 : Int32) = nI 2 from rfl, z_mul]; exact z_add 45 (2 * g)]
        simp only [nm]
        rw [show nI (45 + 2 * g) + 1 = nI (46 + 2 * g) from (z_add _ 1).trans (by congr 1; omega), z_cl (n := 45 + 2 * g) (by omega), z_cl (n := 46 + 2 * g) (by omega)]
        simp only [z_upS, z_upU]
        have e44 : upd (upd (mo 1) (45 + 2 * g) p1) (46 + 2 * g) p2 44 = nI g := by
          rw [z_upd_ne _ _ (by omega), z_upd_ne _ _ (by omega), hg]
        rw [e44, nI_1, z_cl (n := g) (by omega)]
        refine ⟨z_in (by omega) (by omega), z_in (by omega) (by omega), ?_, P, ?_⟩
        · rw [z_upd_same, z_upd_same, z_upN _ _ (by decide), z_upN _ _ (by decide), e5]; exact nI_1 g
        · obtain ⟨m, hm, em⟩ := r_of (hi := 20) (by omega) h1
          have q20 : seS (mo 1) g p1 p2 20 = mo 1 20 := se_out (by omega)
          refine eqM_1 (f' := seS (mo 1) g p1 p2) I ⟨?_, ?_, ?_⟩ (fun x hx => se_out (by omega))
          · obtain ⟨-, h1, h2, -, -, h5⟩ := v
            refine ⟨hP, fun q => (se_out (by omega)).trans (h1 q), fun q => ?_, ⟨c, c4, (se_out (by omega)).trans hc, fun i hi => ?_⟩, ⟨g + 1, by omega, se_44, fun i hi => ?_⟩, fun p hp => ?_⟩
            · rw [se_out (by omega)]; exact h2 q
            · rw [se_out (by omega), se_out (by omega)]; exact hci i hi
            · by_cases e : i = g
              · subst e; exact ⟨m, hm, se_a.trans em⟩
              · rw [se_out (by omega)]; exact hgi i (by omega)
            · rw [se_out (by omega)]; exact h5 p hp
          · obtain ⟨h0, h1, h2, h3, h4, h5, h6, h7, h8, h9⟩ := w
            refine ⟨h0, h1.trans (se_out (by omega)).symm, h2.trans (se_out (by omega)).symm, fun q => (h3 q).trans (se_out (by omega)).symm, h4, h5.trans (se_out (by omega)).symm, ?_, fun p hp => ?_, fun i hi => ?_, fun i hi => ?_⟩
            · rw [se_44, z_upS, z_upd_same, z_upN _ _ (by decide), z_upN _ _ (by decide), e5]; exact nI_1 g
            · obtain ⟨a, b, c, d⟩ := h7 p hp
              exact ⟨a.trans (se_out (by omega)).symm, b.trans (se_out (by omega)).symm, c.trans (se_out (by omega)).symm, d.trans (se_out (by omega)).symm⟩
            · rw [se_out (by omega)] at hi
              have hi2 := hi
              rw [hc, z_cl (by omega)] at hi2
              rw [se_out (by omega)]; exact h8 i hi
            · rw [se_44, z_cl (by omega)] at hi
              show upd (o 1 6) g p1 i = _ ∧ upd (o 1 7) g p2 i = _
              by_cases e : i = g
              · subst e; exact ⟨(z_upd_same _ _ _).trans se_a.symm, (z_upd_same _ _ _).trans se_b.symm⟩
              · rw [z_upd_ne _ _ e, z_upd_ne _ _ e, se_out (by omega), se_out (by omega)]
                exact h9 i (by rw [hg, z_cl (by omega)]; omega)
          · rw [q20]; exact I.2.1.2.2
    · have gl : g = 6 := by rcases Nat.lt_or_ge g 6 with z | z
                            · exact absurd (nI_lt (b := 6) z (by omega)) q
                            · omega
      refine br_pos trivial ?_
      rw [up_self]
      unfold w_X4_see
      refine b_inz (b := 0) (c := 20) (fun h => absurd h1 h) (fun _ => br_neg n10 (b_oz hP I.1 (fun h => absurd ej (h j hj)) (fun _ _ _ => br_neg n10 (br_pos ?_ ⟨rfl, P, I⟩))))
      rw [tn_44, hg, gl]; rfl
def couS (P : Nat) (o : S3) (n : S1) (p : Int32) : Int32 := if p = 0 then n 44 else if p = 1 then (if o 0 2 0 = 0 then 0 else 1) + (if o 0 2 1 = 0 then 0 else 1) else if p = 2 then o 6 0 1 else if p = 3 then (if o 7 0 0 = -1 then -4 else o 7 0 1) else if p = 4 then smS n 3 P else -1
theorem L_count {P : Nat} {o : S3} {mo : S2} {lo : SL} (I : IVp P o mo) (p1 : Int32) : w_X3_count p1 o (fun r o' => w_X4_count p1 mo lo (fun r2 mo' _ => r = r2 ∧ IV o' mo')) := by
  have hP := I.2.1.1.1
  have v := I.nV
  have w := I.nW
  obtain ⟨L, hL, t1, m10, ht⟩ := I.2.2.2.1
  have k0 := (I.2.2.1 0 (by omega)).1
  have k1 := (I.2.2.1 1 (by omega)).1
  have s0 := (I.2.2.2.2.2.2 0 (by omega)).1
  have md : w_X4_count p1 mo lo (fun r2 mo' _ => couS P o (nnS mo) p1 = r2 ∧ IV o mo') := by
    unfold w_X4_count
    refine b_starts ?_
    have fin : ∀ r2 : Int32, couS P o (nnS mo) p1 = r2 → couS P o (nnS mo) p1 = r2 ∧ IV o (va_up mo 2 (fil (mo 1) (mo 2) 57)) := fun r2 h => ⟨h, P, IVp_q I (eqO.rf o) (eqM_starts mo)⟩
    have e3 : (va_up mo 2 (fil (mo 1) (mo 2) 57)) 0 3 = nI P := I.1
    rw [tn_0, tn_1, tn_44]
    refine br_in (fun q => fin _ ?_) (fun q => br_in (fun q1 => ?_) (fun q1 => br_in (fun q2 => fin _ ?_) (fun q2 => br_in (fun q3 => ?_) (fun q3 => br_in (fun q4 => b_mallOf (x := 3) hP e3 (by omega) (fin _ ?_)) (fun q4 => fin _ ?_)))))
    · rw [couS, if_pos q]; exact nn_lo mo (by omega)
    · have g0 : (va_up mo 2 (fil (mo 1) (mo 2) 57)) 3 0 = o 0 2 0 := k0.symm
      have g1 : (va_up mo 2 (fil (mo 1) (mo 2) 57)) 3 1 = o 0 2 1 := k1.symm
      rw [g0, g1]
      unfold couS at fin
      rw [if_neg q, if_pos q1] at fin
      unfold couS
      rw [if_neg q, if_pos q1]
      refine b_flag (fun z => b_flag (fun y => fin _ ?_) (fun y => fin _ ?_)) (fun z => b_flag (fun y => fin _ ?_) (fun y => fin _ ?_))
      · rw [if_pos z, if_pos y]
      · rw [if_pos z, if_neg y]
      · rw [if_neg z, if_pos y]
      · rw [if_neg z, if_neg y]
    · rw [couS, if_neg q, if_neg q1, if_pos q2]; exact t1.trans m10.symm
    · unfold couS at fin
      rw [if_neg q, if_neg q1, if_neg q2, if_pos q3] at fin
      unfold couS
      rw [if_neg q, if_neg q1, if_neg q2, if_pos q3]
      rcases s0 with ⟨a, b⟩ | ⟨a, z, ha, hz, ea, eb, ec, ed⟩
      · exact br_pos b (fin _ (by rw [if_pos a]))
      · refine br_neg ?_ (fin _ ?_)
        · show ¬ mo 9 0 = -4
          rw [eb, z_eq, z_tI (by omega), z_tm4]; omega
        · rw [if_neg (by show ¬ o (7 + 0) 0 0 = -1; rw [ea, z_eq, z_tI (by omega), z_tm1]; omega)]
          exact ec.trans ed.symm
    · rw [couS, if_neg q, if_neg q1, if_neg q2, if_neg q3, if_pos q4, z_upS]; rfl
    · rw [couS, if_neg q, if_neg q1, if_neg q2, if_neg q3, if_neg q4]
  have fin : ∀ r : Int32, r = couS P o (nnS mo) p1 → w_X4_count p1 mo lo (fun r2 mo' _ => r = r2 ∧ IV o mo') := by rintro r rfl; exact md
  unfold w_X3_count
  simp only [nm, jn, tn_0, tn_1]
  refine br_in (fun q => fin _ ?_) (fun q => br_in (fun q1 => ?_) (fun q1 => br_in (fun q2 => fin _ ?_) (fun q2 => br_in (fun q3 => br_in (fun z => fin _ ?_) (fun z => fin _ ?_)) (fun q3 => br_in (fun q4 => b_keptByAll w hP ?_) (fun q4 => fin _ ?_)))))
  · rw [couS, if_pos q]; exact w.2.2.2.2.2.2.1
  · refine br_in (fun z => br_in (fun y => fin _ ?_) (fun y => fin _ ?_)) (fun z => br_in (fun y => fin _ ?_) (fun y => fin _ ?_))
    · rw [couS, if_neg q, if_pos q1, if_pos z, if_pos y]
    · rw [couS, if_neg q, if_pos q1, if_pos z, if_neg y]
    · rw [couS, if_neg q, if_pos q1, if_neg z, if_pos y]
    · rw [couS, if_neg q, if_pos q1, if_neg z, if_neg y]
  · rw [couS, if_neg q, if_neg q1, if_pos q2]
  · rw [couS, if_neg q, if_neg q1, if_neg q2, if_pos q3, if_pos z]
  · rw [couS, if_neg q, if_neg q1, if_neg q2, if_pos q3, if_neg z]
  · rw [up_self]; exact fin _ (by rw [couS, if_neg q, if_neg q1, if_neg q2, if_neg q3, if_pos q4])
  · rw [couS, if_neg q, if_neg q1, if_neg q2, if_neg q3, if_neg q4]
-- images
def cpb (f : S1) (t s i : Nat) : S1 := fun j => if t ≤ j ∧ j < t + i then f (s + (j - t)) else f j
theorem cpb_succ (f : S1) {t s i : Nat} (hd : s + i < t ∨ t + i ≤ s + i - i ∨ t + i ≤ s) (h2 : s + i < t ∨ t + i ≤ s + i) (hx : cpb f t s i (s + i) = f (s + i)) : upd (cpb f t s i) (t + i) (f (s + i)) = cpb f t s (i + 1) := by
  funext k
  by_cases e : k = t + i
  · subst e; rw [z_upd_same, cpb, if_pos ⟨by omega, by omega⟩]; congr 1; omega
  · rw [z_upd_ne _ _ e]; unfold cpb
    by_cases q : t ≤ k ∧ k < t + i
    · rw [if_pos q, if_pos ⟨by omega, by omega⟩]
    · rw [if_neg q, if_neg (by omega)]
theorem b_copies {t s : Nat} {mo : S2} {lo : SL} {K : S2 → SL → Prop} (ht : t + 57 ≤ 171) (hs : s + 57 ≤ 171) (hd : s + 57 ≤ t ∨ t + 57 ≤ s) (k : K (va_up mo 1 (cpb (mo 1) t s 57)) lo) : w_X4_copies (nI t) (nI s) mo lo K := by
  unfold w_X4_copies
  simp only [nm]
  refine lfp3_inv 57 (fun i a b c => a = nI i ∧ b = va_up mo 1 (cpb (mo 1) t s i) ∧ c = lo) ?_ ?_ (k := 0) (by omega) ⟨rfl, ?_, rfl⟩
  · rintro a b c ⟨rfl, rfl, rfl⟩ G
    exact br_pos (nI_le (Nat.le_refl 57) (by omega)) k
  · rintro i a b c hi ⟨rfl, rfl, rfl⟩ G hG
    rw [z_add, z_add, z_cl (n := s + i) (by omega), z_cl (n := t + i) (by omega)]
    refine br_neg (nI_ge (b := 57) hi (by omega)) ⟨z_in (by omega) (by omega), z_in (by omega) (by omega), hG _ _ _ ⟨nI_1 i, ?_, rfl⟩⟩
    have hx : cpb (mo 1) t s i (s + i) = mo 1 (s + i) := by unfold cpb; rw [if_neg (by omega)]
    rw [z_upS, z_upU, hx, cpb_succ (mo 1) (by omega) (by omega) hx]
  · have e : cpb (mo 1) t s 0 = mo 1 := by funext j; unfold cpb; rw [if_neg (by omega)]
    rw [e, up_self]
theorem cpb_in {f : S1} {t s i j : Nat} (h : j < i) : cpb f t s i (t + j) = f (s + j) := by
  unfold cpb; rw [if_pos ⟨by omega, by omega⟩]; congr 1; omega
theorem cpb_out {f : S1} {t s i j : Nat} (h : j < t ∨ t + i ≤ j) : cpb f t s i j = f j := by
  unfold cpb; rw [if_neg (by omega)]
theorem WR_cong2 {P : Nat} {w : S2} {n m : S1} (v : Vl P n) (e : ∀ j, j < 57 → m j = n j) (h : WR P w n) : WR P w m := by
  obtain ⟨hP, -, -, ⟨g, g4, hg, -⟩, ⟨s, s6, hs, -⟩, -⟩ := v
  exact WR_cong hP ⟨g, g4, hg⟩ ⟨s, s6, hs⟩ e h
theorem IW_cong {P : Nat} {w : S2} {n m : S1} (e : ∀ j, j < 57 → m j = n j) (h : IW P w n) : IW P w m := ⟨Vl_cong e h.1, WR_cong2 h.1 e h.2.1, by rw [e 20 (by omega)]; exact h.2.2⟩
theorem bz1 : vp_nar .boolean 1 = 1 := by decide
theorem L_keep {P : Nat} {o : S3} {mo : S2} {lo : SL} (I : IVp P o mo) (p1 : Int32) : w_X3_keep p1 o (fun r o' => w_X4_keep p1 mo lo (fun r2 mo' _ => r = r2 ∧ IV o' mo')) := by
  have hP := I.2.1.1.1
  unfold w_X3_keep
  simp only [nm]
  refine b_wz (fun hb => br_pos rfl ?_) (fun h1 => br_neg n10 ?_)
  · unfold w_X4_keep
    exact b_inz (b := 0) (c := 1) (fun _ => br_pos rfl ⟨rfl, P, I⟩) (fun h => absurd h hb)
  · obtain ⟨k, hk, rfl⟩ := r_of (hi := 1) (by omega) h1
    obtain ⟨i0, i1, i2, i3, i4, i5, i6⟩ := I
    have ek := (i2 k (by omega)).1
    have gk : gi 4 (nI k) = 4 + k := by unfold gi; rw [z_cl (by omega)]
    rw [gk, z_cl (by omega), bz1]
    refine ⟨z_in (by omega) (by omega), jn_in (fun J => ∀ kk : Int32, kk = (if mo 3 k = 0 then 0 else 1) → J kk) ?_ (fun J hJ => br_in (fun q => hJ 0 (by rw [← ek, if_pos q])) (fun q => hJ 1 (by rw [← ek, if_neg q])))⟩
    intro kk hkk
    refine ⟨z_in (by omega) (by omega), b_become i1.2.1 i1.1 (fun w' hw' => ⟨z_in (by omega) (by omega), ?_⟩)⟩
    unfold w_X4_keep
    simp only [nm]
    rw [bz1, z_cl (by omega), show (57 : Int32) * (nI k + 1) = nI (57 * (k + 1)) by rw [nI_1, show (57 : Int32) = nI 57 from rfl, z_mul]]
    have main : ∀ r5 : Int32, kk = r5 → kk = r5 ∧ IV (va_up (va_up (va_up o (4 + k) w') 1 (o 1)) 0 (va_up ((va_up (va_up o (4 + k) w') 1 (o 1)) 0) 2 (upd (((va_up (va_up o (4 + k) w') 1 (o 1)) 0) 2) k 1))) (va_up (va_up mo 3 (upd (mo 3) k 1)) 1 (cpb ((va_up mo 3 (upd (mo 3) k 1)) 1) (57 * (k + 1)) 0 57)) := by
      intro r5 h5
      refine ⟨h5, P, i0, ?_, ?_, ?_, ?_, ?_, ?_⟩
      · exact IW_cong (fun j hj => cpb_out (by omega)) i1
      · intro q hq
        show upd ((va_up (va_up o (4 + k) w') 1 (o 1)) 0 2) k 1 q = upd (mo 3) k 1 q ∧ (upd (mo 3) k 1 q = 0 ∨ (upd (mo 3) k 1 q = 1 ∧ _))
        rw [z_upN (j := 0) _ _ (by decide), z_upN (j := 0) _ _ (by omega)]
        by_cases e : q = k
        · subst e
          rw [z_upd_same, z_upd_same]
          refine ⟨rfl, Or.inr ⟨rfl, ?_⟩⟩
          rw [z_upN _ _ (by omega), z_upN _ _ (by omega), z_upS, z_upS]
          exact IW_cong (n := mo 1) (fun j hj => (cpb_in hj).trans (by rw [Nat.zero_add]; rfl)) ⟨i1.1, hw', i1.2.2⟩
        · rw [z_upd_ne _ _ e, z_upd_ne _ _ e]
          refine ⟨(i2 q hq).1, ?_⟩
          rcases (i2 q hq).2 with z | ⟨z, y⟩
          · exact Or.inl z
          · refine Or.inr ⟨z, ?_⟩
            rw [z_upN _ _ (by omega), z_upN _ _ (by omega), z_upN _ _ (by omega), z_upS]
            exact IW_cong (fun j hj => cpb_out (by omega)) y
      · rw [z_upN (j := 6) _ _ (by decide), z_upN (j := 6) _ _ (by decide), z_upN (j := 6) _ _ (by omega)]; exact i3
      · rw [z_upN (j := 6) _ _ (by decide), z_upN (j := 6) _ _ (by decide), z_upN (j := 6) _ _ (by omega)]; exact i4
      · show (va_up (va_up o (4 + k) w') 1 (o 1)) 0 0 7 = mo 0 27
        rw [z_upN (j := 0) _ _ (by decide), z_upN (j := 0) _ _ (by omega)]; exact i5
      · intro q hq
        unfold IS1
        rw [z_upN _ _ (by omega), z_upN _ _ (by omega), z_upN _ _ (by omega)]
        exact i6 q hq
    refine b_inz (b := 0) (c := 1) (fun h => absurd h1 h) (fun _ => br_neg n10 ⟨z_in (by omega) (by omega), b_flag (fun z => ⟨z_in (by omega) (by omega), b_copies (s := 0) (by omega) (by omega) (by omega) (main _ ?_)⟩) (fun z => ⟨z_in (by omega) (by omega), b_copies (s := 0) (by omega) (by omega) (by omega) (main _ ?_)⟩)⟩)
    · rw [hkk, if_pos z]
    · rw [hkk, if_neg z]
theorem L_back {P : Nat} {o : S3} {mo : S2} {lo : SL} (I : IVp P o mo) (p1 : Int32) : w_X3_back p1 o (fun r o' => w_X4_back p1 mo lo (fun r2 mo' _ => r = r2 ∧ IV o' mo')) := by
  have hP := I.2.1.1.1
  unfold w_X3_back
  simp only [nm]
  refine b_wz (fun hb => br_pos rfl ?_) (fun h1 => br_neg n10 ?_)
  · unfold w_X4_back
    exact b_inz (b := 0) (c := 1) (fun _ => br_pos rfl ⟨rfl, P, I⟩) (fun h => absurd h hb)
  · obtain ⟨k, hk, rfl⟩ := r_of (hi := 1) (by omega) h1
    have I0 := I
    obtain ⟨i0, i1, i2, i3, i4, i5, i6⟩ := I
    obtain ⟨ek, hk2⟩ := i2 k (by omega)
    have gk : gi 4 (nI k) = 4 + k := by unfold gi; rw [z_cl (by omega)]
    rw [gk, z_cl (by omega), ek]
    refine ⟨z_in (by omega) (by omega), br_in (fun q => ?_) (fun q => ⟨z_in (by omega) (by omega), ?_⟩)⟩
    · unfold w_X4_back
      rw [z_cl (by omega)]
      exact b_inz (b := 0) (c := 1) (fun h => absurd h1 h) (fun _ => br_neg n10 ⟨z_in (by omega) (by omega), br_pos q ⟨rfl, P, I0⟩⟩)
    · rcases hk2 with z | ⟨z, y⟩
      · exact absurd z q
      · refine b_become y.2.1 y.1 (fun w' hw' => ?_)
        unfold w_X4_back
        rw [z_cl (by omega), show (57 : Int32) * (nI k + 1) = nI (57 * (k + 1)) by rw [nI_1, show (57 : Int32) = nI 57 from rfl, z_mul]]
        refine b_inz (b := 0) (c := 1) (fun h => absurd h1 h) (fun _ => br_neg n10 ⟨z_in (by omega) (by omega), br_neg q (b_copies (t := 0) (by omega) (by omega) (by omega) ⟨?_, P, ?_⟩)⟩)
        · rw [tn_20, z_upN _ _ (by omega), z_upS, z_upS, hw'.2.1, cpb, if_pos ⟨by omega, by omega⟩]
        · have ew : (va_up (va_up o 1 w') (4 + k) (o (4 + k))) = va_up o 1 w' := by
            have := up_self (va_up o 1 w') (4 + k)
            rw [z_upN (j := 4 + k) (k := 1) _ _ (by omega)] at this
            exact this
          rw [ew]
          refine eqM_1 I0 ?_ (fun j hj => cpb_out (by omega))
          refine IW_cong (n := fun j => mo 1 (57 * (k + 1) + j)) (fun j hj => ?_) ⟨y.1, hw', y.2.2⟩
          unfold cpb; rw [if_pos ⟨by omega, by omega⟩]; rfl
