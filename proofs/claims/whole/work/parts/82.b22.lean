theorem md_alt1 {P : Nat} {mo : S2} {lo : SL} {x y : Int32} {K : Int32 → S2 → SL → Prop} (hP : P ≤ 5) (e3 : mo 0 3 = nI P) (kb : (¬ (∃ j, j < P ∧ x = nI j) ∨ ¬ (0 ≤ y ∧ y ≤ 999)) → K (-1) mo lo) (kg : ∀ j, j < P → x = nI j → (0 ≤ y ∧ y ≤ 999) → K (mo 1 (4 * j + 1)) (va_up mo 1 (upd (mo 1) (4 * j + 1) y)) lo) : w_X4_alter x 1 y mo lo K := by
  unfold w_X4_alter
  refine jn_in (fun J => (¬ (0 ≤ y ∧ y ≤ 999) → J 0) ∧ ((0 ≤ y ∧ y ≤ 999) → J 1)) ⟨fun h => ?_, fun h => ?_⟩ (fun J hJ => br_neg (by decide) (br_pos rfl (b_inz (b := 0) (c := 999) hJ.1 hJ.2)))
  · exact b_oz hP e3 (fun _ => br_pos rfl (kb (Or.inr h))) (fun j hj ej => br_neg n10 (br_pos rfl (kb (Or.inr h))))
  · refine b_oz hP e3 (fun hb => br_pos rfl (kb (Or.inl (fun ⟨j, hj, ej⟩ => hb j hj ej)))) (fun j hj ej => br_neg n10 (br_neg n10 ?_))
    subst ej
    rw [show (4 : Int32) * nI j + 1 = nI (4 * j + 1) by rw [show (4 : Int32) = nI 4 from rfl, z_mul, nI_1]]
    exact b_becomes (by omega) (kg j hj rfl h)
theorem md_q1 {P Q : Nat} {mo : S2} {lo : SL} {K : Int32 → S2 → SL → Prop} (e3 : mo 0 3 = nI P) (v : Vl P (nnS mo)) (e20 : mo 1 20 = nI Q) (hQ : Q < 999) (k : ∀ r mo', mo' 1 = fil (stS P (nnS mo)) (mo 1) 57 → mo' 2 = stS P (nnS mo) → mo' 12 = mo 12 → (∀ k, k = 3 ∨ k = 10 ∨ k = 15 ∨ k = 27 → mo' 0 k = mo 0 k) → (∀ c, c = 3 ∨ c = 5 ∨ c = 9 ∨ c = 10 ∨ c = 11 → mo' c = mo c) → K r mo' lo) : w_X4_quarters 1 mo lo K := by
  unfold w_X4_quarters
  rw [tn_20, tn_22, e20]
  refine b_inz (b := 0) (c := 30) (fun h => absurd (by decide) h) (fun _ => br_neg n10 (br_pos (by rw [nI_1]; exact nI_le (b := 999) (by omega) (by omega)) (b_starts ?_)))
  unfold w_X4_quartersGo
  refine nm_in ?_
  have v2 : Vl P ((va_up mo 2 (fil (mo 1) (mo 2) 57)) 2) := by rw [z_upS]; exact v
  intro G hG
  refine hG _ _ _ (br_neg (by decide) (b_quarterGoes (P := P) (by rw [z_upS, z_upd_ne _ _ (by omega)]; exact e3) (by rw [z_upN _ _ (by omega)]; exact v2) (fun mo' q => nm_in (hG _ _ _ (br_pos (by decide) (b_settles ?_))))))
  obtain ⟨q2, q18, qk, qc⟩ := q
  rw [z_upN _ _ (by omega), z_upS] at q2
  rw [z_upS]
  have q1 : mo' 1 = mo 1 := (qc 1 (by omega) (by omega) (by omega)).trans (by rw [z_upN _ _ (by omega), z_upN _ _ (by omega)])
  refine k _ _ ?_ ?_ ?_ (fun k hk => ?_) (fun c hc => ?_)
  · rw [z_upS, q2, q1]; rfl
  · rw [z_upN _ _ (by omega), q2]; rfl
  · rw [z_upN _ _ (by omega), qc 12 (by omega) (by omega) (by omega), z_upN _ _ (by omega), z_upN _ _ (by omega)]
  · rw [z_upN _ _ (by omega), qk k (by omega), z_upS, z_upd_ne _ _ (by omega)]; rfl
  · rw [z_upN _ _ (by omega), qc c (by omega) (by omega) (by omega), z_upN _ _ (by omega), z_upN _ _ (by omega)]
theorem md_restore {d : S2} {lo : SL} {B : S2 → SL → Prop} (k : B (va_up d 1 (fil (d 12) (d 1) 57)) lo) : lfp3 (fun G223 (i33 : Int32) (mo34 : S2) (lo35 : SL) => br (57 ≤ i33) (B mo34 lo35) (vp_in i33 57 ∧ (vp_in i33 171 ∧ (nm ((va_up mo34 1 (upd (mo34 1) i33.toNatClampNeg (mo34 12 i33.toNatClampNeg))) : S2) (fun mo39 => nm (i33 + 1 : Int32) (fun x40 => G223 x40 mo39 lo35)))))) 0 d lo := by
  refine lfp3_inv 57 (fun i a b c => a = nI i ∧ b = va_up d 1 (fil (d 12) (d 1) i) ∧ c = lo) ?_ ?_ (k := 0) (by omega) ⟨rfl, by rw [fil_0, up_self], rfl⟩
  · rintro a b c ⟨rfl, rfl, rfl⟩ G
    exact br_pos (nI_le (Nat.le_refl 57) (by omega)) k
  · rintro i a b c hi ⟨rfl, rfl, rfl⟩ G hG
    refine br_neg (nI_ge (b := 57) hi (by omega)) ⟨z_in (by omega) (by omega), z_in (by omega) (by omega), nm_in (nm_in (hG _ _ _ ⟨nI_1 i, ?_, rfl⟩))⟩
    rw [z_cl (by omega), z_upS, z_upU, z_upN _ _ (by omega), fil_succ]
def RDm (mo d : S2) : Prop := (∀ k, k = 3 ∨ k = 10 ∨ k = 15 ∨ k = 27 → d 0 k = mo 0 k) ∧ (∀ c, c = 3 ∨ c = 5 ∨ c = 9 ∨ c = 10 ∨ c = 11 → d c = mo c) ∧ (∀ j, 57 ≤ j → d 1 j = mo 1 j) ∧ (∀ j, j < 57 → d 12 j = mo 1 j)
theorem RDm_1 {mo d : S2} (h : RDm mo d) {j : Nat} (hj : j < 57) (y : Int32) : RDm mo (va_up d 1 (upd (d 1) j y)) := ⟨fun k hk => h.1 k hk, fun c hc => by rw [z_upN _ _ (by omega)]; exact h.2.1 c hc, fun i hi => by rw [z_upS, z_upd_ne _ _ (by omega)]; exact h.2.2.1 i hi, fun i hi => by rw [z_upN _ _ (by omega)]; exact h.2.2.2 i hi⟩
theorem RDm_r {mo d : S2} (h : RDm mo d) : RDm mo (va_up d 1 (fil (d 12) (d 1) 57)) ∧ ∀ j, (va_up d 1 (fil (d 12) (d 1) 57)) 1 j = mo 1 j := by
  refine ⟨⟨fun k hk => h.1 k hk, fun c hc => by rw [z_upN _ _ (by omega)]; exact h.2.1 c hc, fun i hi => by rw [z_upS, fil_hi _ _ hi]; exact h.2.2.1 i hi, fun i hi => by rw [z_upN _ _ (by omega)]; exact h.2.2.2 i hi⟩, fun j => ?_⟩
  rw [z_upS]
  by_cases q : j < 57
  · rw [fil_lo _ _ q]; exact h.2.2.2 j q
  · rw [fil_hi _ _ (by omega)]; exact h.2.2.1 j (by omega)
theorem nn_upd (d : S2) {j : Nat} (hj : j < 57) (y : Int32) : nnS (va_up d 1 (upd (d 1) j y)) = upd (nnS d) j y := by
  funext i
  unfold nnS
  rw [z_upS, z_upN _ _ (by omega)]
  by_cases e : i = j
  · subst e; rw [z_upd_same, fil_lo _ _ hj, z_upd_same]
  · rw [z_upd_ne _ _ e]
    by_cases q : i < 57
    · rw [fil_lo _ _ q, fil_lo _ _ q, z_upd_ne _ _ e]
    · rw [fil_hi _ _ (by omega), fil_hi _ _ (by omega)]
theorem md_read {P k a m : Nat} {s mo : S2} {lo : SL} {p3 : Int32} {K : Int32 → S2 → SL → Prop} {r : Int32} {e : Option (Int32 × S1)} (e3 : mo 0 3 = nI P) (v : Vl P (nnS mo)) (h20 : nI 0 ≤ nnS mo 20 ∧ nnS mo 20 ≤ nI 999) (hk : k ≤ 3) (ha : a ≤ 2) (hm : m ≤ 20) (IS : IS1 s mo k) (R : rdR P (fun i => fpS (s 0 0) (s 0 1) (nI a) (p3 + 2 * nI i)) (fun i => s 1 (p3 + 2 * nI i).toNatClampNeg) (fun i => s 1 (p3 + 2 * nI i + 1).toNatClampNeg) m m (nnS mo) r e) (ks : ∀ t n', e = some (t, n') → ∀ d, RDm mo d → nnS d = n' → Vl P n' → nI 0 ≤ n' 20 ∧ n' 20 ≤ nI 999 → K r (va_up d 0 (upd (d 0) 27 t)) lo) (kf : e = none → ∀ d, RDm mo d → (∀ j, d 1 j = mo 1 j) → K r d lo) : w_X4_read (nI k) (nI a) p3 (nI m) mo lo K := by
  have hP := v.1
  unfold w_X4_read
  refine b_isSheet (fun h => absurd ⟨⟨nI_pos' (by omega), nI_le (b := 3) hk (by omega)⟩, ⟨nI_pos' (by omega), nI_le (b := 2) ha (by omega)⟩⟩ h) (fun _ _ => br_neg n10 (b_inz (b := 0) (c := 20) (fun h => absurd ⟨nI_pos' (by omega), nI_le (b := 20) hm (by omega)⟩ h) (fun _ => br_neg n10 ?_)))
  refine lfp3_inv 57 (fun i a b c => a = nI i ∧ b = va_up mo 12 (fil (mo 1) (mo 12) i) ∧ c = lo) ?_ ?_ (k := 0) (by omega) ⟨rfl, by rw [fil_0, up_self], rfl⟩
  · rintro a1 b c ⟨rfl, rfl, rfl⟩ G0
    refine br_pos (nI_le (Nat.le_refl 57) (by omega)) ?_
    intro G hG
    generalize eft : (fun i : Nat => fpS (s 0 0) (s 0 1) (nI a) (p3 + 2 * nI i)) = ft at R
    generalize ex : (fun i : Nat => s 1 (p3 + 2 * nI i).toNatClampNeg) = x at R
    generalize ey : (fun i : Nat => s 1 (p3 + 2 * nI i + 1).toNatClampNeg) = y at R
    have main : ∀ kk i n1 d, i + kk = m → RDm mo d → nnS d = n1 → Vl P n1 → nI 0 ≤ n1 20 ∧ n1 20 ≤ nI 999 → rdR P ft x y m kk n1 r e → G 0 (nI i) (nI i) d c := by
      intro kk
      induction kk with
      | zero =>
        rintro i n1 d hi hd hn v1 r1 ⟨rfl, he⟩
        refine hG _ _ _ _ _ (jn_in (fun J => J ()) (nm_in ?_) (fun J hJ => br_pos (nI_le (by omega) (by omega)) hJ))
        have := ks 0 n1 he d hd hn v1 r1
        rw [show i = m by omega]
        exact this
      | succ kk ih =>
        intro i n1 d hi hd hn v1 r1 R
        have mi : m - (kk + 1) = i := by omega
        unfold rdR at R
        rw [mi] at R
        have fti : fpS (s 0 0) (s 0 1) (nI a) (p3 + 2 * nI i) = ft i := by rw [← eft]
        have xi : s 1 (p3 + 2 * nI i).toNatClampNeg = x i := by rw [← ex]
        have yi : s 1 (p3 + 2 * nI i + 1).toNatClampNeg = y i := by rw [← ey]
        have IS' : IS1 s d k := by unfold IS1; rw [hd.2.1 9 (by omega), hd.2.1 10 (by omega), hd.2.1 11 (by omega)]; exact IS
        refine hG _ _ _ _ _ (jn_in (fun _ => True) trivial (fun J _ => br_neg (nI_ge (by omega) (by omega)) (br_pos rfl (md_reason (s := s) (by omega) (by omega) IS' ?_))))
        rw [fti]
        refine jn_in (fun J => (¬ ft i = 0 → J (nI i) d c) ∧ (ft i = 0 → ∀ d', RDm mo d' → nnS d' = rst P n1 (x i) (y i) → ¬ rbd P n1 (x i) (y i) → J (nI (i + 1)) d' c)) ⟨fun q => nm_in ?_, fun q d' hd' hn' q2 => nm_in ?_⟩ (fun J hJ => ?_)
        · rcases R with ⟨-, rfl, he⟩ | ⟨z, -⟩ | ⟨z, -⟩
          · have kx := ks (ft i) n1 he d hd hn v1 r1
            exact hG _ _ _ _ _ (jn_in (fun J => J ()) (nm_in kx) (fun J hJ => br_in (fun _ => hJ) (fun _ => br_neg q hJ)))
          · exact absurd z q
          · exact absurd z q
        · rw [q, nI_1]
          obtain ⟨v2, r2⟩ := rst_Vl v1 r1 q2
          rcases R with ⟨z, -⟩ | ⟨-, z, -⟩ | ⟨-, -, R⟩
          · exact absurd q z
          · exact absurd z q2
          · exact ih (i + 1) _ d' (by omega) hd' hn' v2 r2 R
        · refine br_in (fun q => ?_) (fun q => hJ.1 q)
          have e3d : d 0 3 = nI P := (hd.1 3 (by omega)).trans e3
          rcases IS.1 with ⟨z, -⟩ | ⟨a1, z, ha1, hz, ea, e9, ez, e10⟩
          · rw [← fti, fpS, if_pos z] at q
            exact absurd q (by decide)
          have fq := fti.trans q
          rw [ez] at fq
          obtain ⟨t, ht, et⟩ := fp_at hz (by omega) fq
          have ex26 : (40 : Int32) * nI k + p3 + 2 * nI i = nI (40 * k + t) := by
            rw [show (40 : Int32) = nI 40 from rfl, z_mul, Int32.add_assoc, et, z_add]
          refine nm_in ?_
          rw [ex26, nI_1, z_cl (by omega), z_cl (by omega)]
          refine ⟨z_in (by omega) (by omega), z_in (by omega) (by omega), ?_⟩
          rw [hd.2.1 11 (by omega)]
          have x2 : mo 11 (40 * k + t) = x i := by rw [← xi, et, z_cl (by omega)]; exact (IS.2 t (by omega)).symm
          have y2 : mo 11 (40 * k + t + 1) = y i := by rw [← yi, et, nI_1, z_cl (by omega)]; exact (IS.2 (t + 1) (by omega)).symm
          rw [x2, y2]
          -- the way back
          have back : ∀ d', RDm mo d' → rbd P n1 (x i) (y i) → K ((-20) - nI i) (va_up d' 1 (fil (d' 12) (d' 1) 57)) c := by
            intro d' hd' hb
            rcases R with ⟨z, -⟩ | ⟨-, z, rfl, he⟩ | ⟨-, z, -⟩
            · exact absurd q z
            · exact kf he _ (RDm_r hd').1 (RDm_r hd').2
            · exact absurd hb z
          refine md_alt1 hP e3d (fun hb => ?_) (fun j hj ej h => ?_)
          · exact jn_in (fun J => J ()) (md_restore (back d hd (Or.inr hb))) (fun J hJ => br_pos rfl hJ)
          · have n4 : d 1 (4 * j + 1) = n1 (4 * j + 1) := by rw [← hn, nn_lo _ (by omega)]
            have n20 : d 1 20 = n1 20 := by rw [← hn, nn_lo _ (by omega)]
            have hd2 := RDm_1 hd (j := 4 * j + 1) (by omega) (y i)
            have hn2 : nnS (va_up d 1 (upd (d 1) (4 * j + 1) (y i))) = upd n1 (4 * j + 1) (y i) := by rw [nn_upd _ (by omega), hn]
            refine jn_in (fun J => n1 20 = 999 → J ()) (fun z => md_restore (back _ hd2 (Or.inl z))) (fun J2 hJ2 => ?_)
            rw [n4, tn_20, z_upS, z_upd_ne _ _ (by omega), n20]
            refine br_neg (ms_m1 v1 hj) (br_in (fun z => hJ2 z) (fun z => ?_))
            obtain ⟨Q, -, hQ, eQ⟩ := z_of (lo := 0) (hi := 999) r1.1 r1.2 (by omega) (by omega)
            have Q9 : Q ≠ 999 := fun y => z (by rw [eQ, y]; rfl)
            refine md_q1 (P := P) (Q := Q) e3d (by rw [hn2]; exact Vl_ms v1 (by omega) h) (by rw [z_upS, z_upd_ne _ _ (by omega), n20, eQ]) (by omega) (fun r' mo' m1 m2 m12 m0 mc => nm_in ?_)
            rw [nI_1]
            refine hJ.2 q mo' ⟨fun k hk => (m0 k hk).trans (hd2.1 k hk), fun c hc => (mc c hc).trans (hd2.2.1 c hc), fun j hj => ?_, fun j hj => ?_⟩ ?_ ?_
            · rw [m1, fil_hi _ _ hj]; exact hd2.2.2.1 j hj
            · rw [m12]; exact hd2.2.2.2 j hj
            · unfold nnS
              rw [m1, m2, hn2, rst, ej, z_cl (by omega)]
              funext u
              by_cases qu : u < 57
              · rw [fil_lo _ _ qu, fil_lo _ _ qu]
              · rw [fil_hi _ _ (by omega)]
            · rintro (z1 | z1 | z1)
              · exact z z1
              · exact z1 ⟨j, hj, ej⟩
              · exact z1 h
    refine main m 0 (nnS mo) _ (by omega) ⟨fun k hk => rfl, fun c hc => by rw [z_upN _ _ (by omega)], fun j hj => by rw [z_upN _ _ (by omega)], fun j hj => by rw [z_upS, fil_lo _ _ hj]⟩ ?_ v h20 R
    unfold nnS
    rw [z_upN _ _ (by omega), z_upN _ _ (by omega)]
  · rintro i a1 b c hi ⟨rfl, rfl, rfl⟩ G hG
    refine br_neg (nI_ge (b := 57) hi (by omega)) ⟨z_in (by omega) (by omega), z_in (by omega) (by omega), nm_in (nm_in (hG _ _ _ ⟨nI_1 i, ?_, rfl⟩))⟩
    rw [z_cl (by omega), z_upS, z_upU, z_upN _ _ (by omega), fil_succ]
theorem L_read {P : Nat} {o : S3} {mo : S2} {lo : SL} (I : IVp P o mo) (p1 p2 p3 p4 : Int32) : w_X3_read p1 p2 p3 p4 o (fun r o' => w_X4_read p1 p2 p3 p4 mo lo (fun r2 mo' _ => r = r2 ∧ IV o' mo')) := by
  have bad : ¬ ((0 ≤ p1 ∧ p1 ≤ 3) ∧ (0 ≤ p2 ∧ p2 ≤ 2) ∧ (0 ≤ p4 ∧ p4 ≤ 20)) → w_X4_read p1 p2 p3 p4 mo lo (fun r2 mo' _ => (-1 : Int32) = r2 ∧ IV o mo') := by
    intro hb
    unfold w_X4_read
    exact b_isSheet (fun _ => br_pos rfl ⟨rfl, P, I⟩) (fun h1 h2 => br_neg n10 (b_inz (b := 0) (c := 20) (fun _ => br_pos rfl ⟨rfl, P, I⟩) (fun h3 => absurd ⟨h1, h2, h3⟩ hb)))
  by_cases g : (0 ≤ p1 ∧ p1 ≤ 3) ∧ (0 ≤ p2 ∧ p2 ≤ 2) ∧ (0 ≤ p4 ∧ p4 ≤ 20)
  · obtain ⟨h1, h2, h3⟩ := g
    obtain ⟨k, hk, rfl⟩ := r_of (hi := 3) (by omega) h1
    obtain ⟨a, ha, rfl⟩ := r_of (hi := 2) (by omega) h2
    obtain ⟨m, hm, rfl⟩ := r_of (hi := 20) (by omega) h3
    have IS := I.2.2.2.2.2.2 k (by omega)
    have v := I.nV
    have w := I.nW
    have h20 : nI 0 ≤ nnS mo 20 ∧ nnS mo 20 ≤ nI 999 := by rw [nn_lo _ (by omega)]; exact I.2.1.2.2
    refine cl_read w v h20 hk ha hm ?_ (fun r t n' R b w' hw' => ?_) (fun r R b w' hw' => ?_)
    · rcases IS.1 with ⟨z, -⟩ | ⟨a1, z, ha1, hz, ea, e9, ez, e10⟩
      · exact Or.inl z
      · exact Or.inr ⟨z, hz, ez⟩
    · refine md_read I.1 v h20 hk ha hm IS R (fun t2 n2 e2 d hd hn vn rn => ⟨rfl, P, ?_⟩) (fun e2 => absurd e2 (by simp))
      obtain ⟨rfl, rfl⟩ : t2 = t ∧ n2 = n' := by
        have := Option.some.inj e2
        exact ⟨(congrArg Prod.fst this).symm, (congrArg Prod.snd this).symm⟩
      have J : IVp P (va_up o 1 w') d := IVp_now I (f' := d 1) (IW_cong (n := n2) (fun j hj => by rw [← hn, nn_lo _ hj]) ⟨vn, hw', rn⟩) hd.2.2.1 rfl hd.1 hd.2.1
      obtain ⟨j0, j1, j2, j3, j4, j5, j6⟩ := J
      refine ⟨?_, ?_, ?_, ?_, ?_, ?_, ?_⟩
      · rw [z_upS, z_upd_ne _ _ (by omega)]; exact j0
      · exact j1
      · intro q hq
        have := j2 q hq
        rw [z_upN _ _ (by omega), z_upN _ _ (by omega)] at this
        rw [z_upN (va_up (va_up o 3 b) 1 w') _ (show 4 + q ≠ 0 by omega), z_upN _ _ (show 4 + q ≠ 1 by omega), z_upN _ _ (show 4 + q ≠ 3 by omega)]
        exact this
      · exact j3
      · exact j4
      · rfl
      · intro q hq
        have := j6 q hq
        rw [z_upN _ _ (by omega)] at this
        unfold IS1 at this ⊢
        rw [z_upN _ _ (by omega), z_upN _ _ (by omega), z_upN _ _ (by omega)]
        exact this
    · refine md_read I.1 v h20 hk ha hm IS R (fun t2 n2 e2 => absurd e2 (by simp)) (fun e2 d hd hn => ⟨rfl, P, ?_⟩)
      have J : IVp P (va_up o 1 w') d := IVp_now I (f' := d 1) (IW_cong (n := nnS mo) (fun j hj => by rw [hn, nn_lo _ hj]) ⟨v, hw', h20⟩) hd.2.2.1 rfl hd.1 hd.2.1
      refine IVp_q J ⟨fun g h0 h2 h3 => ?_, rfl, rfl⟩ (eqM.rf d)
      by_cases g1 : g = 1
      · subst g1; rfl
      · rw [z_upN _ _ g1, z_upN _ _ h3, z_upN _ _ g1]
  · unfold w_X3_read
    exact b_wz (fun hb => br_pos rfl (bad g)) (fun h1 => br_neg n10 (b_wz (fun hb => br_pos rfl (bad g)) (fun h2 => br_neg n10 (b_wz (fun hb => br_pos rfl (bad g)) (fun h3 => absurd ⟨h1, h2, h3⟩ g)))))
