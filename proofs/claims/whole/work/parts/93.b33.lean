theorem any_nI2 (x : Int32) : ∃ n, n ≠ 2 ∧ x = nI n := by
  obtain ⟨n, e⟩ := any_nI x
  by_cases q : n = 2
  · exact ⟨4294967298, by omega, by rw [e, q]; decide⟩
  · exact ⟨n, q, e⟩
theorem md_firstDraft {mo : S2} {lx : SL} {K : S2 → SL → Prop} (k : ∀ mo', mo' 4 = fil (fun _ => 0) (mo 4) 57 → mo' 0 5 = 0 → mo' 0 6 = 0 → mo' 0 7 = 0 → mo' 0 8 = -4 → (∀ c, c ≠ 0 → c ≠ 4 → mo' c = mo c) → (∀ k, k < 5 ∨ 8 < k → mo' 0 k = mo 0 k) → K mo' lx) : w_X4_firstDraft mo lx K := by
  unfold w_X4_firstDraft
  refine lfp3_inv 57 (fun i a b c => a = nI i ∧ b = va_up mo 4 (fil (fun _ => 0) (mo 4) i) ∧ c = lx) ?_ ?_ (k := 0) (by omega) ⟨rfl, by rw [fil_0, up_self], rfl⟩
  · rintro a b c ⟨rfl, rfl, rfl⟩ G
    refine br_pos (nI_le (Nat.le_refl 57) (by omega)) (nm_in (nm_in (nm_in (nm_in (k _ ?_ rfl rfl rfl rfl (fun c h0 h4 => ?_) (fun j hj => ?_))))))
    · rw [z_upN _ _ (by omega), z_upN _ _ (by omega), z_upN _ _ (by omega), z_upN _ _ (by omega), z_upS]
    · rw [z_upN _ _ h0, z_upN _ _ h0, z_upN _ _ h0, z_upN _ _ h0, z_upN _ _ h4]
    · rw [z_upS, z_upd_ne _ _ (by omega), z_upS, z_upd_ne _ _ (by omega), z_upS, z_upd_ne _ _ (by omega), z_upS, z_upd_ne _ _ (by omega), z_upN _ _ (by omega)]
  · rintro i a b c hi ⟨rfl, rfl, rfl⟩ G hG
    refine br_neg (nI_ge (b := 57) hi (by omega)) ⟨z_in (by omega) (by omega), nm_in (nm_in (hG _ _ _ ⟨nI_1 i, ?_, rfl⟩))⟩
    rw [z_cl (by omega), z_upS, z_upU]
    have := fil_succ (fun _ => 0) (mo 4) i
    rw [← this]
theorem md_keepDraft {mo : S2} {lx : SL} {K : S2 → SL → Prop} (k : ∀ mo', mo' 1 = upd (fil (mo 4) (mo 1) 57) 22 (if mo 0 5 = 0 then -4 else mo 4 22) → mo' 0 3 = mo 0 5 → mo' 3 0 = 0 → mo' 3 1 = 0 → (∀ c, c ≠ 0 → c ≠ 1 → c ≠ 3 → mo' c = mo c) → (∀ k, k ≠ 3 → mo' 0 k = mo 0 k) → K mo' lx) : w_X4_keepDraft mo lx K := by
  unfold w_X4_keepDraft
  refine lfp3_inv 57 (fun i a b c => a = nI i ∧ b = va_up mo 1 (fil (mo 4) (mo 1) i) ∧ c = lx) ?_ ?_ (k := 0) (by omega) ⟨rfl, by rw [fil_0, up_self], rfl⟩
  · rintro a b c ⟨rfl, rfl, rfl⟩ G
    refine br_pos (nI_le (Nat.le_refl 57) (by omega)) (nm_in ?_)
    refine jn_in (fun J => J (if mo 0 5 = 0 then -4 else mo 4 22)) (nm_in (nm_in (nm_in (k _ ?_ rfl rfl rfl (fun c h0 h1 h3 => ?_) (fun j hj => ?_))))) (fun J hJ => ?_)
    · rw [z_upN _ _ (by omega), z_upN _ _ (by omega), z_upS, z_upN _ _ (by omega), z_upS, tn_22]
    · rw [z_upN _ _ h3, z_upN _ _ h3, z_upN _ _ h1, z_upN _ _ h0, z_upN _ _ h1]
    · rw [z_upN _ _ (by omega), z_upN _ _ (by omega), z_upN _ _ (by omega), z_upS, z_upd_ne _ _ hj, z_upN _ _ (by omega)]
    · show br (mo 0 5 = 0) _ _
      refine br_in (fun q => by rw [if_pos q] at hJ; exact hJ) (fun q => ?_)
      rw [if_neg q] at hJ
      rw [tn_22, z_upN _ _ (by omega), z_upS, fil_lo _ _ (by omega)]
      exact hJ
  · rintro i a b c hi ⟨rfl, rfl, rfl⟩ G hG
    refine br_neg (nI_ge (b := 57) hi (by omega)) ⟨z_in (by omega) (by omega), z_in (by omega) (by omega), nm_in (nm_in (hG _ _ _ ⟨nI_1 i, ?_, rfl⟩))⟩
    rw [z_cl (by omega), z_upS, z_upU, z_upN _ _ (by omega), fil_succ]
theorem md_text {L m : Nat} {b : Nat → Nat} {σf : SG} {ωf : OM} {mo : S2} {lx : SL} {K : Int32 → S2 → SL → Prop} (B : BB L b) (m10 : mo 0 10 = nI L) (m5 : ∀ j, j < L → mo 5 j = nI (b j)) (D0 : DV (fil (fun _ => 0) (mo 4) 57, 0, 0, 0, 0, 0)) (R : txR L b m (nx L b (0, 0, 0, 0, 0)) (fil (fun _ => 0) (mo 4) 57, 0, 0, 0, 0, 0) σf ωf) (kf : (fn σf ωf).1 ≠ 0 → ∀ mo', mo' 0 15 = nI (fn σf ωf).1 → mo' 0 10 = 0 → (∀ c, c ≠ 0 → c ≠ 4 → mo' c = mo c) → (∀ k, k < 5 ∨ 16 < k → mo' 0 k = mo 0 k) → K (-10 - nI (fn σf ωf).2.1) mo' lx) (ks : (fn σf ωf).1 = 0 → ∀ mo', mo' 1 = upd (fil ωf.1 (mo 1) 57) 22 (if nI ωf.2.1 = 0 then -4 else ωf.1 22) → mo' 0 3 = nI ωf.2.1 → mo' 3 0 = 0 → mo' 3 1 = 0 → mo' 0 15 = 0 → mo' 0 10 = 0 → (∀ c, c ≠ 0 → c ≠ 1 → c ≠ 3 → c ≠ 4 → mo' c = mo c) → (∀ k, k < 3 ∨ 16 < k → mo' 0 k = mo 0 k) → K (nI m) mo' lx) : w_X4_text mo lx K := by
  have hL := B.1
  have OK0 : OK L (0, 0, 0, 0, 0) := ⟨by simp, by simp, by simp, by simp, fun _ z => absurd rfl z, fun _ z => absurd z (by simp)⟩
  unfold w_X4_text
  refine nm_in (nm_in (md_firstDraft (fun mo1 a4 a5 a6 a7 a8 ac ak => ?_)))
  have b10 : mo1 0 10 = nI L := (ak 10 (by omega)).trans m10
  have b5 : ∀ j, j < L → mo1 5 j = nI (b j) := fun j hj => by rw [ac 5 (by omega) (by omega)]; exact m5 j hj
  have b15 : mo1 0 15 = nI 0 := (ak 15 (by omega)).trans rfl
  have b11 : mo1 0 11 = nI 0 := (ak 11 (by omega)).trans rfl
  have bk : ∀ k, k < 5 ∨ 16 < k → mo1 0 k = mo 0 k := fun k hk => by
    rw [ak k (by omega), z_upS, z_upd_ne _ _ (by omega), z_upS, z_upd_ne _ _ (by omega)]
  have bc : ∀ c, c ≠ 0 → c ≠ 4 → mo1 c = mo c := fun c h0 h4 => by
    rw [ac c h0 h4, z_upN _ _ h0, z_upN _ _ h0]
  have a4 : mo1 4 = fil (fun _ => 0) (mo 4) 57 := a4
  obtain ⟨s12, e12⟩ := any_nI (mo1 0 12)
  obtain ⟨s13, n13, e13⟩ := any_nI2 (mo1 0 13)
  have M0 : MR L b (0, 0, 0, s12, s13) mo1 := ⟨b10, b5, b15, fun z => absurd rfl z, b11, e13, e12, fun _ z => absurd z n13⟩
  refine md_takesW B M0 ⟨by simp, trivial, by simp, trivial⟩ (fun mo2 M2 k2 => ?_)
  rw [nx_00] at M2
  have D2 : DM (fil (fun _ => 0) (mo 4) 57, 0, 0, 0, 0, 0) mo2 := ⟨(k2.1 4 (by omega)).trans a4, (k2.2 5 (by omega)).trans a5, (k2.2 6 (by omega)).trans a6, (k2.2 7 (by omega)).trans a7, (k2.2 8 (by omega)).trans a8⟩
  have c1 : ∀ c, c ≠ 0 → c ≠ 4 → mo2 c = mo c := fun c h0 h4 => (k2.1 c h0).trans (bc c h0 h4)
  have c2 : ∀ k, k < 5 ∨ 16 < k → mo2 0 k = mo 0 k := fun k hk => (k2.2 k (by omega)).trans (bk k hk)
  intro G hG
  have main : ∀ m' i σ ω d, i + m' = m → MR L b σ d → OK L σ → (σ.1 = 0 → DM ω d ∧ DV ω ∧ (σ.2.2.2.2 = 0 → L ≤ σ.2.2.2.1)) → (∀ c, c ≠ 0 → c ≠ 4 → d c = mo c) → (∀ k, k < 5 ∨ 16 < k → d 0 k = mo 0 k) → txR L b m' σ ω σf ωf → G (nI i) d lx := by
    intro m'
    induction m' with
    | zero =>
      rintro i σ ω d hi M ok hh hc hk ⟨en, rfl, rfl⟩
      have ei : i = m := by omega
      -- both ends
      have fin : ∀ d', MR L b (fn σf ωf) d' → kT d d' → (nm ((va_up d' 0 (upd (d' 0) 10 0)) : S2) (fun mo14 => br ((mo14 0 15) ≤ 0) (w_X4_keepDraft mo14 lx (fun mo16 lo17 => K (nI i) mo16 lo17)) (K ((-10) - (mo14 0 16)) mo14 lx))) := by
        intro d' M' k'
        have c' : ∀ c, c ≠ 0 → c ≠ 4 → d' c = mo c := fun c h0 h4 => (k'.1 c h0).trans (hc c h0 h4)
        have kk : ∀ k, k < 5 ∨ 16 < k → d' 0 k = mo 0 k := fun k h => (k'.2 k (by omega)).trans (hk k h)
        refine nm_in ?_
        by_cases f0 : (fn σf ωf).1 = 0
        · have s0 : σf.1 = 0 := by
            unfold fn at f0
            split at f0
            · rename_i q; exact q.1
            · exact f0
          obtain ⟨D, -, -⟩ := hh s0
          have p15 : d' 0 15 = 0 := by rw [M'.2.2.1, f0]; rfl
          refine br_pos (by show d' 0 15 ≤ 0; rw [p15]; exact Int32.le_refl 0) (md_keepDraft (fun mo' x1 x3 x30 x31 xc xk => ?_))
          have q4 : (va_up d' 0 (upd (d' 0) 10 0)) 4 = ωf.1 := (k'.1 4 (by omega)).trans D.1
          have q5 : (va_up d' 0 (upd (d' 0) 10 0)) 0 5 = nI ωf.2.1 := (k'.2 5 (by omega)).trans D.2.1
          have q1 : (va_up d' 0 (upd (d' 0) 10 0)) 1 = mo 1 := c' 1 (by omega) (by omega)
          rw [q4, q5, q1] at x1
          rw [q5] at x3
          rw [ei]
          refine ks f0 mo' x1 x3 x30 x31 ?_ ?_ (fun c h0 h1 h3 h4 => ?_) (fun k h => ?_)
          · rw [xk 15 (by omega)]; exact p15
          · rw [xk 10 (by omega)]; rfl
          · rw [xc c h0 h1 h3, z_upN _ _ h0]; exact c' c h0 h4
          · rw [xk k (by omega), z_upS, z_upd_ne _ _ (by omega)]; exact kk k (by omega)
        · have of : (fn σf ωf).1 ≤ 6 := by
            unfold fn
            split
            · exact (rf_OK (by omega) (by omega) ok).1
            · exact ok.1
          refine br_neg (by show ¬ d' 0 15 ≤ 0; rw [M'.2.2.1]; exact nI_nle (by omega) (by omega)) ?_
          rw [show (va_up d' 0 (upd (d' 0) 10 0)) 0 16 = nI (fn σf ωf).2.1 from M'.2.2.2.1 f0]
          refine kf f0 _ ?_ rfl (fun c h0 h4 => ?_) (fun k h => ?_)
          · exact M'.2.2.1
          · rw [z_upN _ _ h0]; exact c' c h0 h4
          · rw [z_upS, z_upd_ne _ _ (by omega)]; exact kk k h
      by_cases f0 : σf.1 = 0
      · have m15 : d 0 15 = 0 := by rw [M.2.2.1, f0]; rfl
        have z5 := en.resolve_left (fun z => z f0)
        obtain ⟨D, V, -⟩ := hh f0
        refine hG _ _ _ (jn_in (fun J => J ()) (jn_in (fun J => ∀ d', MR L b (fn σf ωf) d' → kT d d' → J d' lx) fin (fun J hJ => br_pos m15 (md_check (c := 6) (¬ ωf.2.1 < ωf.2.2.2.2.2) M (by omega) ok.1 (fun J2 h1 h0 => ?_) (fun d' M' k' => hJ d' ?_ k')))) (fun J hJ => br_pos m15 (br_pos (by rw [M.2.2.2.2.2.1, z5]; rfl) hJ)))
        · rw [D.2.1, D.2.2.2.2]
          have v1 := V.1
          have v5 := V.2.2.2.2.1
          exact br_in (fun q => h0 (fun y => by have := (hI_le (by omega) (by omega)).mp q; omega)) (fun q => h1 (fun y => q ((hI_le (by omega) (by omega)).mpr (by omega))))
        · unfold fn
          by_cases y : ωf.2.1 < ωf.2.2.2.2.2
          · rw [if_neg (fun z => z y)] at M'
            rw [if_pos ⟨f0, y⟩]; exact M'
          · rw [if_pos y] at M'
            rw [if_neg (fun z => y z.2)]; exact M'
      · have m15 : ¬ d 0 15 = 0 := by rw [M.2.2.1]; exact nI_ne0 (by omega) (by have := ok.1; omega)
        have ef : fn σf ωf = σf := by unfold fn; rw [if_neg (fun z => f0 z.1)]
        exact hG _ _ _ (jn_in (fun J => J ()) (jn_in (fun J => J d lx) (fin d (by rw [ef]; exact M) (kT.rf d)) (fun J hJ => br_neg m15 hJ)) (fun J hJ => br_neg m15 hJ))
    | succ m' ih =>
      rintro i σ ω d hi M ok hh hc hk ⟨f0, z5, ln, hln, R⟩
      obtain ⟨D, V, hs⟩ := hh f0
      have m15 : d 0 15 = 0 := by rw [M.2.2.1, f0]; rfl
      have m13 : ¬ d 0 13 = 0 := by rw [M.2.2.2.2.2.1]; exact nI_ne0 (by omega) (by have := ok.2.2.2.1; omega)
      refine hG _ _ _ (jn_in (fun _ => True) trivial (fun J _ => br_pos m15 (br_neg m13 (md_readLine B M ok f0 D V.1 V.2.1 V.2.2.1 V.2.2.2.1 V.2.2.2.2.1 V.2.2.2.2.2.2.1 hln (fun d' M' k' D' => nm_in ?_)))))
      rw [nI_1]
      refine ih (i + 1) _ _ d' (by omega) M' (lnS_OK ok) (fun f1 => ?_) (fun c h0 h4 => (k'.1 c h0 h4).trans (hc c h0 h4)) (fun k h => (k'.2 k (by omega)).trans (hk k h)) R
      have l0 := lnS_0 ok f1
      exact ⟨D' f1, DV_ln V l0.2.2, l0.2.1⟩
  exact main m 0 _ _ mo2 (by omega) M2 (nx_OK OK0) (fun f0 => ⟨D2, D0, (nx_mono f0).2.2⟩) c1 c2 R
theorem b_flags {o : S3} {K : S3 → Prop} (k : ∀ f : S1, f 0 = 0 → f 1 = 0 → K (va_up o 0 (va_up (o 0) 2 f))) : lfp2 (fun G61 (i15 : Int32) (o16 : S3) => br (2 ≤ i15) (K o16) (vp_in i15 2 ∧ (nm ((va_up o16 0 (va_up (o16 0) 2 (upd ((o16 0) 2) i15.toNatClampNeg (vp_nar .boolean 0)))) : S3) (fun o19 => nm (i15 + 1 : Int32) (fun x20 => G61 x20 o19))))) 0 o := by
  refine lfp2_inv 2 (fun i a c => a = nI i ∧ ∃ f : S1, c = va_up o 0 (va_up (o 0) 2 f) ∧ ∀ j, j < i → f j = 0) ?_ ?_ (k := 0) (by omega) ⟨rfl, o 0 2, by rw [up_self, up_self], fun j h => absurd h (by omega)⟩
  · rintro a c ⟨rfl, f, rfl, hf⟩ G
    exact br_pos (nI_le (Nat.le_refl 2) (by omega)) (k f (hf 0 (by omega)) (hf 1 (by omega)))
  · rintro i a c hi ⟨rfl, f, rfl, hf⟩ G hG
    refine br_neg (nI_ge (b := 2) hi (by omega)) ⟨z_in (by omega) (by omega), nm_in (nm_in (hG _ _ ⟨nI_1 i, upd f i (vp_nar .boolean 0), ?_, fun j hj => ?_⟩))⟩
    · rw [z_cl (by omega), z_upS, z_upS, z_upU, z_upU]
    · by_cases e : j = i
      · subst e; rw [z_upd_same]; rfl
      · rw [z_upd_ne _ _ e]; exact hf j (by omega)
