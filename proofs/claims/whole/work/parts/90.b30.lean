theorem cod_m4 : ∀ ln, ln < 8 → (cod ln = -4 ↔ ln = 7) := by decide
theorem cod_gt : ∀ ln, ln < 8 → (4 < cod ln ↔ (ln = 4 ∨ ln = 5)) := by decide
theorem cod_4 : ∀ ln, ln < 8 → (cod ln = 4 ↔ ln = 6) := by decide
theorem cod_5 : ∀ ln, ln < 8 → (cod ln = 5 ↔ ln = 4) := by decide
theorem cod_6 : ∀ ln, ln < 8 → (cod ln = 6 ↔ ln = 5) := by decide
theorem LN_7 {b : Nat → Nat} {σ : SG} {ln : Nat} (h : LN b σ ln) : ln < 8 := by
  by_cases q : σ.2.2.2.2 = 1
  · rcases (h.1 q).1 with z | z <;> omega
  · have := h.2 q; omega
theorem lnS_f {L ln : Nat} {b : Nat → Nat} {τ : SG} (h : (nx L b τ).1 ≠ 0) (h7 : ln < 7 ∨ τ.1 ≠ 0) : nx L b (st L b (hd2 L b ln τ)) = nx L b τ := by
  have hn : ∀ lo hi, num L b lo hi τ = nx L b τ := fun lo hi => by unfold num; rw [nb_f h]
  have e : hd2 L b ln τ = nx L b τ := by
    unfold hd2
    split
    · rw [hn, num_f h]
    · split
      · exact hn _ _
      · split
        · exact hn _ _
        · split
          · unfold gf3
            rw [hn, num_f h, num_f h, rf_F h, ite_self, num_f h]
          · have : τ.1 ≠ 0 := h7.resolve_left (by omega)
            rw [nx_f this]
  rw [e, st_f h, nx_f h]
theorem md_check {L c : Nat} {b : Nat → Nat} {σ : SG} {mo : S2} {lx : SL} {REST : S2 → SL → Prop} {BOOL : (Int32 → Prop) → Prop} (good : Prop) [Decidable good] (M : MR L b σ mo) (hc : c ≠ 0) (hf : σ.1 ≤ 6) (hb : ∀ J : Int32 → Prop, (good → J 1) → (¬ good → J 0) → BOOL J) (h : ∀ mo', MR L b (if good then σ else rf c σ) mo' → kT mo mo' → REST mo' lx) : jn (fun (k4 : Int32) => w_X4_needs k4 (nI c) mo lx (fun a b => REST a b)) BOOL := by
  refine jn_in (fun J => (good → J 1) ∧ (¬ good → J 0)) ⟨fun g => ?_, fun g => ?_⟩ (fun J hJ => hb J hJ.1 hJ.2)
  · rw [if_pos g] at h
    exact md_needs M hc hf (fun z => absurd z n10) (fun _ => h mo M (kT.rf mo))
  · rw [if_neg g] at h
    exact md_needs M hc hf (fun _ mo' M' k' => h mo' M' k') (fun z => absurd rfl z)
theorem md_readLine {L ln : Nat} {b : Nat → Nat} {σ : SG} {ω : OM} {mo : S2} {lx : SL} {K : S2 → SL → Prop} (B : BB L b) (M : MR L b σ mo) (ok : OK L σ) (s0 : σ.1 = 0) (D : DM ω mo) (hP : ω.2.1 ≤ 5) (hg : ω.2.2.1 ≤ 4) (hs : ω.2.2.2.1 ≤ 1) (hc : ω.2.2.2.2.1 ≤ 1) (hH : ω.2.2.2.2.2 ≤ 5) (n23 : ω.1 23 = nI ω.2.2.1) (hl : LN b σ ln) (k : ∀ mo', MR L b (lnS L b ln σ ω) mo' → kR mo mo' → ((lnS L b ln σ ω).1 = 0 → DM (lnW L b ln σ ω) mo') → K mo' lx) : w_X4_readLine mo lx K := by
  have l8 := LN_7 hl
  obtain ⟨d4, d5, d6, d7, d8⟩ := D
  unfold w_X4_readLine
  refine jn_in (fun J => J (cod ln) mo lx) ?_ (fun J hJ => ?_)
  · -- a name that is none
    refine md_check (c := 2) (¬ ln = 7) M (by omega) ok.1 (fun J h1 h0 => br_in (fun q => h0 (fun z => z ((cod_m4 ln l8).mp q))) (fun q => h1 (fun z => q ((cod_m4 ln l8).mpr z)))) (fun mo1 M1 k1 => ?_)
    have okA : OK L (if ¬ ln = 7 then σ else rf 2 σ) := by split; exact ok; exact rf_OK (by omega) (by omega) ok
    have a23 : mo1 4 (23 : Int32).toNatClampNeg = nI ω.2.2.1 := by rw [tn_23, k1.1 4 (by omega), d4]; exact n23
    have a5 : mo1 0 5 = nI ω.2.1 := (k1.2 5 (by omega)).trans d5
    -- too many
    refine md_check (c := 5) (ln = 4 ∨ ln = 5 ∨ (ln = 6 ∧ ω.2.2.1 < 4) ∨ ((ln < 4 ∨ ln = 7) ∧ ω.2.1 < 5)) M1 (by omega) okA.1 (fun J h1 h0 => ?_) (fun mo2 M2 k2 => ?_)
    · refine jn_in (fun J2 => (ln = 4 ∨ ln = 5 ∨ (ln = 6 ∧ ω.2.2.1 < 4) ∨ ((ln < 4 ∨ ln = 7) ∧ ω.2.1 < 5)) → J2 ()) (fun g => h1 g) (fun J2 hJ2 => br_in (fun q => hJ2 ?_) (fun q => ?_))
      · have := (cod_gt ln l8).mp q; omega
      · have q' : ¬ (ln = 4 ∨ ln = 5) := fun z => q ((cod_gt ln l8).mpr z)
        refine jn_in (fun J3 => ¬ (ln = 4 ∨ ln = 5 ∨ (ln = 6 ∧ ω.2.2.1 < 4) ∨ ((ln < 4 ∨ ln = 7) ∧ ω.2.1 < 5)) → J3 ()) (fun g => h0 g) (fun J3 hJ3 => ?_)
        rw [a23, a5]
        refine br_in (fun q4 => br_in (fun y => hJ3 ?_) (fun y => hJ2 ?_)) (fun q4 => br_in (fun y => hJ3 ?_) (fun y => hJ2 ?_))
        · have e := (cod_4 ln l8).mp q4
          have y := (nI_leI (a := 4) (by omega) (by omega)).mp y
          omega
        · have e := (cod_4 ln l8).mp q4
          have y : ¬ 4 ≤ ω.2.2.1 := fun z => y ((nI_leI (a := 4) (by omega) (by omega)).mpr z)
          omega
        · have e : ¬ ln = 6 := fun z => q4 ((cod_4 ln l8).mpr z)
          have y := (nI_leI (a := 5) (by omega) (by omega)).mp y
          omega
        · have e : ¬ ln = 6 := fun z => q4 ((cod_4 ln l8).mpr z)
          have y : ¬ 5 ≤ ω.2.1 := fun z => y ((nI_leI (a := 5) (by omega) (by omega)).mpr z)
          omega
    generalize eB : (if ln = 4 ∨ ln = 5 ∨ (ln = 6 ∧ ω.2.2.1 < 4) ∨ ((ln < 4 ∨ ln = 7) ∧ ω.2.1 < 5) then (if ¬ ln = 7 then σ else rf 2 σ) else rf 5 (if ¬ ln = 7 then σ else rf 2 σ)) = sB at M2
    have okB : OK L sB := by rw [← eB]; split; exact okA; exact rf_OK (by omega) (by omega) okA
    have b6 : mo2 0 6 = nI ω.2.2.2.1 := (k2.2 6 (by omega)).trans ((k1.2 6 (by omega)).trans d6)
    -- the slump told twice
    refine md_check (c := 4) (¬ (ln = 4 ∧ ω.2.2.2.1 = 1)) M2 (by omega) okB.1 (fun J h1 h0 => ?_) (fun mo3 M3 k3 => ?_)
    · refine jn_in (fun J2 => ¬ (ln = 4 ∧ ω.2.2.2.1 = 1) → J2 ()) (fun g => h1 g) (fun J2 hJ2 => br_in (fun q => ?_) (fun q => hJ2 (fun z => q ((cod_5 ln l8).mpr z.1))))
      have e := (cod_5 ln l8).mp q
      rw [b6]
      refine br_in (fun y => hJ2 (fun z => ?_)) (fun y => h0 (fun z => z ⟨e, ?_⟩))
      · rw [z.2] at y; exact absurd y (by decide)
      · rcases (show ω.2.2.2.1 = 0 ∨ ω.2.2.2.1 = 1 by omega) with u | u
        · exact absurd (by rw [u]; rfl) y
        · exact u
    generalize eC : (if ¬ (ln = 4 ∧ ω.2.2.2.1 = 1) then sB else rf 4 sB) = sC at M3
    have okC : OK L sC := by rw [← eC]; split; exact okB; exact rf_OK (by omega) (by omega) okB
    have c7 : mo3 0 7 = nI ω.2.2.2.2.1 := (k3.2 7 (by omega)).trans ((k2.2 7 (by omega)).trans ((k1.2 7 (by omega)).trans d7))
    -- the coin told twice
    refine md_check (c := 4) (¬ (ln = 5 ∧ ω.2.2.2.2.1 = 1)) M3 (by omega) okC.1 (fun J h1 h0 => ?_) (fun mo4 M4 k4 => ?_)
    · refine jn_in (fun J2 => ¬ (ln = 5 ∧ ω.2.2.2.2.1 = 1) → J2 ()) (fun g => h1 g) (fun J2 hJ2 => br_in (fun q => ?_) (fun q => hJ2 (fun z => q ((cod_6 ln l8).mpr z.1))))
      have e := (cod_6 ln l8).mp q
      rw [c7]
      refine br_in (fun y => hJ2 (fun z => ?_)) (fun y => h0 (fun z => z ⟨e, ?_⟩))
      · rw [z.2] at y; exact absurd y (by decide)
      · rcases (show ω.2.2.2.2.1 = 0 ∨ ω.2.2.2.2.1 = 1 by omega) with u | u
        · exact absurd (by rw [u]; rfl) y
        · exact u
    have eD : (if ¬ (ln = 5 ∧ ω.2.2.2.2.1 = 1) then sC else rf 4 sC) = hd1 ln σ ω := by
      rw [← eC, ← eB]
      unfold hd1
      rcases (show ln < 4 ∨ ln = 4 ∨ ln = 5 ∨ ln = 6 ∨ ln = 7 by omega) with e | e | e | e | e
      · rw [if_pos (show ¬ (ln = 5 ∧ ω.2.2.2.2.1 = 1) by omega), if_pos (show ¬ (ln = 4 ∧ ω.2.2.2.1 = 1) by omega), if_pos (show ¬ ln = 7 by omega), if_pos e]
        by_cases y : ω.2.1 < 5
        · rw [if_pos (by omega), if_pos y]
        · rw [if_neg (by omega), if_neg y]
      · subst e
        rw [if_pos (show ¬ (4 = 5 ∧ ω.2.2.2.2.1 = 1) by omega), if_pos (show ¬ 4 = 7 by omega), if_pos (Or.inl rfl), if_neg (show ¬ 4 < 4 by omega), if_pos (show 4 = 4 from rfl)]
        by_cases y : ω.2.2.2.1 = 0
        · rw [if_pos (show ¬ (4 = 4 ∧ ω.2.2.2.1 = 1) by omega), if_pos y]
        · rw [if_neg (show ¬ ¬ (4 = 4 ∧ ω.2.2.2.1 = 1) by omega), if_neg y]
      · subst e
        rw [if_pos (show ¬ (5 = 4 ∧ ω.2.2.2.1 = 1) by omega), if_pos (show ¬ 5 = 7 by omega), if_pos (Or.inr (Or.inl rfl)), if_neg (show ¬ 5 < 4 by omega), if_neg (show ¬ 5 = 4 by omega), if_pos (show 5 = 5 from rfl)]
        by_cases y : ω.2.2.2.2.1 = 0
        · rw [if_pos (by omega), if_pos y]
        · rw [if_neg (by omega), if_neg y]
      · subst e
        rw [if_pos (show ¬ (6 = 5 ∧ ω.2.2.2.2.1 = 1) by omega), if_pos (show ¬ (6 = 4 ∧ ω.2.2.2.1 = 1) by omega), if_pos (show ¬ 6 = 7 by omega), if_neg (show ¬ 6 < 4 by omega), if_neg (show ¬ 6 = 4 by omega), if_neg (show ¬ 6 = 5 by omega), if_pos (show 6 = 6 from rfl)]
        by_cases y : ω.2.2.1 < 4
        · rw [if_pos (by omega), if_pos y]
        · rw [if_neg (by omega), if_neg y]
      · subst e
        have r : (rf 2 σ).1 ≠ 0 := rf_f (by omega)
        rw [if_pos (show ¬ (7 = 5 ∧ ω.2.2.2.2.1 = 1) by omega), if_pos (show ¬ (7 = 4 ∧ ω.2.2.2.1 = 1) by omega), if_neg (show ¬ ¬ 7 = 7 by omega), rf_F r, ite_self, if_neg (show ¬ 7 < 4 by omega), if_neg (show ¬ 7 = 4 by omega), if_neg (show ¬ 7 = 5 by omega), if_neg (show ¬ 7 = 6 by omega)]
    rw [eD] at M4
    have kA : kT mo mo4 := ((k1.tr k2).tr k3).tr k4
    have e4 : mo4 4 = ω.1 := (kA.1 4 (by omega)).trans d4
    have e5 : mo4 0 5 = nI ω.2.1 := (kA.2 5 (by omega)).trans d5
    have e6 : mo4 0 6 = nI ω.2.2.2.1 := (kA.2 6 (by omega)).trans d6
    have e7 : mo4 0 7 = nI ω.2.2.2.2.1 := (kA.2 7 (by omega)).trans d7
    have e8 : mo4 0 8 = hI ω.2.2.2.2.2 := (kA.2 8 (by omega)).trans d8
    have ok1 := hd1_OK (ln := ln) (ω := ω) ok
    -- what has been told
    refine jn_in (fun J => J (nI (if ln = 4 then 1 else ω.2.2.2.1))) ⟨?_, nm_in ?_⟩ (fun J hJ => jn_in (fun J2 => (ln = 4 ∨ ω.2.2.2.1 = 1) → J2 ()) (fun z => ?_) (fun J2 hJ2 => ?_))
    · split
      · exact Or.inr rfl
      · rcases (show ω.2.2.2.1 = 0 ∨ ω.2.2.2.1 = 1 by omega) with u | u
        · exact Or.inl (by rw [u]; rfl)
        · exact Or.inr (by rw [u]; rfl)
    · refine jn_in (fun J => J (nI (if ln = 5 then 1 else ω.2.2.2.2.1))) ⟨?_, nm_in ?_⟩ (fun J hJ => jn_in (fun J2 => (ln = 5 ∨ ω.2.2.2.2.1 = 1) → J2 ()) (fun z => ?_) (fun J2 hJ2 => ?_))
      · split
        · exact Or.inr rfl
        · rcases (show ω.2.2.2.2.1 = 0 ∨ ω.2.2.2.2.1 = 1 by omega) with u | u
          · exact Or.inl (by rw [u]; rfl)
          · exact Or.inr (by rw [u]; rfl)
      · -- the token behind the name
        obtain ⟨mo5, e_5⟩ : ∃ z, z = va_up (va_up mo4 0 (upd (mo4 0) 6 (nI (if ln = 4 then 1 else ω.2.2.2.1)))) 0 (upd ((va_up mo4 0 (upd (mo4 0) 6 (nI (if ln = 4 then 1 else ω.2.2.2.1)))) 0) 7 (nI (if ln = 5 then 1 else ω.2.2.2.2.1))) := ⟨_, rfl⟩
        rw [← e_5]
        have M5 : MR L b (hd1 ln σ ω) mo5 := by rw [e_5]; exact MR_0 (MR_0 M4 (by omega) _) (by omega) _
        have kB : kR mo mo5 := by rw [e_5]; exact kR_0 (kR_0 kA.R (by omega) _) (by omega) _
        have g4 : mo5 4 = ω.1 := by rw [e_5]; exact e4
        have g5 : mo5 0 5 = nI ω.2.1 := by rw [e_5]; exact e5
        have g6 : mo5 0 6 = nI (if ln = 4 then 1 else ω.2.2.2.1) := by rw [e_5]; rfl
        have g7 : mo5 0 7 = nI (if ln = 5 then 1 else ω.2.2.2.2.1) := by rw [e_5]; rfl
        have g8 : mo5 0 8 = hI ω.2.2.2.2.2 := by rw [e_5]; exact e8
        clear e_5
        refine md_takes B M5 ok1 (fun mo6 M6 k6 => ?_)
        have h4 : mo6 4 = ω.1 := (k6.1 4 (by omega)).trans g4
        have h5 : mo6 0 5 = nI ω.2.1 := (k6.2 5 (by omega)).trans g5
        have h6 : mo6 0 6 = nI (if ln = 4 then 1 else ω.2.2.2.1) := (k6.2 6 (by omega)).trans g6
        have h7 : mo6 0 7 = nI (if ln = 5 then 1 else ω.2.2.2.2.1) := (k6.2 7 (by omega)).trans g7
        have h8 : mo6 0 8 = hI ω.2.2.2.2.2 := (k6.2 8 (by omega)).trans g8
        by_cases f0 : (nx L b (hd1 ln σ ω)).1 = 0
        · obtain ⟨e1, -, c1, c2, c3, c4, c5⟩ := hd1_0 (nx_mono f0).1
          rw [e1] at M6 f0
          refine br_pos (by rw [M6.2.2.1, f0]; exact Int32.le_refl 0) ?_
          -- behind the line's numbers
          have go : rlK L b ln σ ω mo6 lx (fun mo30 lo31 => jn (fun (mo33 : S2) (lo34 : SL) => w_X4_takes mo33 lo34 (fun mo35 lo36 => K mo35 lo36)) (fun J206 => br ((mo30 0 15) = 0) (jn (fun (k39 : Int32) => w_X4_needs k39 (2 : Int32) mo30 lo31 (fun mo40 lo41 => J206 mo40 lo41)) (fun J202 => br ((mo30 0 13) = 3) (J202 1) (J202 0))) (J206 mo30 lo31))) := by
            intro mo7 M7 k7 D7
            have ok7 : OK L (nx L b (hd2 L b ln σ)) := nx_OK (hd2_OK ok)
            refine jn_in (fun J => ∀ mo8, MR L b (st L b (hd2 L b ln σ)) mo8 → kT mo7 mo8 → J mo8 lx) (fun mo8 M8 k8 => md_takes B M8 (st_OK (hd2_OK ok)) (fun mo9 M9 k9 => k mo9 ?_ (((kB.tr k6.R).tr k7).tr (k8.tr k9).R) (fun f9 => ?_))) (fun J hJ => ?_)
            · unfold lnS; rw [e1]; exact M9
            · unfold lnS at f9
              rw [e1] at f9
              have D := D7 (st_0 (nx_mono f9).1).1
              have kk := k8.tr k9
              exact ⟨(kk.1 4 (by omega)).trans D.1, (kk.2 5 (by omega)).trans D.2.1, (kk.2 6 (by omega)).trans D.2.2.1, (kk.2 7 (by omega)).trans D.2.2.2.1, (kk.2 8 (by omega)).trans D.2.2.2.2⟩
            · by_cases z : (nx L b (hd2 L b ln σ)).1 = 0
              · refine br_pos (by rw [M7.2.2.1, z]; rfl) (md_check (c := 2) ((nx L b (hd2 L b ln σ)).2.2.2.2 = 3) M7 (by omega) ok7.1 (fun J h1 h0 => ?_) (fun mo8 M8 k8 => hJ mo8 ?_ k8))
                · rw [M7.2.2.2.2.2.1]
                  exact br_in (fun q => h1 ((nI_eq (b := 3) (by have := ok7.2.2.2.1; omega) (by omega)).mp q)) (fun q => h0 (fun y => q (by rw [y]; rfl)))
                · unfold st; exact M8
              · refine br_neg (by rw [M7.2.2.1]; exact nI_ne0 (by omega) (by have := ok7.1; omega)) (hJ mo7 ?_ (kT.rf mo7))
                unfold st; rw [rf_F z, ite_self]; exact M7
          rcases (show ln < 4 ∨ ln = 4 ∨ ln = 5 ∨ ln = 6 by omega) with e | e | e | e
          · rw [if_neg (by omega)] at h6 h7
            rw [show cod ln = nI ln by unfold cod; rw [if_pos e]]
            exact md_one B M6 ok h4 h5 h6 h7 h8 (c1 e) e go
          · subst e
            rw [if_pos rfl] at h6
            rw [if_neg (by omega)] at h7
            exact md_slumpL B M6 ok h4 h5 h6 h7 h8 go
          · subst e
            rw [if_neg (by omega)] at h6
            rw [if_pos rfl] at h7
            exact md_coinL B M6 ok h4 h5 h6 h7 h8 (by omega) go
          · subst e
            rw [if_neg (by omega)] at h6 h7
            exact md_giftL B M6 ok h4 h5 h6 h7 h8 (c4 rfl) n23 hH go
        · have e : lnS L b ln σ ω = nx L b (hd1 ln σ ω) := by
            unfold lnS
            refine lnS_f f0 ?_
            rcases (show ln < 7 ∨ ln = 7 by omega) with z | z
            · exact Or.inl z
            · subst z; exact Or.inr (rf_f (by omega))
          refine br_neg (by rw [M6.2.2.1]; exact nI_nle (by omega) (by have := (nx_OK (b := b) ok1).1; omega)) (k mo6 (by rw [e]; exact M6) (kB.tr k6.R) (fun z => absurd (e ▸ z) f0))
      · rcases z with z | z
        · rw [if_pos z] at hJ; exact hJ
        · rw [z, ite_self] at hJ; exact hJ
      · show br (mo4 0 7 = 0) _ _
        rw [e7]
        refine br_in (fun q => br_in (fun y => hJ2 (Or.inl ((cod_6 ln l8).mp y))) (fun y => ?_)) (fun q => hJ2 (Or.inr ?_))
        · rw [if_neg (fun z => y ((cod_6 ln l8).mpr z)), q] at hJ; exact hJ
        · rcases (show ω.2.2.2.2.1 = 0 ∨ ω.2.2.2.2.1 = 1 by omega) with u | u
          · exact absurd (by rw [u]; rfl) q
          · exact u
    · rcases z with z | z
      · rw [if_pos z] at hJ; exact hJ
      · rw [z, ite_self] at hJ; exact hJ
    · rw [e6]
      refine br_in (fun q => br_in (fun y => hJ2 (Or.inl ((cod_5 ln l8).mp y))) (fun y => ?_)) (fun q => hJ2 (Or.inr ?_))
      · rw [if_neg (fun z => y ((cod_5 ln l8).mpr z)), q] at hJ; exact hJ
      · rcases (show ω.2.2.2.1 = 0 ∨ ω.2.2.2.1 = 1 by omega) with u | u
        · exact absurd (by rw [u]; rfl) q
        · exact u
  · rw [M.2.2.2.2.2.1]
    refine br_in (fun q => md_lineNow B M ok ((nI_eq (b := 1) (by have := ok.2.2.2.1; omega) (by omega)).mp q) hl hJ) (fun q => ?_)
    have e := hl.2 (fun z => q (by rw [z]; rfl))
    rw [e] at hJ; exact hJ
