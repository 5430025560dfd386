def vdS (b : Nat → Nat) (s e : Nat) : Nat := if e ≤ s then 0 else if e = s + 1 then b s - 48 else 10 * (b s - 48) + (b (s + 1) - 48)
/-- the reference's reader -/
def MR (L : Nat) (b : Nat → Nat) (σ : SG) (mo : S2) : Prop := mo 0 10 = nI L ∧ (∀ j, j < L → mo 5 j = nI (b j)) ∧ mo 0 15 = nI σ.1 ∧ (σ.1 ≠ 0 → mo 0 16 = nI σ.2.1) ∧ mo 0 11 = nI σ.2.2.1 ∧ mo 0 13 = nI σ.2.2.2.2 ∧ mo 0 12 = nI σ.2.2.2.1 ∧ (σ.1 = 0 → σ.2.2.2.2 = 2 → mo 0 14 = nI (vdS b σ.2.2.2.1 σ.2.2.1))
def kT (mo mo' : S2) : Prop := (∀ c, c ≠ 0 → mo' c = mo c) ∧ (∀ k, k < 11 ∨ 16 < k → mo' 0 k = mo 0 k)
theorem kT.rf (mo : S2) : kT mo mo := ⟨fun _ _ => rfl, fun _ _ => rfl⟩
theorem kT.tr {a b c : S2} (h1 : kT a b) (h2 : kT b c) : kT a c := ⟨fun x h => (h2.1 x h).trans (h1.1 x h), fun x h => (h2.2 x h).trans (h1.2 x h)⟩
theorem kT_set {mo d : S2} (h : kT mo d) {k : Nat} (hk : ¬ (k < 11 ∨ 16 < k)) (x : Int32) : kT mo (va_up d 0 (upd (d 0) k x)) := ⟨fun c hc => by rw [z_upN _ _ hc]; exact h.1 c hc, fun j hj => by rw [z_upS, z_upd_ne _ _ (by omega)]; exact h.2 j hj⟩
theorem md_byteAt {L p : Nat} {b : Nat → Nat} {mo : S2} {lo : SL} {K : Int32 → S2 → SL → Prop} (hL : L ≤ 160) (h10 : mo 0 10 = nI L) (h5 : ∀ j, j < L → mo 5 j = nI (b j)) {x : Int32} (ex : x = nI p) (hp : p < 1000) (k1 : p < L → K (nI (b p)) mo lo) (k0 : L ≤ p → K (-1) mo lo) : w_X4_byteAt x mo lo K := by
  unfold w_X4_byteAt
  rw [h10, ex]
  refine br_in (fun q => k0 ((nI_leI (by omega) (by omega)).mp q)) (fun q => ?_)
  rw [nI_leI (by omega) (by omega)] at q
  refine ⟨z_in (by omega) (by omega), ?_⟩
  rw [z_cl (by omega), h5 p (by omega)]
  exact k1 (by omega)
theorem md_needs {L c : Nat} {b : Nat → Nat} {σ : SG} {mo : S2} {lo : SL} {x : Int32} {K : S2 → SL → Prop} (M : MR L b σ mo) (hc : c ≠ 0) (hf : σ.1 ≤ 6) (h0 : x = 0 → ∀ mo', MR L b (rf c σ) mo' → kT mo mo' → K mo' lo) (h1 : ¬ x = 0 → K mo lo) : w_X4_needs x (nI c) mo lo K := by
  obtain ⟨m10, m5, m15, m16, m11, m13, m12, m14⟩ := id M
  unfold w_X4_needs
  refine br_in (fun q => ?_) h1
  by_cases qf : σ.1 = 0
  · refine br_pos (by rw [m15, qf]; rfl) (nm_in (nm_in (h0 q _ ?_ ?_)))
    · unfold rf
      rw [if_pos qf]
      exact ⟨m10, m5, rfl, fun _ => m12, m11, m13, m12, fun z => absurd z hc⟩
    · exact kT_set (kT_set (kT.rf mo) (k := 15) (by omega) _) (k := 16) (by omega) _
  · refine br_neg (by rw [m15]; exact nI_ne0 (by omega) (by omega)) (h0 q _ ?_ (kT.rf mo))
    rw [rf_F qf]; exact M
theorem in_b {x : Nat} {lo hi : Nat} (hx : x < 1000) (hl : lo < 1000) (hh : hi < 1000) : (nI lo ≤ nI x ∧ nI x ≤ nI hi) ↔ (lo ≤ x ∧ x ≤ hi) := by
  rw [nI_leI (by omega) (by omega), nI_leI (by omega) (by omega)]
theorem md_takesW {L : Nat} {b : Nat → Nat} {σ : SG} {mo : S2} {lo : SL} {K : S2 → SL → Prop} (B : BB L b) (M : MR L b σ mo) (ok : OKw L σ) (k : ∀ mo', MR L b (nx L b σ) mo' → kT mo mo' → K mo' lo) : w_X4_takes mo lo K := by
  have hL := B.1
  obtain ⟨m10, m5, m15, m16, m11, m13, m12, m14⟩ := id M
  unfold w_X4_takes
  by_cases q : σ.1 = 0
  · refine br_pos (by rw [m15, q]; exact Int32.le_refl 0) ?_
    unfold nx at k
    rw [if_pos q] at k
    intro G hG
    have main : ∀ d p mo1, p + d = L → ern L b 32 32 p = ern L b 32 32 σ.2.2.1 → kT mo mo1 → mo1 0 15 = nI 0 → mo1 0 11 = nI p → G mo1 lo := by
      intro d
      induction d with
      | zero =>
        intro p mo1 hp he h1 h15 h11
        have n10 : mo1 0 10 = nI L := (h1.2 10 (by omega)).trans m10
        have n5 : ∀ j, j < L → mo1 5 j = nI (b j) := fun j hj => by rw [h1.1 5 (by omega)]; exact m5 j hj
        rw [ern_hi (by omega)] at he
        rw [← he, if_pos (by omega)] at k
        refine hG _ _ ?_
        refine md_byteAt (b := b) hL n10 n5 h11 (by omega) (fun z => absurd z (by omega)) (fun _ => br_neg (by decide) (nm_in ?_))
        refine md_byteAt (b := b) (mo := va_up mo1 0 (upd (mo1 0) 12 (mo1 0 11))) hL n10 n5 h11 (by omega) (fun z => absurd z (by omega)) (fun _ => br_neg (show ¬ (0 : Int32) ≤ -1 by decide) (nm_in (k _ ?_ ?_)))
        · exact ⟨n10, n5, h15, fun z => absurd rfl z, h11, rfl, h11, fun _ z => absurd z (by simp)⟩
        · exact kT_set (kT_set h1 (k := 12) (by omega) _) (k := 13) (by omega) _
      | succ d ih =>
        intro p mo1 hp he h1 h15 h11
        have n10' : mo1 0 10 = nI L := (h1.2 10 (by omega)).trans m10
        have n5 : ∀ j, j < L → mo1 5 j = nI (b j) := fun j hj => by rw [h1.1 5 (by omega)]; exact m5 j hj
        have bp := B.2 p (by omega)
        refine hG _ _ ?_
        refine md_byteAt (b := b) hL n10' n5 h11 (by omega) (fun _ => br_in (fun z => nm_in ?_) (fun z => nm_in ?_)) (fun z => absurd z (by omega))
        · have z' := (nI_eq (b := 32) (by omega) (by omega)).mp z
          refine ih (p + 1) _ (by omega) ?_ (kT_set h1 (k := 11) (by omega) _) h15 ?_
          · rw [← he, ern_lo (p := p) (by omega), if_pos (by omega)]
          · rw [z_upS, z_upd_same, h11, nI_1]
        · have z' : b p ≠ 32 := fun y => z (by rw [y]; rfl)
          have es : ern L b 32 32 p = p := by rw [ern_lo (by omega), if_neg (by omega)]
          rw [es] at he
          rw [← he, if_neg (by omega)] at k
          obtain ⟨d2, ed2⟩ : ∃ z, z = va_up mo1 0 (upd (mo1 0) 12 (mo1 0 11)) := ⟨_, rfl⟩
          rw [← ed2]
          have g10 : d2 0 10 = nI L := by rw [ed2]; exact n10'
          have g5 : ∀ j, j < L → d2 5 j = nI (b j) := by rw [ed2]; exact n5
          have g11 : d2 0 11 = nI p := by rw [ed2]; exact h11
          have g12 : d2 0 12 = nI p := by rw [ed2]; exact h11
          have g15 : d2 0 15 = nI 0 := by rw [ed2]; exact h15
          have gk : kT mo d2 := by rw [ed2]; exact kT_set h1 (k := 12) (by omega) _
          refine md_byteAt (b := b) hL g10 g5 g11 (by omega) (fun _ => br_pos (nI_pos' (by omega)) ?_) (fun z => absurd z (by omega))
          refine b_inz (b := 97) (c := 122) (fun y1 => br_pos rfl ?_) (fun y1 => br_neg n10 (nm_in ?_))
          · rw [show (97 : Int32) = nI 97 from rfl, show (122 : Int32) = nI 122 from rfl, in_b (by omega) (by omega) (by omega)] at y1
            rw [if_neg (fun y => y1 ((ern_in (by omega)).mp y))] at k
            refine b_inz (b := 48) (c := 57) (fun y2 => br_pos rfl (nm_in ?_)) (fun y2 => br_neg n10 (nm_in (nm_in ?_)))
            · rw [show (48 : Int32) = nI 48 from rfl, show (57 : Int32) = nI 57 from rfl, in_b (by omega) (by omega) (by omega)] at y2
              rw [if_neg (fun y => y2 ((ern_in (by omega)).mp y))] at k
              have m3 : MR L b (0, p, p, p, 3) (va_up d2 0 (upd (d2 0) 13 3)) := ⟨g10, g5, g15, fun z => absurd rfl z, g11, rfl, g12, fun _ z => absurd z (by simp)⟩
              have k3 : kT mo (va_up d2 0 (upd (d2 0) 13 3)) := kT_set gk (k := 13) (by omega) _
              refine jn_in (fun J => (b p = 59 → J 1) ∧ (b p ≠ 59 → J 0)) ⟨fun y => ?_, fun y => ?_⟩ (fun J hJ => br_in (fun y => hJ.1 ((nI_eq (b := 59) (by omega) (by omega)).mp y)) (fun y => hJ.2 (fun u => y (by rw [u]; rfl))))
              · rw [if_pos y] at k
                refine md_needs (c := 1) m3 (by omega) (by simp) (fun u => absurd u (by decide)) (fun _ => nm_in (k _ ?_ (kT_set k3 (k := 11) (by omega) _)))
                refine ⟨g10, g5, g15, fun z => absurd rfl z, ?_, rfl, g12, fun _ z => absurd z (by simp)⟩
                rw [z_upS, z_upd_same]; show d2 0 11 + 1 = _; rw [g11, nI_1]
              · rw [if_neg y] at k
                refine md_needs (c := 1) m3 (by omega) (by simp) (fun _ mo' m' k' => nm_in (k _ ?_ (kT_set (k3.tr k') (k := 11) (by omega) _))) (fun u => absurd rfl u)
                obtain ⟨c10, c5, c15, c16, c11, c13, c12, c14⟩ := m'
                refine ⟨c10, c5, c15, c16, ?_, c13, c12, fun z => absurd z (by simp [rf])⟩
                rw [z_upS, z_upd_same, c11, nI_1]; simp [rf]
            · rw [show (48 : Int32) = nI 48 from rfl, show (57 : Int32) = nI 57 from rfl, in_b (by omega) (by omega) (by omega)] at y2
              rw [if_pos ((ern_in (by omega)).mpr y2)] at k
              -- the number's digits
              intro G2 hG2
              have num : ∀ d' p' mo2, p' + d' = L → p ≤ p' → ern L b 48 57 p' = ern L b 48 57 p → (∀ j, p ≤ j → j < p' → 48 ≤ b j ∧ b j ≤ 57) → kT mo mo2 → mo2 0 15 = nI 0 → mo2 0 11 = nI p' → mo2 0 12 = nI p → mo2 0 13 = nI 2 → mo2 0 14 = nI (vdS b p p') → G2 mo2 lo := by
                intro d'
                induction d' with
                | zero =>
                  intro p' mo2 hp' hpp he2 hd hk h15 h11 h12 h13 h14
                  have c10 : mo2 0 10 = nI L := (hk.2 10 (by omega)).trans m10
                  have c5 : ∀ j, j < L → mo2 5 j = nI (b j) := fun j hj => by rw [hk.1 5 (by omega)]; exact m5 j hj
                  rw [ern_hi (by omega)] at he2
                  rw [← he2] at k
                  have mm : MR L b (0, p, p', p, 2) mo2 := ⟨c10, c5, h15, fun z => absurd rfl z, h11, h13, h12, fun _ _ => h14⟩
                  refine hG2 _ _ ?_
                  refine md_byteAt (b := b) hL c10 c5 h11 (by omega) (fun z => absurd z (by omega)) (fun _ => b_inz (b := 48) (c := 57) (fun _ => br_pos rfl ?_) (fun z => absurd z (by decide)))
                  refine jn_in (fun J => (2 < p' - p → J 0) ∧ (¬ 2 < p' - p → J 1)) ⟨fun y => ?_, fun y => ?_⟩ (fun J hJ => ?_)
                  · rw [if_pos y] at k
                    exact md_needs (c := 1) mm (by omega) (by simp) (fun _ mo' m' k' => k _ m' (hk.tr k')) (fun u => absurd rfl u)
                  · rw [if_neg y] at k
                    exact md_needs (c := 1) mm (by omega) (by simp) (fun u => absurd u (by decide)) (fun _ => k _ mm hk)
                  · rw [h11, h12, pk_sub (by omega), show (2 : Int32) = nI 2 from rfl]
                    exact br_in (fun y => hJ.1 ((nI_ltI (by omega) (by omega)).mp y)) (fun y => hJ.2 (fun u => y ((nI_ltI (by omega) (by omega)).mpr u)))
                | succ d' ih2 =>
                  intro p' mo2 hp' hpp he2 hd hk h15 h11 h12 h13 h14
                  have c10 : mo2 0 10 = nI L := (hk.2 10 (by omega)).trans m10
                  have c5 : ∀ j, j < L → mo2 5 j = nI (b j) := fun j hj => by rw [hk.1 5 (by omega)]; exact m5 j hj
                  have bp' := B.2 p' (by omega)
                  have mm : MR L b (0, p, p', p, 2) mo2 := ⟨c10, c5, h15, fun z => absurd rfl z, h11, h13, h12, fun _ _ => h14⟩
                  refine hG2 _ _ ?_
                  refine md_byteAt (b := b) hL c10 c5 h11 (by omega) (fun _ => b_inz (b := 48) (c := 57) (fun y3 => br_pos rfl ?_) (fun y3 => br_neg n10 ?_)) (fun z => absurd z (by omega))
                  · rw [show (48 : Int32) = nI 48 from rfl, show (57 : Int32) = nI 57 from rfl, in_b (by omega) (by omega) (by omega)] at y3
                    rw [ern_lo (p := p') (by omega), if_neg y3] at he2
                    rw [← he2] at k
                    refine jn_in (fun J => (2 < p' - p → J 0) ∧ (¬ 2 < p' - p → J 1)) ⟨fun y => ?_, fun y => ?_⟩ (fun J hJ => ?_)
                    · rw [if_pos y] at k
                      exact md_needs (c := 1) mm (by omega) (by simp) (fun _ mo' m' k' => k _ m' (hk.tr k')) (fun u => absurd rfl u)
                    · rw [if_neg y] at k
                      exact md_needs (c := 1) mm (by omega) (by simp) (fun u => absurd u (by decide)) (fun _ => k _ mm hk)
                    · rw [h11, h12, pk_sub (by omega), show (2 : Int32) = nI 2 from rfl]
                      exact br_in (fun y => hJ.1 ((nI_ltI (by omega) (by omega)).mp y)) (fun y => hJ.2 (fun u => y ((nI_ltI (by omega) (by omega)).mpr u)))
                  · rw [show (48 : Int32) = nI 48 from rfl, show (57 : Int32) = nI 57 from rfl, in_b (by omega) (by omega) (by omega)] at y3
                    rw [ern_lo (p := p') (by omega), if_pos y3] at he2
                    refine jn_in (fun J => ∀ x, x = nI (vdS b p (p' + 1)) → J x mo2 lo) (fun x hx => nm_in (nm_in ?_)) (fun J hJ => ?_)
                    · refine ih2 (p' + 1) _ (by omega) (by omega) he2 (fun j h1 h2 => ?_) (kT_set (kT_set hk (k := 14) (by omega) _) (k := 11) (by omega) _) h15 ?_ h12 h13 ?_
                      · by_cases e : j = p'
                        · subst e; exact y3
                        · exact hd j h1 (by omega)
                      · rw [z_upS, z_upd_same]; show mo2 0 11 + 1 = _; rw [h11, nI_1]
                      · exact hx
                    · rw [h11, h12, pk_sub (by omega), show (2 : Int32) = nI 2 from rfl]
                      refine br_in (fun y => hJ _ ?_) (fun y => md_byteAt (b := b) hL c10 c5 (rfl : nI p' = nI p') (by omega) (fun _ => hJ _ ?_) (fun z => absurd z (by omega)))
                      · rw [nI_leI (by omega) (by omega)] at y
                        rw [h14]; unfold vdS
                        rw [if_neg (by omega), if_neg (by omega), if_neg (by omega), if_neg (by omega)]
                      · rw [nI_leI (by omega) (by omega)] at y
                        rw [h14, show (10 : Int32) = nI 10 from rfl, z_mul, z_add, show (48 : Int32) = nI 48 from rfl, pk_sub (by omega)]
                        congr 1
                        unfold vdS
                        rcases (show p' = p ∨ p' = p + 1 by omega) with e | e
                        · subst e; rw [if_pos (by omega), if_neg (by omega), if_pos rfl]; omega
                        · subst e
                          have := hd p (by omega) (by omega)
                          rw [if_neg (by omega), if_pos rfl, if_neg (by omega), if_neg (by omega)]; omega
              refine num (L - p) p _ (by omega) (by omega) rfl (fun j h1 h2 => absurd h2 (by omega)) (kT_set (kT_set gk (k := 13) (by omega) _) (k := 14) (by omega) _) g15 g11 g12 rfl ?_
              unfold vdS; rw [if_pos (by omega)]; rfl
          · rw [show (97 : Int32) = nI 97 from rfl, show (122 : Int32) = nI 122 from rfl, in_b (by omega) (by omega) (by omega)] at y1
            rw [if_pos ((ern_in (by omega)).mpr y1)] at k
            intro G2 hG2
            have nam : ∀ d' p' mo2, p' + d' = L → p ≤ p' → ern L b 97 122 p' = ern L b 97 122 p → kT mo mo2 → mo2 0 15 = nI 0 → mo2 0 11 = nI p' → mo2 0 12 = nI p → mo2 0 13 = nI 1 → G2 mo2 lo := by
              intro d'
              induction d' with
              | zero =>
                intro p' mo2 hp' hpp he2 hk h15 h11 h12 h13
                have c10 : mo2 0 10 = nI L := (hk.2 10 (by omega)).trans m10
                have c5 : ∀ j, j < L → mo2 5 j = nI (b j) := fun j hj => by rw [hk.1 5 (by omega)]; exact m5 j hj
                rw [ern_hi (by omega)] at he2
                rw [← he2] at k
                refine hG2 _ _ ?_
                exact md_byteAt (b := b) hL c10 c5 h11 (by omega) (fun z => absurd z (by omega)) (fun _ => b_inz (b := 97) (c := 122) (fun _ => br_pos rfl (k _ ⟨c10, c5, h15, fun z => absurd rfl z, h11, h13, h12, fun _ z => absurd z (by simp)⟩ hk)) (fun z => absurd z (by decide)))
              | succ d' ih2 =>
                intro p' mo2 hp' hpp he2 hk h15 h11 h12 h13
                have c10 : mo2 0 10 = nI L := (hk.2 10 (by omega)).trans m10
                have c5 : ∀ j, j < L → mo2 5 j = nI (b j) := fun j hj => by rw [hk.1 5 (by omega)]; exact m5 j hj
                have bp' := B.2 p' (by omega)
                refine hG2 _ _ ?_
                refine md_byteAt (b := b) hL c10 c5 h11 (by omega) (fun _ => b_inz (b := 97) (c := 122) (fun y3 => br_pos rfl ?_) (fun y3 => br_neg n10 (nm_in ?_))) (fun z => absurd z (by omega))
                · rw [show (97 : Int32) = nI 97 from rfl, show (122 : Int32) = nI 122 from rfl, in_b (by omega) (by omega) (by omega)] at y3
                  rw [ern_lo (p := p') (by omega), if_neg y3] at he2
                  rw [← he2] at k
                  exact k _ ⟨c10, c5, h15, fun z => absurd rfl z, h11, h13, h12, fun _ z => absurd z (by simp)⟩ hk
                · rw [show (97 : Int32) = nI 97 from rfl, show (122 : Int32) = nI 122 from rfl, in_b (by omega) (by omega) (by omega)] at y3
                  rw [ern_lo (p := p') (by omega), if_pos y3] at he2
                  refine ih2 (p' + 1) _ (by omega) (by omega) he2 (kT_set hk (k := 11) (by omega) _) h15 ?_ h12 h13
                  rw [z_upS, z_upd_same, h11, nI_1]
            exact nam (L - p) p _ (by omega) (by omega) rfl (kT_set gk (k := 13) (by omega) _) g15 g11 g12 rfl
    exact main (L - σ.2.2.1) σ.2.2.1 mo (by have := ok.2.2.1; omega) rfl (kT.rf mo) (by rw [m15, q]) m11
  · refine br_neg ?_ (k _ ?_ (kT.rf mo))
    · rw [m15]; exact nI_nle (by omega) (by have := ok.1; omega)
    · rw [nx_f q]; exact M
theorem md_takes {L : Nat} {b : Nat → Nat} {σ : SG} {mo : S2} {lo : SL} {K : S2 → SL → Prop} (B : BB L b) (M : MR L b σ mo) (ok : OK L σ) (k : ∀ mo', MR L b (nx L b σ) mo' → kT mo mo' → K mo' lo) : w_X4_takes mo lo K := md_takesW B M ok.w k
