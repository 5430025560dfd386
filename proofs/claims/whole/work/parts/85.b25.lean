theorem ern_all (L : Nat) (b : Nat → Nat) (lo hi : Nat) : ∀ d p, L - p = d → ∀ j, p ≤ j → j < ern L b lo hi p → lo ≤ b j ∧ b j ≤ hi := by
  intro d
  induction d with
  | zero => intro p h j h1 h2; rw [ern_hi (by omega)] at h2; omega
  | succ d ih =>
    intro p h j h1 h2
    rw [ern_lo (by omega)] at h2
    split at h2
    · rename_i q
      by_cases e : j = p
      · subst e; exact q
      · exact ih (p + 1) (by omega) j (by omega) h2
    · omega
def DG (b : Nat → Nat) (σ : SG) : Prop := σ.1 = 0 → σ.2.2.2.2 = 2 → ∀ j, σ.2.2.2.1 ≤ j → j < σ.2.2.1 → 48 ≤ b j ∧ b j ≤ 57
theorem nx_DG {L : Nat} {b : Nat → Nat} {σ : SG} : DG b (nx L b σ) := by
  intro h h2
  have h0 := (nx_mono h).1
  unfold nx at h h2 ⊢
  rw [if_pos h0] at h h2 ⊢
  generalize ern L b 32 32 σ.2.2.1 = s at *
  split
  · rename_i g1
    rw [if_pos g1] at h2
    exact absurd h2 (by simp)
  · rename_i g1
    split
    · rename_i g2
      rw [if_neg g1, if_pos g2] at h2
      exact absurd h2 (by simp)
    · rename_i g2
      split
      · rename_i g3
        split
        · rename_i g4
          rw [if_neg g1, if_neg g2, if_pos g3, if_pos g4] at h
          exact absurd h (by simp [rf])
        · exact ern_all L b 48 57 _ s rfl
      · rename_i g3
        split
        · rename_i g4
          rw [if_neg g1, if_neg g2, if_neg g3, if_pos g4] at h2
          exact absurd h2 (by simp)
        · rename_i g4
          rw [if_neg g1, if_neg g2, if_neg g3, if_neg g4] at h
          exact absurd h (by simp [rf])
def vl (b : Nat → Nat) (σ : SG) : Nat := vdS b σ.2.2.2.1 σ.2.2.1
def nb (b : Nat → Nat) (lo hi : Nat) (σ : SG) : SG := if σ.1 = 0 then (if σ.2.2.2.2 = 2 then (if lo ≤ vl b σ ∧ vl b σ ≤ hi then σ else rf 3 σ) else rf 2 σ) else σ
def num (L : Nat) (b : Nat → Nat) (lo hi : Nat) (σ : SG) : SG := nb b lo hi (nx L b σ)
def st (L : Nat) (b : Nat → Nat) (σ : SG) : SG := if (nx L b σ).2.2.2.2 = 3 then nx L b σ else rf 2 (nx L b σ)
theorem nb_OK {L : Nat} {b : Nat → Nat} {lo hi : Nat} {σ : SG} (h : OK L σ) : OK L (nb b lo hi σ) := by
  unfold nb
  split
  · split
    · split
      · exact h
      · exact rf_OK (by omega) (by omega) h
    · exact rf_OK (by omega) (by omega) h
  · exact h
theorem num_OK {L : Nat} {b : Nat → Nat} {lo hi : Nat} {σ : SG} (h : OK L σ) : OK L (num L b lo hi σ) := nb_OK (nx_OK h)
theorem st_OK {L : Nat} {b : Nat → Nat} {σ : SG} (h : OK L σ) : OK L (st L b σ) := by
  unfold st
  split
  · exact nx_OK h
  · exact rf_OK (by omega) (by omega) (nx_OK h)
theorem nb_0 {b : Nat → Nat} {lo hi : Nat} {σ : SG} (h : (nb b lo hi σ).1 = 0) : nb b lo hi σ = σ ∧ σ.1 = 0 ∧ σ.2.2.2.2 = 2 ∧ lo ≤ vl b σ ∧ vl b σ ≤ hi := by
  unfold nb at h ⊢
  by_cases q : σ.1 = 0
  · rw [if_pos q] at h ⊢
    by_cases q2 : σ.2.2.2.2 = 2
    · rw [if_pos q2] at h ⊢
      by_cases q3 : lo ≤ vl b σ ∧ vl b σ ≤ hi
      · rw [if_pos q3]; exact ⟨rfl, q, q2, q3⟩
      · rw [if_neg q3] at h; exact absurd h (rf_f (by omega))
    · rw [if_neg q2] at h; exact absurd h (rf_f (by omega))
  · rw [if_neg q] at h; exact absurd h q
theorem nb_f {b : Nat → Nat} {lo hi : Nat} {σ : SG} (h : σ.1 ≠ 0) : nb b lo hi σ = σ := by unfold nb; rw [if_neg h]
theorem num_f {L : Nat} {b : Nat → Nat} {lo hi : Nat} {σ : SG} (h : σ.1 ≠ 0) : num L b lo hi σ = σ := by unfold num; rw [nx_f h, nb_f h]
theorem num_0 {L : Nat} {b : Nat → Nat} {lo hi : Nat} {σ : SG} (h : (num L b lo hi σ).1 = 0) : σ.1 = 0 ∧ num L b lo hi σ = nx L b σ ∧ lo ≤ vl b (num L b lo hi σ) ∧ vl b (num L b lo hi σ) ≤ hi ∧ σ.2.2.1 ≤ (num L b lo hi σ).2.2.1 := by
  unfold num at h ⊢
  obtain ⟨e, h0, h2, h3, h4⟩ := nb_0 h
  rw [e]
  have m := nx_mono h0
  refine ⟨m.1, rfl, h3, h4, ?_⟩
  have : (nx L b σ).2.2.2.1 ≤ (nx L b σ).2.2.1 := by
    have hh := m.2.1
    by_cases z : (nx L b σ).2.2.2.1 ≤ (nx L b σ).2.2.1
    · exact z
    · exfalso
      unfold nx at z
      rw [if_pos m.1] at z
      generalize ern L b 32 32 σ.2.2.1 = s at *
      revert z
      have g2 := ern_ge L b 97 122 _ s rfl
      have g3 := ern_ge L b 48 57 _ s rfl
      split
      · simp
      · split
        · simpa using g2
        · split
          · split
            · simpa [rf] using g3
            · simpa using g3
          · split <;> simp [rf]
  have hh := m.2.1
  omega
theorem st_f {L : Nat} {b : Nat → Nat} {σ : SG} (h : σ.1 ≠ 0) : st L b σ = σ := by
  unfold st; rw [nx_f h, rf_F h]; split <;> rfl
theorem st_0 {L : Nat} {b : Nat → Nat} {σ : SG} (h : (st L b σ).1 = 0) : σ.1 = 0 ∧ st L b σ = nx L b σ ∧ (nx L b σ).2.2.2.2 = 3 := by
  unfold st at h ⊢
  by_cases q : (nx L b σ).2.2.2.2 = 3
  · rw [if_pos q] at h ⊢
    exact ⟨(nx_mono h).1, rfl, q⟩
  · rw [if_neg q] at h; exact absurd h (rf_f (by omega))
theorem cl_numberRead {L s a : Nat} {b : Nat → Nat} {t : S2} {K : Int32 → S2 → Prop} (B : BB L b) (tb : ∀ j, j < L → t 1 j = nI (b j)) (t6 : t 0 6 = nI s) (t4 : t 0 4 = nI a) (hs : s ≤ a) (ha : a ≤ L) (k : ∀ x, ((∀ j, s ≤ j → j < a → 48 ≤ b j ∧ b j ≤ 57) → a ≤ s + 2 → x = nI (vdS b s a)) → K x t) : w_X1_numberRead t K := by
  have hL := B.1
  unfold w_X1_numberRead
  refine nm_in ?_
  rw [t6]
  refine lfp2_inv (a - s) (fun i x y => y = nI (s + i) ∧ ((∀ j, s ≤ j → j < a → 48 ≤ b j ∧ b j ≤ 57) → a ≤ s + 2 → x = nI (vdS b s (s + i)))) ?_ ?_ (k := 0) (by omega) ⟨rfl, fun _ _ => by unfold vdS; rw [if_pos (by omega)]; rfl⟩
  · rintro x y ⟨rfl, hx⟩ G
    refine br_pos (by rw [t4]; exact nI_le (by omega) (by omega)) (k x ?_)
    rw [show s + (a - s) = a by omega] at hx
    exact hx
  · rintro i x y hi ⟨rfl, hx⟩ G hG
    have bj := B.2 (s + i) (by omega)
    refine br_neg (by rw [t4]; exact nI_ge (by omega) (by omega)) ⟨z_in (by omega) (by omega), nm_in (nm_in (hG _ _ ⟨by rw [nI_1]; rfl, fun hd h2 => ?_⟩))⟩
    rw [hx hd h2, z_cl (by omega), tb _ (by omega), show (10 : Int32) = nI 10 from rfl, z_mul, z_add, show (48 : Int32) = nI 48 from rfl]
    have d0 := hd (s + i) (by omega) (by omega)
    rw [pk_sub (by omega)]
    congr 1
    unfold vdS
    rcases (show i = 0 ∨ i = 1 by omega) with e | e
    · subst e; rw [if_pos (by omega), if_neg (by omega), if_pos (by omega), show s + 0 = s from rfl]; omega
    · subst e
      have := hd s (by omega) (by omega)
      rw [if_neg (by omega), if_pos rfl, if_neg (by omega), if_neg (by omega)]; omega
theorem vd_small {b : Nat → Nat} {σ : SG} (h0 : σ.1 = 0) (h2 : σ.2.2.2.2 = 2) (d : DG b σ) {L : Nat} (ok : OK L σ) : vl b σ ≤ 99 := by
  have hs := ok.2.2.2.2.1 h0 (by omega)
  have ha := ok.2.2.2.2.2 h0 h2
  have d1 := d h0 h2 σ.2.2.2.1 (by omega) hs
  unfold vl vdS
  rw [if_neg (by omega)]
  split
  · omega
  · have := d h0 h2 (σ.2.2.2.1 + 1) (by omega) (by omega)
    omega
theorem cl_takeNumber {L lo hi : Nat} {b : Nat → Nat} {σ : SG} {t : S2} {K : Int32 → S2 → Prop} (B : BB L b) (T : TR L b σ t) (ok : OK L σ) (hlo : lo < 1000) (hhi : hi < 1000) (k : ∀ t' x, TR L b (num L b lo hi σ) t' → t' 0 7 = t 0 7 → t' 0 8 = t 0 8 → ((num L b lo hi σ).1 = 0 → x = nI (vl b (num L b lo hi σ))) → K x t') : w_X1_takeNumber (nI lo) (nI hi) t K := by
  unfold w_X1_takeNumber
  refine cl_next B T ok (fun t1 T1 g7 g8 => ?_)
  have ok1 := nx_OK (b := b) ok
  have dg : DG b (nx L b σ) := nx_DG
  unfold num at k
  generalize nx L b σ = τ at *
  have hL := B.1
  refine br_in (fun q => ?_) (fun q => ?_)
  · rw [T1.2.2.2.2.2.1] at q
    have q2 : τ.2.2.2.2 = 2 := (nI_eq (b := 2) (by have := ok1.2.2.2.1; omega) (by omega)).mp q
    refine cl_numberRead B T1.2.1 T1.2.2.2.2.2.2 T1.2.2.2.2.1 ok1.2.1 ok1.2.2.1 (fun x hx => ?_)
    by_cases f0 : τ.1 = 0
    · have ex : x = nI (vl b τ) := hx (dg f0 q2) (ok1.2.2.2.2.2 f0 q2)
      have v99 := vd_small f0 q2 dg ok1
      subst ex
      refine b_wz (fun h => br_pos rfl (cl_refuse (c := 3) T1 ok1.1 (fun t' T' e7 e8 => k t' _ ?_ (e7.trans g7) (e8.trans g8) ?_))) (fun h => br_neg n10 (k t1 _ ?_ g7 g8 ?_))
      · rw [in_b (by omega) (by omega) (by omega)] at h
        unfold nb; rw [if_pos f0, if_pos q2, if_neg h]; exact T'
      · rw [in_b (by omega) (by omega) (by omega)] at h
        intro z
        exact absurd (nb_0 z).2.2.2 h
      · rw [in_b (by omega) (by omega) (by omega)] at h
        unfold nb; rw [if_pos f0, if_pos q2, if_pos h]; exact T1
      · intro z
        rw [(nb_0 z).1]
    · rw [nb_f f0] at k
      refine b_wz (fun h => br_pos rfl (cl_refuse (c := 3) T1 ok1.1 (fun t' T' e7 e8 => k t' _ ?_ (e7.trans g7) (e8.trans g8) (fun z => absurd z f0)))) (fun h => br_neg n10 (k t1 _ T1 g7 g8 (fun z => absurd z f0)))
      rw [rf_F f0] at T'; exact T'
  · rw [T1.2.2.2.2.2.1] at q
    have q2 : τ.2.2.2.2 ≠ 2 := fun z => q (by rw [z]; rfl)
    refine cl_refuse (c := 2) T1 ok1.1 (fun t' T' e7 e8 => k t' _ ?_ (e7.trans g7) (e8.trans g8) (fun z => absurd (nb_0 z).2.2.1 q2))
    by_cases f0 : τ.1 = 0
    · unfold nb; rw [if_pos f0, if_neg q2]; exact T'
    · rw [nb_f f0]; rw [rf_F f0] at T'; exact T'
theorem cl_takeStop {L : Nat} {b : Nat → Nat} {σ : SG} {t : S2} {K : S2 → Prop} (B : BB L b) (T : TR L b σ t) (ok : OK L σ) (k : ∀ t', TR L b (st L b σ) t' → t' 0 7 = t 0 7 → t' 0 8 = t 0 8 → K t') : w_X1_takeStop t K := by
  unfold w_X1_takeStop
  refine cl_next B T ok (fun t1 T1 g7 g8 => ?_)
  have ok1 := nx_OK (b := b) ok
  unfold st at k
  rw [T1.2.2.2.2.2.1]
  refine br_in (fun q => k t1 ?_ g7 g8) (fun q => cl_refuse (c := 2) T1 ok1.1 (fun t' T' e7 e8 => k t' ?_ (e7.trans g7) (e8.trans g8)))
  · rw [if_pos ((nI_eq (b := 3) (by have := ok1.2.2.2.1; omega) (by omega)).mp q)]; exact T1
  · rw [if_neg (fun z => q (by rw [z]; rfl))]; exact T'
theorem md_looked {L lo hi : Nat} {b : Nat → Nat} {σ : SG} {mo : S2} {lx : SL} {K : Int32 → S2 → SL → Prop} (M : MR L b σ mo) (ok : OK L σ) (dg : DG b σ) (hlo : lo < 1000) (hhi : hi < 1000) (k : ∀ mo' y, MR L b (nb b lo hi σ) mo' → kT mo mo' → ((nb b lo hi σ).1 = 0 → y = nI (vl b (nb b lo hi σ))) → K y mo' lx) : w_X4_looked (nI lo) (nI hi) mo lx K := by
  unfold w_X4_looked
  by_cases f0 : σ.1 = 0
  · have m15 : mo 0 15 = 0 := by rw [M.2.2.1, f0]; rfl
    by_cases q2 : σ.2.2.2.2 = 2
    · have v99 := vd_small f0 q2 dg ok
      have m14 := M.2.2.2.2.2.2.2 f0 q2
      refine jn_in (fun J => J mo lx) ?_ (fun J hJ => br_pos m15 (jn_in (fun J2 => J2 1) (md_needs (c := 2) M (by omega) ok.1 (fun z => absurd z n10) (fun _ => hJ)) (fun J2 hJ2 => br_pos (by rw [M.2.2.2.2.2.1, q2]; rfl) hJ2)))
      refine jn_in (fun J => ∀ mo', MR L b (nb b lo hi σ) mo' → kT mo mo' → J mo' lx) (fun mo' M' k' => ?_) (fun J hJ => br_pos m15 ?_)
      · by_cases z : (nb b lo hi σ).1 = 0
        · refine br_pos (by rw [M'.2.2.1, z]; rfl) (k mo' _ M' k' (fun _ => ?_))
          have e := nb_0 z
          have := M'.2.2.2.2.2.2.2 z (by rw [e.1]; exact q2)
          exact this
        · refine br_neg ?_ (k mo' _ M' k' (fun y => absurd y z))
          rw [M'.2.2.1]; exact nI_ne0 (by omega) (by have := (nb_OK (b := b) (lo := lo) (hi := hi) ok).1; omega)
      · rw [m14]
        refine b_inz (fun h => md_needs (c := 3) M (by omega) ok.1 (fun _ mo' M' k' => hJ mo' ?_ k') (fun z => absurd rfl z)) (fun h => md_needs (c := 3) M (by omega) ok.1 (fun z => absurd z n10) (fun _ => hJ mo ?_ (kT.rf mo)))
        · have h' : ¬ (lo ≤ vl b σ ∧ vl b σ ≤ hi) := fun y => h ((in_b (x := vl b σ) (by omega) (by omega) (by omega)).mpr y)
          unfold nb; rw [if_pos f0, if_pos q2, if_neg h']; exact M'
        · have h' : lo ≤ vl b σ ∧ vl b σ ≤ hi := (in_b (x := vl b σ) (by omega) (by omega) (by omega)).mp h
          unfold nb; rw [if_pos f0, if_pos q2, if_pos h']; exact M
    · have e : nb b lo hi σ = rf 2 σ := by unfold nb; rw [if_pos f0, if_neg q2]
      rw [e] at k
      have r0 : (rf 2 σ).1 ≠ 0 := rf_f (by omega)
      have okr : OK L (rf 2 σ) := rf_OK (by omega) (by omega) ok
      refine jn_in (fun J => ∀ mo', MR L b (rf 2 σ) mo' → kT mo mo' → J mo' lx) (fun mo' M' k' => ?_) (fun J hJ => br_pos m15 (jn_in (fun J2 => J2 0) (md_needs (c := 2) M (by omega) ok.1 (fun _ mo' M' k' => hJ mo' M' k') (fun z => absurd rfl z)) (fun J2 hJ2 => br_neg ?_ hJ2)))
      · have n15 : ¬ mo' 0 15 = 0 := by rw [M'.2.2.1]; exact nI_ne0 (by omega) (by have := okr.1; omega)
        exact jn_in (fun J => J mo' lx) (br_neg n15 (k mo' _ M' k' (fun z => absurd z r0))) (fun J hJ => br_neg n15 hJ)
      · rw [M.2.2.2.2.2.1]
        exact fun z => q2 ((nI_eq (b := 2) (by have := ok.2.2.2.1; omega) (by omega)).mp z)
  · have n15 : ¬ mo 0 15 = 0 := by rw [M.2.2.1]; exact nI_ne0 (by omega) (by have := ok.1; omega)
    rw [nb_f f0] at k
    exact jn_in (fun J => J mo lx) (jn_in (fun J => J mo lx) (br_neg n15 (k mo _ M (kT.rf mo) (fun z => absurd z f0))) (fun J hJ => br_neg n15 hJ)) (fun J hJ => br_neg n15 hJ)
theorem md_readNumber {L lo hi : Nat} {b : Nat → Nat} {σ : SG} {mo : S2} {lx : SL} {K : Int32 → S2 → SL → Prop} (B : BB L b) (M : MR L b σ mo) (ok : OK L σ) (dg : DG b σ) (hlo : lo < 1000) (hhi : hi < 1000) (k : ∀ mo' y, MR L b (nx L b (nb b lo hi σ)) mo' → kT mo mo' → ((nb b lo hi σ).1 = 0 → y = nI (vl b (nb b lo hi σ))) → K y mo' lx) : w_X4_readNumber (nI lo) (nI hi) mo lx K := by
  unfold w_X4_readNumber
  exact md_looked M ok dg hlo hhi (fun mo1 y M1 k1 hy => md_takes B M1 (nb_OK ok) (fun mo2 M2 k2 => k mo2 y M2 (k1.tr k2) hy))
