theorem ea_at {P : Nat} {n : S1} : ∀ i, i ≤ 5 → ∀ p, p < i → eaS P n i (4 * p + 1) = bnd (n (4 * p + 1) + brS P n p) := by
  intro i
  induction i with
  | zero => intro _ p hp; omega
  | succ i ih =>
    intro hi p hp
    rw [eaS]
    by_cases q : p = i
    · subst q; rw [z_upd_same]
    · rw [z_upd_ne _ _ (by omega)]; exact ih (by omega) p (by omega)
theorem ho_lt {P : Nat} {n : S1} (v : Vl P n) (h0 : 0 < P) : hoS (meS P n) < P := by
  obtain ⟨hh, hhP, e22⟩ := v.2.2.1 h0
  have hP := v.1
  rw [hoS, me_keep v 22 (by omega), e22, z_cl (by omega)]; exact hhP
theorem co_keep {P : Nat} {n : S1} (v : Vl P n) {j : Nat} (hj : j ≠ 22 ∧ (20 ≤ j ∨ j % 4 ≠ 3)) : coS P (meS P n) j = meS P n j := by
  have hP := v.1
  unfold coS
  split
  · rfl
  · have := ho_lt v (by omega)
    split
    · exact z_upd_ne _ _ (by omega)
    · exact z_upd_ne _ _ (by omega)
theorem st_keep {P : Nat} {n : S1} (v : Vl P n) {j : Nat} (hj : (20 < j ∧ j ≠ 22) ∨ (j < 20 ∧ j % 4 ≠ 1 ∧ j % 4 ≠ 3)) : stS P n j = n j := by
  rw [stS, z_upd_ne _ _ (by omega), co_keep v (by omega)]
  exact me_keep v j (by omega)
theorem st_Vl {P : Nat} {n : S1} (v : Vl P n) : Vl P (stS P n) := by
  have hP := v.1
  refine ⟨hP, fun h0 => ?_, fun h0 => ?_, ?_, ?_, fun p hp => ?_⟩
  · rw [stS, z_upd_ne _ _ (by omega), coS, if_pos h0, me_keep v 22 (by omega)]; exact v.2.1 h0
  · have hl := ho_lt v h0
    rw [stS, z_upd_ne _ _ (by omega)]
    unfold coS
    rw [if_neg (by omega)]
    split
    · exact ⟨_, po_lt hl (P - 1), z_upd_same _ _ _⟩
    · rw [z_upd_ne _ _ (by omega), me_keep v 22 (by omega)]; exact v.2.2.1 h0
  · obtain ⟨g, hg4, hg, hgi⟩ := v.2.2.2.1
    refine ⟨g, hg4, (st_keep v (by omega)).trans hg, fun i hi => ?_⟩
    rw [st_keep v (by omega), st_keep v (by omega)]
    exact hgi i hi
  · obtain ⟨g, hg4, hg, hgi⟩ := v.2.2.2.2.1
    refine ⟨g, hg4, (st_keep v (by omega)).trans hg, fun i hi => ?_⟩
    rw [st_keep v (by omega)]
    exact hgi i hi
  · rw [stS, z_upd_ne _ _ (by omega), co_keep v (by omega), meS, ea_at P hP p hp]
    exact bnd_rng _
/-- so many quarters later -/
noncomputable def itS (P : Nat) (n : S1) : Nat → S1
  | 0 => n
  | k + 1 => stS P (itS P n k)
theorem it_Vl {P : Nat} {n : S1} (v : Vl P n) : ∀ k, Vl P (itS P n k) := by
  intro k
  induction k with
  | zero => exact v
  | succ k ih => exact st_Vl ih
theorem it_hi {P : Nat} {n : S1} (v : Vl P n) : ∀ k j, 57 ≤ j → itS P n k j = n j := by
  intro k
  induction k with
  | zero => intro j _; rfl
  | succ k ih => intro j hj; rw [itS, st_keep (it_Vl v k) (by omega)]; exact ih j hj
theorem WR_cong {P : Nat} {w : S2} {n m : S1} (hP : P ≤ 5) (hg : ∃ g, g ≤ 4 ∧ n 23 = nI g) (hs : ∃ k, k ≤ 6 ∧ n 44 = nI k) (e : ∀ j, j < 57 → m j = n j) (h : WR P w n) : WR P w m := by
  obtain ⟨h0, h1, h2, h3, h4, h5, h6, h7, h8, h9⟩ := h
  obtain ⟨g, g4, hg⟩ := hg
  obtain ⟨s, s6, hs⟩ := hs
  refine ⟨h0, h1.trans (e _ (by omega)).symm, h2.trans (e _ (by omega)).symm, fun q => (h3 q).trans (e _ (by omega)).symm, h4, h5.trans (e _ (by omega)).symm, h6.trans (e _ (by omega)).symm, fun p hp => ?_, fun j hj => ?_, fun i hi => ?_⟩
  · obtain ⟨a, b, c, d⟩ := h7 p hp
    exact ⟨a.trans (e _ (by omega)).symm, b.trans (e _ (by omega)).symm, c.trans (e _ (by omega)).symm, d.trans (e _ (by omega)).symm⟩
  · rw [e 23 (by omega)] at hj
    have hj2 := hj
    rw [hg, z_cl (by omega)] at hj2
    rw [e _ (by omega)]; exact h8 j hj
  · rw [e 44 (by omega)] at hi
    have hi2 := hi
    rw [hs, z_cl (by omega)] at hi2
    rw [e _ (by omega), e _ (by omega)]; exact h9 i hi
theorem Vl_cong {P : Nat} {n m : S1} (e : ∀ j, j < 57 → m j = n j) (h : Vl P n) : Vl P m := by
  obtain ⟨hP, h1, h2, ⟨g, g4, hg, hgi⟩, ⟨s, s6, hs, hsi⟩, h5⟩ := h
  refine ⟨hP, fun q => (e _ (by omega)).trans (h1 q), fun q => ?_, ⟨g, g4, (e _ (by omega)).trans hg, fun i hi => ?_⟩, ⟨s, s6, (e _ (by omega)).trans hs, fun i hi => ?_⟩, fun p hp => ?_⟩
  · rw [e _ (by omega)]; exact h2 q
  · rw [e _ (by omega), e _ (by omega)]; exact hgi i hi
  · rw [e _ (by omega)]; exact hsi i hi
  · rw [e _ (by omega)]; exact h5 p hp
theorem cpy_lo {f g : S1} {N k : Nat} (h : k < N) : va_cpy f g (0 : Int32).toNatClampNeg (0 : Int32).toNatClampNeg N k = f k := by
  unfold va_cpy; rw [tn_0, if_pos ⟨by omega, by omega⟩]; congr 1; omega
theorem b_become {P : Nat} {w v : S2} {n : S1} {K : S2 → S2 → Prop} (h : WR P v n) (vl : Vl P n) (k : ∀ w', WR P w' n → K w' v) : w_X2_become w v K := by
  have hP := vl.1
  obtain ⟨g, hg4, hg, hgi⟩ := vl.2.2.2.1
  obtain ⟨s, s6, hs, hsi⟩ := vl.2.2.2.2.1
  obtain ⟨h0, h1, h2, h3, h4, h5, h6, h7, h8, h9⟩ := h
  have c0 : ¬ v 0 0 < 0 ∧ (v 0 0).toNatClampNeg ≤ 5 := by rw [h0, z_cl (by omega)]; exact ⟨nI_pos (by omega), hP⟩
  have c4 : ¬ v 0 4 * 4 < 0 ∧ (v 0 4 * 4).toNatClampNeg ≤ 16 := by
    rw [h5, hg, show (4 : Int32) = nI 4 from rfl, z_mul, z_cl (by omega)]; exact ⟨nI_pos (by omega), by omega⟩
  have c5 : ¬ v 0 5 < 0 ∧ (v 0 5).toNatClampNeg ≤ 6 := by rw [h6, hs, z_cl (by omega)]; exact ⟨nI_pos (by omega), s6⟩
  have e0 : (v 0 0).toNatClampNeg = P := by rw [h0, z_cl (by omega)]
  have e4 : (v 0 4 * 4).toNatClampNeg = 4 * (n 23).toNatClampNeg := by
    rw [h5, hg, show (4 : Int32) = nI 4 from rfl, z_mul, z_cl (by omega), z_cl (by omega)]; omega
  have e5 : (v 0 5).toNatClampNeg = (n 44).toNatClampNeg := by rw [h6]
  unfold w_X2_become
  simp only [nm]
  refine ⟨c0, c0, c0, c0, c4, c5, c5, k _ ⟨h0, h1, h2, h3, h4, h5, h6, fun p hp => ?_, fun j hj => ?_, fun i hi => ?_⟩⟩
  · obtain ⟨a, b, c, d⟩ := h7 p hp
    have q : p < (v 0 0).toNatClampNeg := by rw [e0]; exact hp
    exact ⟨(cpy_lo q).trans a, (cpy_lo q).trans b, (cpy_lo q).trans c, (cpy_lo q).trans d⟩
  · have q : j < (v 0 4 * 4).toNatClampNeg := by rw [e4]; exact hj
    exact (cpy_lo q).trans (h8 j hj)
  · have q : i < (v 0 5).toNatClampNeg := by rw [e5]; exact hi
    obtain ⟨a, b⟩ := h9 i hi
    exact ⟨(cpy_lo q).trans a, (cpy_lo q).trans b⟩
-- sums, ruins
def smS (n : S1) (x : Nat) : Nat → Int32
  | 0 => 0
  | p + 1 => smS n x p + n (4 * p + x)
def rbS (n : S1) : Nat → Int32
  | 0 => 0
  | p + 1 => if n (4 * p + 1) = 0 then rbS n p ||| ((1 : Int32) <<< (nI p &&& 31)) else rbS n p
theorem b_meansOfAll {P : Nat} {w : S2} {n : S1} {K : Int32 → S2 → Prop} (h : WR P w n) (hP : P ≤ 5) (k : K (smS n 1 P) w) : w_X2_meansOfAll w K := by
  have hw := h.2.2.2.2.2.2.2.1
  unfold w_X2_meansOfAll
  simp only [nm]
  refine lfp2_inv P (fun j a b => a = smS n 1 j ∧ b = nI j) ?_ ?_ (k := 0) (by omega) ⟨rfl, rfl⟩
  · rintro a b ⟨rfl, rfl⟩ G
    exact br_pos (by rw [h.1]; exact nI_le (Nat.le_refl _) (by omega)) k
  · rintro j a b hj ⟨rfl, rfl⟩ G hG
    refine br_neg (by rw [h.1]; exact nI_ge hj (by omega)) ⟨z_in (by omega) (by omega), hG _ _ ⟨?_, nI_1 j⟩⟩
    rw [z_cl (by omega), (hw j hj).2.1, smS]
theorem b_keptByAll {P : Nat} {w : S2} {n : S1} {K : Int32 → S2 → Prop} (h : WR P w n) (hP : P ≤ 5) (k : K (smS n 3 P) w) : w_X2_keptByAll w K := by
  have hw := h.2.2.2.2.2.2.2.1
  unfold w_X2_keptByAll
  simp only [nm]
  refine lfp2_inv P (fun j a b => a = smS n 3 j ∧ b = nI j) ?_ ?_ (k := 0) (by omega) ⟨rfl, rfl⟩
  · rintro a b ⟨rfl, rfl⟩ G
    exact br_pos (by rw [h.1]; exact nI_le (Nat.le_refl _) (by omega)) k
  · rintro j a b hj ⟨rfl, rfl⟩ G hG
    refine br_neg (by rw [h.1]; exact nI_ge hj (by omega)) ⟨z_in (by omega) (by omega), hG _ _ ⟨?_, nI_1 j⟩⟩
    rw [z_cl (by omega), (hw j hj).2.2.2, smS]
theorem b_ruinedBits {P : Nat} {w : S2} {n : S1} {K : Int32 → S2 → Prop} (h : WR P w n) (hP : P ≤ 5) (k : K (rbS n P) w) : w_X2_ruinedBits w K := by
  unfold w_X2_ruinedBits
  simp only [nm, jn]
  refine lfp3_inv P (fun j a b c => a = rbS n j ∧ b = nI j ∧ c = w) ?_ ?_ (k := 0) (by omega) ⟨rfl, rfl, rfl⟩
  · rintro a b c ⟨rfl, rfl, rfl⟩ G
    exact br_pos (by rw [h.1]; exact nI_le (Nat.le_refl _) (by omega)) k
  · rintro j a b c hj ⟨rfl, rfl, rfl⟩ G hG
    refine br_neg (by rw [h.1]; exact nI_ge hj (by omega)) (b_isRuined h hP hj ?_)
    refine br_in (fun q => hG _ _ _ ⟨?_, nI_1 j, rfl⟩) (fun q => hG _ _ _ ⟨?_, nI_1 j, rfl⟩)
    · rw [rbS, if_neg (zb_0.mp q)]
    · rw [rbS, if_pos (zb_n0.mp q)]
theorem b_mallOf {P x : Nat} {mo : S2} {lo : SL} {K : Int32 → S2 → SL → Prop} (hP : P ≤ 5) (e3 : mo 0 3 = nI P) (hx : x < 4) (k : K (smS (mo 2) x P) mo lo) : w_X4_allOf (nI x) mo lo K := by
  unfold w_X4_allOf
  simp only [nm]
  refine lfp4_inv P (fun j a b c d => a = smS (mo 2) x j ∧ b = nI j ∧ c = mo ∧ d = lo) ?_ ?_ (k := 0) (by omega) ⟨rfl, rfl, rfl, rfl⟩
  · rintro a b c d ⟨rfl, rfl, rfl, rfl⟩ G
    exact br_pos (by rw [e3]; exact nI_le (Nat.le_refl _) (by omega)) k
  · rintro j a b c d hj ⟨rfl, rfl, rfl, rfl⟩ G hG
    refine br_neg (by rw [e3]; exact nI_ge hj (by omega)) (b_of (by omega) (hG _ _ _ _ ⟨?_, nI_1 j, rfl, rfl⟩))
    rw [smS]
theorem sh0 : ∀ p, p < 5 → (0 : Int32) <<< (nI p &&& 31) = 0 := by decide
theorem b_mruined {P : Nat} {mo : S2} {lo : SL} {K : Int32 → S2 → SL → Prop} (hP : P ≤ 5) (e3 : mo 0 3 = nI P) (k : K (rbS (mo 2) P) mo lo) : w_X4_ruined mo lo K := by
  unfold w_X4_ruined
  simp only [nm, jn]
  refine lfp4_inv P (fun j a b c d => a = rbS (mo 2) j ∧ b = nI j ∧ c = mo ∧ d = lo) ?_ ?_ (k := 0) (by omega) ⟨rfl, rfl, rfl, rfl⟩
  · rintro a b c d ⟨rfl, rfl, rfl, rfl⟩ G
    exact br_pos (by rw [e3]; exact nI_le (Nat.le_refl _) (by omega)) k
  · rintro j a b c d hj ⟨rfl, rfl, rfl, rfl⟩ G hG
    refine br_neg (by rw [e3]; exact nI_ge hj (by omega)) (b_of (x := 1) (by omega) ?_)
    refine br_in (fun q => b_flag (fun z => absurd z (by decide)) (fun _ => hG _ _ _ _ ⟨?_, nI_1 j, rfl, rfl⟩)) (fun q => b_flag (fun _ => hG _ _ _ _ ⟨?_, nI_1 j, rfl, rfl⟩) (fun z => absurd rfl z))
    · rw [rbS, if_pos q]
    · rw [rbS, if_neg q, sh0 j (by omega), Int32.or_zero]
theorem b_pass {P : Nat} {w : S2} {n : S1} {m : Nat} {K : S2 → Prop} (h : WR P w n) (v : Vl P n) (hm : m < 2147483648) (k : ∀ w', WR P w' (itS P n m) → K w') : w_X2_pass (nI m) w K := by
  unfold w_X2_pass
  simp only [nm]
  refine lfp2_inv m (fun j a b => a = nI j ∧ WR P b (itS P n j)) ?_ ?_ (k := 0) (by omega) ⟨rfl, h⟩
  · rintro a b ⟨rfl, hb⟩ G
    exact br_pos (nI_le (Nat.le_refl _) (by omega)) (k _ hb)
  · rintro j a b hj ⟨rfl, hb⟩ G hG
    exact br_neg (nI_ge hj (by omega)) (b_step hb (it_Vl v j) (fun w' h' => hG _ _ ⟨nI_1 j, h'⟩))
noncomputable def hnS (P : Nat) (n : S1) : Nat → Int32
  | 0 => 0
  | k + 1 => hnS P n k + hdS P (itS P n k)
/-- the reference's numbers, all that counts alike -/
def eqM (mo mo' : S2) : Prop := (∀ k, k = 3 ∨ k = 10 ∨ k = 15 ∨ k = 27 → mo' 0 k = mo 0 k) ∧ (∀ c, c = 1 ∨ c = 3 ∨ c = 5 ∨ c = 9 ∨ c = 10 ∨ c = 11 → mo' c = mo c) ∧ (∀ j, 57 ≤ j → mo' 2 j = mo 2 j)
theorem eqM.rf (mo : S2) : eqM mo mo := ⟨fun _ _ => rfl, fun _ _ => rfl, fun _ _ => rfl⟩
theorem eqM.tr {a b c : S2} (h1 : eqM a b) (h2 : eqM b c) : eqM a c := ⟨fun k hk => (h2.1 k hk).trans (h1.1 k hk), fun k hk => (h2.2.1 k hk).trans (h1.2.1 k hk), fun k hk => (h2.2.2 k hk).trans (h1.2.2 k hk)⟩
theorem QR.eqM {P : Nat} {mo mo' : S2} (v : Vl P (mo 2)) (h : QR P mo mo') : eqM mo mo' := by
  obtain ⟨h2, h18, hk, hc⟩ := h
  exact ⟨fun k q => hk k (by omega), fun c q => hc c (by omega) (by omega) (by omega), fun j hj => by rw [h2, st_keep v (by omega)]⟩
def nnS (mo : S2) : S1 := fil (mo 1) (mo 2) 57
theorem eqM.nn {mo mo' : S2} (h : eqM mo mo') : nnS mo' = nnS mo := by
  funext j
  unfold nnS
  by_cases q : j < 57
  · rw [fil_lo _ _ q, fil_lo _ _ q, h.2.1 1 (by omega)]
  · rw [fil_hi _ _ (by omega), fil_hi _ _ (by omega), h.2.2 j (by omega)]
theorem eqM_up2 (mo : S2) (f : S1) (hf : ∀ j, 57 ≤ j → f j = mo 2 j) : eqM mo (va_up mo 2 f) := ⟨fun k _ => rfl, fun c q => z_upN _ _ (by omega), fun j hj => by rw [z_upS]; exact hf j hj⟩
theorem eqM_starts (mo : S2) : eqM mo (va_up mo 2 (nnS mo)) := eqM_up2 mo _ (fun j hj => fil_hi _ _ hj)
theorem nn_up (mo : S2) : (va_up mo 2 (nnS mo)) 2 = nnS mo := z_upS _ _ _
theorem b_quartersGo {P m : Nat} {mo : S2} {lo : SL} {K : S2 → SL → Prop} (e3 : mo 0 3 = nI P) (v : Vl P (mo 2)) (hm : m < 2147483648) (k : ∀ mo', eqM mo mo' → mo' 2 = itS P (mo 2) m → K mo' lo) : w_X4_quartersGo (nI m) mo lo K := by
  unfold w_X4_quartersGo
  simp only [nm]
  refine lfp3_inv m (fun j a b c => a = nI j ∧ (eqM mo b ∧ b 2 = itS P (mo 2) j) ∧ c = lo) ?_ ?_ (k := 0) (by omega) ⟨rfl, ⟨⟨fun k q => ?_, fun c q => z_upN _ _ (by omega), fun j _ => rfl⟩, rfl⟩, rfl⟩
  · rintro a b c ⟨rfl, ⟨h1, h2⟩, rfl⟩ G
    exact br_pos (nI_le (Nat.le_refl _) (by omega)) (k _ h1 h2)
  · rintro j a b c hj ⟨rfl, ⟨h1, h2⟩, rfl⟩ G hG
    have v2 : Vl P (b 2) := by rw [h2]; exact it_Vl v j
    refine br_neg (nI_ge hj (by omega)) (b_quarterGoes (P := P) ((h1.1 3 (by omega)).trans e3) v2 (fun mo' q => hG _ _ _ ⟨nI_1 j, ⟨h1.tr (QR.eqM v2 q), ?_⟩, rfl⟩))
    rw [q.1, h2, itS]
  · rw [z_upS, z_upd_ne _ _ (by omega)]
