theorem b_tradeBrings {P : Nat} {w : S2} {n : S1} {p : Nat} {K : Int32 → S2 → Prop} (h : WR P w n) (hP : P ≤ 5) (hp : p < P) (k : K (tbS n p) w) : w_X2_tradeBrings (nI p) w K := by
  obtain ⟨a, b, c, d⟩ := h.2.2.2.2.2.2.2.1 p hp
  unfold w_X2_tradeBrings
  simp only [nm]
  rw [z_cl (by omega), c, a, h.2.2.1]
  refine ⟨z_in (by omega) (by omega), z_in (by omega) (by omega), br_in (fun q => ?_) (fun q => br_in (fun q2 => ?_) (fun q2 => ?_))⟩
  · rw [tbS, if_pos q] at k; exact k
  · rw [tbS, if_neg q, if_pos q2] at k; exact k
  · rw [tbS, if_neg q, if_neg q2] at k; exact k
theorem b_poorerThan {P : Nat} {w : S2} {n : S1} {p : Nat} {K : Int32 → S2 → Prop} (h : WR P w n) (hP : P ≤ 5) (hp : p < P) (k : K (pcS n p P) w) : w_X2_poorerThan (nI p) w K := by
  have hw := h.2.2.2.2.2.2.2.1
  unfold w_X2_poorerThan
  simp only [nm, jn]
  refine lfp2_inv P (fun j a b => a = pcS n p j ∧ b = nI j) ?_ ?_ (k := 0) (by omega) ⟨rfl, rfl⟩
  · rintro a b ⟨rfl, rfl⟩ G
    exact br_pos (by rw [h.1]; exact nI_le (Nat.le_refl _) (by omega)) k
  · rintro j a b hj ⟨rfl, rfl⟩ G hG
    refine br_neg (by rw [h.1]; exact nI_ge hj (by omega)) ⟨z_in (by omega) (by omega), z_in (by omega) (by omega), ?_⟩
    rw [z_cl (n := p) (by omega), z_cl (n := j) (by omega), (hw p hp).2.1, (hw j hj).2.1]
    exact br_in (fun q => hG _ _ ⟨by rw [pcS, if_pos q], nI_1 j⟩) (fun q => hG _ _ ⟨by rw [pcS, if_neg q], nI_1 j⟩)
theorem b_coinBrings {P : Nat} {w : S2} {n : S1} {p : Nat} {K : Int32 → S2 → Prop} (h : WR P w n) (hP : P ≤ 5) (hp : p < P) (k : K (cbS P n p) w) : w_X2_coinBrings (nI p) w K := by
  obtain ⟨a, b, c, d⟩ := h.2.2.2.2.2.2.2.1 p hp
  unfold w_X2_coinBrings
  rw [z_cl (by omega), a]
  unfold cbS at k
  refine ⟨z_in (by omega) (by omega), br_in (fun q => ?_) (fun q => br_in (fun q2 => ?_) (fun q2 => br_in (fun q3 => ?_) (fun q3 => ?_)))⟩
  · rw [if_pos q] at k; exact k
  · rw [if_neg q, if_pos q2] at k; exact k
  · rw [if_neg q, if_neg q2, if_pos q3] at k; exact b_poorerThan h hP hp k
  · rw [if_neg q, if_neg q2, if_neg q3] at k; exact k
theorem gs_keep {P : Nat} {n : S1} (hP : P ≤ 5) {g : Nat} (hg4 : g ≤ 4) (hgi : ∀ i, i < g → (∃ p, p < P ∧ n (25 + 4 * i) = nI p) ∧ ∃ r, r < P ∧ n (26 + 4 * i) = nI r) : ∀ i, i ≤ g → ∀ j, (20 ≤ j ∨ j % 4 ≠ 1) → gsS n i j = n j := by
  intro i
  induction i with
  | zero => intro _ j _; rfl
  | succ i ih =>
    intro hi j hj
    have ih := ih (by omega)
    obtain ⟨⟨p, hp, ep⟩, r, hr, er⟩ := hgi i (by omega)
    have eF : gF (gsS n i) i = p := by unfold gF; rw [ih _ (Or.inl (by omega)), ep, z_cl (by omega)]
    have eT : gT (gsS n i) i = r := by unfold gT; rw [ih _ (Or.inl (by omega)), er, z_cl (by omega)]
    rw [gsS, gfS]
    split
    · rw [eT, z_upd_ne _ _ (by omega), gA, eF, z_upd_ne _ _ (by omega)]; exact ih j hj
    · exact ih j hj
theorem b_makeGifts {P : Nat} {w : S2} {n : S1} {K : S2 → Prop} (h : WR P w n) (v : Vl P n) (k : ∀ w', WR P w' (gsS n (n 23).toNatClampNeg) → K w') : w_X2_makeGifts w K := by
  have hP := v.1
  obtain ⟨g, hg4, hg, hgi⟩ := v.2.2.2.1
  have keep := gs_keep hP hg4 hgi
  rw [hg, z_cl (by omega)] at k
  unfold w_X2_makeGifts
  simp only [nm, jn]
  refine lfp2_inv g (fun i a b => a = nI i ∧ WR P b (gsS n i)) ?_ ?_ (k := 0) (by omega) ⟨rfl, h⟩
  · rintro a b ⟨rfl, hb⟩ G
    refine br_pos ?_ (k _ hb)
    rw [hb.2.2.2.2.2.1, keep g (Nat.le_refl _) 23 (by omega), hg]; exact nI_le (Nat.le_refl _) (by omega)
  · rintro i a b hi ⟨rfl, hb⟩ G hG
    have keep := keep i (by omega)
    obtain ⟨⟨p, hp, ep⟩, r, hr, er⟩ := hgi i hi
    have e23 : (gsS n i 23).toNatClampNeg = g := by rw [keep 23 (by omega), hg, z_cl (by omega)]
    have c5 : ∀ x, x < 4 → b 5 (4 * i + x) = gsS n i (24 + (4 * i + x)) := fun x hx => hb.2.2.2.2.2.2.2.2.1 (4 * i + x) (by rw [e23]; omega)
    have e4 : nI i * 4 = nI (4 * i) := by rw [show (4 : Int32) = nI 4 from rfl, z_mul, Nat.mul_comm]
    have e1 : nI (4 * i) + 1 = nI (4 * i + 1) := z_add (4 * i) 1
    have e2 : nI (4 * i) + 2 = nI (4 * i + 2) := z_add (4 * i) 2
    have e3 : nI (4 * i) + 3 = nI (4 * i + 3) := z_add (4 * i) 3
    have b0 : b 5 (4 * i) = gsS n i (24 + 4 * i) := c5 0 (by omega)
    have b1 : b 5 (4 * i + 1) = nI p := by rw [c5 1 (by omega), show 24 + (4 * i + 1) = 25 + 4 * i by omega, keep _ (by omega), ep]
    have b2 : b 5 (4 * i + 2) = nI r := by rw [c5 2 (by omega), show 24 + (4 * i + 2) = 26 + 4 * i by omega, keep _ (by omega), er]
    have b3 : b 5 (4 * i + 3) = gsS n i (27 + 4 * i) := by rw [c5 3 (by omega), show 24 + (4 * i + 3) = 27 + 4 * i by omega]
    have eF : gF (gsS n i) i = p := by unfold gF; rw [keep _ (Or.inl (by omega)), ep, z_cl (by omega)]
    have eT : gT (gsS n i) i = r := by unfold gT; rw [keep _ (Or.inl (by omega)), er, z_cl (by omega)]
    have em : b 2 p = gsS n i (4 * p + 1) := (hb.2.2.2.2.2.2.2.1 p hp).2.1
    have eg : (if b 5 (4 * i + 3) < b 2 p then b 5 (4 * i + 3) else b 2 p) = gM (gsS n i) i := by rw [gM, eF, b3, em]
    have w1 := WR_ms hb hP hp (b 2 p - gM (gsS n i) i)
    have eA : upd (gsS n i) (4 * p + 1) (b 2 p - gM (gsS n i) i) = gA (gsS n i) i := by rw [gA, eF, em]
    rw [eA] at w1
    refine br_neg (by rw [hb.2.2.2.2.2.1, keep 23 (by omega), hg]; exact nI_ge hi (by omega)) ?_
    rw [e4, e1, e2, e3, z_cl (n := 4 * i) (by omega), z_cl (n := 4 * i + 1) (by omega), z_cl (n := 4 * i + 2) (by omega), z_cl (n := 4 * i + 3) (by omega), b1, b2, z_cl (n := p) (by omega), z_cl (n := r) (by omega), eg]
    refine ⟨z_in (by omega) (by omega), br_in (fun q => ?_) (fun q => ?_)⟩
    · refine ⟨z_in (by omega) (by omega), z_in (by omega) (by omega), z_in (by omega) (by omega), z_in (by omega) (by omega), z_in (by omega) (by omega), z_in (by omega) (by omega), z_in (by omega) (by omega), b_bounded ⟨z_in (by omega) (by omega), hG _ _ ⟨nI_1 i, ?_⟩⟩⟩
      have w2 := WR_ms w1 hP hr (bnd (gA (gsS n i) i (4 * r + 1) + gM (gsS n i) i))
      rw [gsS, gfS, if_pos (by rw [← b0, q, hb.2.1]), eT]
      rw [(w1.2.2.2.2.2.2.2.1 r hr).2.1]
      exact w2
    · refine hG _ _ ⟨nI_1 i, ?_⟩
      rw [gsS, gfS, if_neg (fun z => q (by rw [b0, z, hb.2.1]))]
      exact hb
theorem ea_keep {P : Nat} {n : S1} : ∀ i, i ≤ 5 → ∀ j, (20 ≤ j ∨ j % 4 ≠ 1 ∨ 4 * i + 1 ≤ j) → eaS P n i j = n j := by
  intro i
  induction i with
  | zero => intro _ j _; rfl
  | succ i ih =>
    intro hi j hj
    rw [eaS, z_upd_ne _ _ (by omega)]
    exact ih (by omega) j (by omega)
theorem tb_cong {n m : S1} {p : Nat} (h0 : m (4 * p) = n (4 * p)) (h2 : m (4 * p + 2) = n (4 * p + 2)) (h21 : m 21 = n 21) : tbS m p = tbS n p := by
  unfold tbS plS; rw [h0, h2, h21]
theorem b_earn {P : Nat} {w : S2} {n : S1} {x : Int32} {K : S2 → Prop} (h : WR P w n) (hP : P ≤ 5) (hx : ∀ p, p < P → n 22 = nI p → x = cbS P n p) (k : ∀ w', WR P w' (eaS P n P) → K w') : w_X2_earn x w K := by
  unfold w_X2_earn
  simp only [nm, jn]
  refine lfp2_inv P (fun i a b => a = nI i ∧ WR P b (eaS P n i)) ?_ ?_ (k := 0) (by omega) ⟨rfl, h⟩
  · rintro a b ⟨rfl, hb⟩ G
    exact br_pos (by rw [hb.1]; exact nI_le (Nat.le_refl _) (by omega)) (k _ hb)
  · rintro i a b hi ⟨rfl, hb⟩ G hG
    have keep := ea_keep (P := P) (n := n) i (by omega)
    refine br_neg (by rw [hb.1]; exact nI_ge hi (by omega)) (b_tradeBrings hb hP hi ?_)
    have et : tbS (eaS P n i) i = tbS n i := tb_cong (keep _ (by omega)) (keep _ (by omega)) (keep _ (by omega))
    have e3 : b 0 3 = n 22 := (hb.2.2.2.1 (by omega)).trans (keep _ (by omega))
    have e2 : b 2 i = n (4 * i + 1) := ((hb.2.2.2.2.2.2.2.1 i hi).2.1).trans (keep _ (by omega))
    rw [et, z_cl (by omega), e3, e2]
    have fin : ∀ y : Int32, y = (if n 22 = nI i then cbS P n i else 0) → WR P (va_up b 2 (upd (b 2) i (bnd (n (4 * i + 1) + (tbS n i + y))))) (eaS P n (i + 1)) := by
      intro y hy
      have w1 := WR_ms hb hP hi (bnd (n (4 * i + 1) + (tbS n i + y)))
      rw [eaS, brS, ← hy]
      exact w1
    refine br_in (fun q => ?_) (fun q => ?_)
    · refine ⟨z_in (by omega) (by omega), b_bounded ⟨z_in (by omega) (by omega), hG _ _ ⟨nI_1 i, fin x ?_⟩⟩⟩
      rw [if_pos q.symm]; exact hx i hi q.symm
    · refine ⟨z_in (by omega) (by omega), b_bounded ⟨z_in (by omega) (by omega), hG _ _ ⟨nI_1 i, fin 0 ?_⟩⟩⟩
      rw [if_neg (fun z => q z.symm)]
theorem b_isRuined {P : Nat} {w : S2} {n : S1} {p : Nat} {K : Int32 → S2 → Prop} (h : WR P w n) (hP : P ≤ 5) (hp : p < P) (k : K (zb (n (4 * p + 1) = 0)) w) : w_X2_isRuined (nI p) w K := by
  obtain ⟨a, b, c, d⟩ := h.2.2.2.2.2.2.2.1 p hp
  unfold w_X2_isRuined
  rw [z_cl (by omega), b]
  exact ⟨z_in (by omega) (by omega), br_in (fun q => by rw [zb, if_pos q] at k; exact k) (fun q => by rw [zb, if_neg q] at k; exact k)⟩
theorem b_handsOn {P : Nat} {w : S2} {n : S1} {hh : Nat} {K : Int32 → S2 → Prop} (h : WR P w n) (hP : P ≤ 5) (hp : hh < P) (e22 : n 22 = nI hh) (k1 : (if n (4 * hh) = 1 then n (4 * hh + 1) = 0 else ¬ n (4 * hh + 1) < 10) → K 1 w) (k0 : ¬ (if n (4 * hh) = 1 then n (4 * hh + 1) = 0 else ¬ n (4 * hh + 1) < 10) → K 0 w) : w_X2_handsOn w K := by
  obtain ⟨a, b, c, d⟩ := h.2.2.2.2.2.2.2.1 hh hp
  unfold w_X2_handsOn
  rw [h.2.2.2.1 (by omega), e22, z_cl (by omega), a, b]
  refine ⟨z_in (by omega) (by omega), br_in (fun q => b_isRuined h hP hp ⟨zb_01 _, ?_⟩) (fun q => ⟨z_in (by omega) (by omega), br_in (fun q2 => ?_) (fun q2 => ?_)⟩)⟩
  · rw [if_pos q] at k1 k0
    by_cases z : n (4 * hh + 1) = 0
    · rw [zb, if_pos z]; exact k1 z
    · rw [zb, if_neg z]; exact k0 z
  · rw [if_neg q] at k0; exact k0 (fun z => z q2)
  · rw [if_neg q] at k1; exact k1 q2
theorem po_lt {n : S1} {P h : Nat} (hh : h < P) : ∀ k, poS n P h k < P := by
  intro k
  induction k with
  | zero => exact hh
  | succ k ih => rw [poS]; split
                 · exact Nat.mod_lt _ (by omega)
                 · exact ih
theorem mod_ne {P h k : Nat} (hh : h < P) (h1 : 0 < k) (hk : k < P) : (h + k) % P ≠ h := by
  intro e
  rcases Nat.lt_or_ge (h + k) P with q | q
  · rw [Nat.mod_eq_of_lt q] at e; omega
  · rw [Nat.mod_eq_sub_mod q, Nat.mod_eq_of_lt (by omega)] at e; omega
theorem po_ne {n : S1} {P h : Nat} (hh : h < P) : ∀ k, 0 < k → k < P → poS n P h k ≠ h := by
  intro k
  induction k with
  | zero => intro h0; omega
  | succ k ih =>
    intro _ hk
    rw [poS]
    split
    · exact mod_ne hh (by omega) hk
    · rename_i q; exact ih (Nat.pos_of_ne_zero (fun z => q (Or.inl z))) (by omega)
theorem b_poorest {P : Nat} {w : S2} {n : S1} {hh : Nat} {K : Int32 → S2 → Prop} (h : WR P w n) (hP : P ≤ 5) (hp : hh < P) (e22 : n 22 = nI hh) (k : K (nI (poS n P hh (P - 1))) w) : w_X2_poorestBehindHolder w K := by
  have hw := h.2.2.2.2.2.2.2.1
  unfold w_X2_poorestBehindHolder
  simp only [nm, jn]
  rw [h.2.2.2.1 (by omega), e22, h.1]
  refine lfp2_inv (P - 1) (fun j a b => a = nI (poS n P hh j) ∧ b = nI (j + 1)) ?_ ?_ (k := 0) (by omega) ⟨rfl, rfl⟩
  · rintro a b ⟨rfl, rfl⟩ G
    exact br_pos (nI_le (by omega) (by omega)) k
  · rintro j a b hj ⟨rfl, rfl⟩ G hG
    have hq : (hh + (j + 1)) % P < P := Nat.mod_lt _ (by omega)
    have hpl := po_lt (n := n) hp j
    refine br_neg (nI_ge (by omega) (by omega)) ⟨nI_ne0 (by omega) (by omega), ?_⟩
    rw [z_add, pk_rem (by omega) (by omega) (by omega), z_cl (n := (hh + (j + 1)) % P) (by omega), z_cl (n := poS n P hh j) (by omega), (hw _ hq).2.1, (hw _ hpl).2.1]
    have go : ∀ y, poS n P hh (j + 1) = y → G (nI y) (nI (j + 1) + 1) := fun y hy => hG _ _ ⟨by rw [hy], nI_1 (j + 1)⟩
    refine br_in (fun q => ?_) (fun q => ⟨z_in (by omega) (by omega), z_in (by omega) (by omega), br_in (fun q2 => ?_) (fun q2 => ?_)⟩)
    · refine go _ ?_
      have j0 : j = 0 := by
        rcases Nat.eq_zero_or_pos j with z | z
        · exact z
        · exact absurd ((nI_eq (by omega) (by omega)).mp q) (po_ne hp j z (by omega))
      rw [poS, if_pos (Or.inl j0)]
    · refine go _ ?_
      have j0 : j ≠ 0 := fun z => q (by subst z; rfl)
      rw [poS, if_neg]
      rintro (z | z)
      · exact j0 z
      · exact (z_nle.mpr z) q2
    · refine go _ ?_
      rw [poS, if_pos (Or.inr (z_nle.mp q2))]
theorem jn_in {τ : Type} {J : τ} {B : τ → Prop} (R : τ → Prop) (hJ : R J) (hB : ∀ J', R J' → B J') : jn J B := hB J hJ
theorem hd_1 {P : Nat} {n : S1} (h0 : 0 < P) (h : haS P (meS P n) (hoS (meS P n))) : hdS P n = 1 := by unfold hdS; rw [if_pos ⟨h0, h⟩]
theorem hd_0 {P : Nat} {n : S1} (h : ¬ (0 < P ∧ haS P (meS P n) (hoS (meS P n)))) : hdS P n = 0 := by unfold hdS; rw [if_neg h]
theorem hd_01 (P : Nat) (n : S1) : hdS P n = 0 ∨ hdS P n = 1 := by
  by_cases h : 0 < P ∧ haS P (meS P n) (hoS (meS P n))
  · exact Or.inr (hd_1 h.1 h.2)
  · exact Or.inl (hd_0 h)
theorem z_le0 {P : Nat} (h : P < 2147483648) : nI P ≤ 0 ↔ P = 0 := by
  have q : nI P ≤ nI 0 ↔ P ≤ 0 := nI_leI h (by omega)
  exact q.trans (by omega)
theorem z_le1 {P : Nat} (h : P < 2147483648) : nI P ≤ 1 ↔ P ≤ 1 := nI_leI (b := 1) h (by omega)
theorem me_keep {P : Nat} {n : S1} (v : Vl P n) : ∀ j, (20 ≤ j ∨ j % 4 ≠ 1) → meS P n j = n j := by
  intro j hj
  obtain ⟨g, hg4, hg, hgi⟩ := v.2.2.2.1
  rw [meS, hg, z_cl (by omega), ea_keep P v.1 j (by omega)]
  exact gs_keep v.1 hg4 hgi g (Nat.le_refl _) j hj
theorem b_step {P : Nat} {w : S2} {n : S1} {K : Int32 → S2 → Prop} (h : WR P w n) (v : Vl P n) (k : ∀ w', WR P w' (stS P n) → K (hdS P n) w') : w_X2_step w K := by
  have hP := v.1
  have keepM := me_keep v
  obtain ⟨g, hg4, hg, hgi⟩ := v.2.2.2.1
  have keep := gs_keep hP hg4 hgi g (Nat.le_refl _)
  have eg : (n 23).toNatClampNeg = g := by rw [hg, z_cl (by omega)]
  have emS : meS P n = eaS P (gsS n g) P := by rw [meS, eg]
  unfold w_X2_step
  simp only [nm]
  refine b_makeGifts h v (fun w1 h1 => ?_)
  rw [eg] at h1
  refine jn_in (fun J => ∀ x, (∀ p, p < P → gsS n g 22 = nI p → x = cbS P (gsS n g) p) → J x w1) ?_ ?_
  · intro x hx
    refine b_earn h1 hP hx (fun w5 h5 => ?_)
    rw [← emS] at h5
    refine jn_in (fun J => ∀ kk, kk = hdS P n → J kk w5) ?_ ?_
    · intro kk hkk
      refine jn_in (fun J => ∀ w9, WR P w9 (coS P (meS P n)) → J w9) ?_ ?_
      · intro w9 h9
        have h10 := k _ (by rw [stS, ← h9.2.1]; exact WR_qu h9 hP (w9 0 1 + 1))
        rw [← hkk] at h10
        exact ⟨by rw [hkk]; exact hd_01 P n, h10⟩
      · intro J hJ
        refine br_in (fun q => ?_) (fun q => ?_)
        · refine br_in (fun q2 => ?_) (fun q2 => ?_)
          · rw [h5.1, z_le0 (by omega)] at q2
            exact hJ _ (by rw [coS, if_pos q2]; exact h5)
          · rw [h5.1, z_le0 (by omega)] at q2
            obtain ⟨hh, hhP, e22⟩ := v.2.2.1 (by omega)
            have m22 : meS P n 22 = nI hh := (keepM 22 (by omega)).trans e22
            have ehs : hoS (meS P n) = hh := by rw [hoS, m22, z_cl (by omega)]
            rw [(h5.2.2.2.1 (by omega)).trans m22, z_cl (by omega), (h5.2.2.2.2.2.2.2.1 hh hhP).2.2.2]
            refine ⟨z_in (by omega) (by omega), z_in (by omega) (by omega), hJ _ ?_⟩
            rw [coS, if_neg q2, if_neg (fun z => by rw [hkk, hd_1 (by omega) z] at q; exact absurd q (by decide)), ehs]
            exact WR_kp h5 hP hhP _
        · have hz : 0 < P ∧ haS P (meS P n) (hoS (meS P n)) := Classical.byContradiction (fun z => q (by rw [hkk]; exact hd_0 z))
          obtain ⟨hh, hhP, e22⟩ := v.2.2.1 hz.1
          have m22 : meS P n 22 = nI hh := (keepM 22 (by omega)).trans e22
          have ehs : hoS (meS P n) = hh := by rw [hoS, m22, z_cl (by omega)]
          refine b_poorest h5 hP hhP m22 (hJ _ ?_)
          rw [coS, if_neg (by omega), if_pos hz.2, ehs]
          exact WR_ho h5 hP hz.1 _
    · intro J49 hJ49
      refine jn_in (fun J => hdS P n = 0 → J w5) (fun z => hJ49 0 z.symm) ?_
      intro J48 hJ48
      refine br_in (fun q => hJ48 ?_) (fun q => ?_)
      · rw [h5.1, z_le1 (by omega)] at q
        exact hd_0 (fun z => by have := z.2.1; omega)
      · rw [h5.1, z_le1 (by omega)] at q
        obtain ⟨hh, hhP, e22⟩ := v.2.2.1 (by omega)
        have m22 : meS P n 22 = nI hh := (keepM 22 (by omega)).trans e22
        have ehs : hoS (meS P n) = hh := by rw [hoS, m22, z_cl (by omega)]
        refine b_handsOn h5 hP hhP m22 (fun c => ?_) (fun c => ?_)
        · exact br_neg (by decide) (hJ49 1 (hd_1 (by omega) (by rw [ehs]; exact ⟨by omega, c⟩)).symm)
        · exact br_pos rfl (hJ48 (hd_0 (fun z => c (by have := z.2.2; rw [ehs] at this; exact this))))
  · intro J23 hJ23
    refine br_in (fun q => hJ23 0 ?_) (fun q => ?_)
    · rw [h1.1, z_le0 (by omega)] at q
      intro p hp; omega
    · rw [h1.1, z_le0 (by omega)] at q
      obtain ⟨hh, hhP, e22⟩ := v.2.2.1 (by omega)
      have m22 : gsS n g 22 = nI hh := (keep 22 (by omega)).trans e22
      rw [(h1.2.2.2.1 (by omega)).trans m22]
      refine b_coinBrings h1 hP hhP (hJ23 _ (fun p hp e => ?_))
      rw [m22] at e
      rw [(nI_eq (by omega) (by omega)).mp e]
