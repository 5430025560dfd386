theorem tn_0 : (0 : Int32).toNatClampNeg = 0 := by decide
theorem tn_20 : (20 : Int32).toNatClampNeg = 20 := by decide
theorem tn_21 : (21 : Int32).toNatClampNeg = 21 := by decide
theorem tn_22 : (22 : Int32).toNatClampNeg = 22 := by decide
theorem tn_23 : (23 : Int32).toNatClampNeg = 23 := by decide
theorem tn_44 : (44 : Int32).toNatClampNeg = 44 := by decide
theorem tn_1 : (1 : Int32).toNatClampNeg = 1 := by decide
theorem bnd_rng (x : Int32) : nI 0 ≤ bnd x ∧ bnd x ≤ nI 999 := by
  unfold bnd
  split
  · exact ⟨by decide, by decide⟩
  · split
    · exact ⟨by decide, by decide⟩
    · rename_i h1 h2; exact ⟨z_nlt.mp h1, z_nlt.mp h2⟩
theorem b_of0 {j : Nat} {mo : S2} {lo : SL} {K : Int32 → S2 → SL → Prop} (hj : 4 * j < 57) (h : K (mo 2 (4 * j)) mo lo) : w_X4_of (nI j) 0 mo lo K := b_of (j := j) (x := 0) hj h
theorem b_mtrade {p : Nat} {mo : S2} {lo : SL} {K : Int32 → S2 → SL → Prop} (hp : p < 5) (k : K (tbS (mo 2) p) mo lo) : w_X4_tradeBrings (nI p) mo lo K := by
  unfold w_X4_tradeBrings
  simp only [nm, tn_21]
  refine b_of (j := p) (x := 2) (by omega) (b_of0 (j := p) (by omega) ?_)
  refine br_in (fun q => ?_) (fun q => b_of0 (j := p) (by omega) (br_in (fun q2 => ?_) (fun q2 => ?_)))
  · rw [tbS, if_pos q] at k; exact k
  · rw [tbS, if_neg q, if_pos q2] at k; exact k
  · rw [tbS, if_neg q, if_neg q2] at k; exact k
theorem b_mcoin {P p : Nat} {mo : S2} {lo : SL} {K : Int32 → S2 → SL → Prop} (hP : P ≤ 5) (e3 : mo 0 3 = nI P) (hp : p < 5) (k : K (cbS P (mo 2) p) mo lo) : w_X4_coinBrings (nI p) mo lo K := by
  unfold w_X4_coinBrings
  simp only [nm, jn]
  refine lfp4_inv P (fun j a b c d => a = pcS (mo 2) p j ∧ b = nI j ∧ c = mo ∧ d = lo) ?_ ?_ (k := 0) (by omega) ⟨rfl, rfl, rfl, rfl⟩
  · rintro a b c d ⟨rfl, rfl, rfl, rfl⟩ G
    refine br_pos (by rw [e3]; exact nI_le (Nat.le_refl _) (by omega)) (b_of0 (j := p) (by omega) ?_)
    unfold cbS at k
    refine br_in (fun q => ?_) (fun q => br_in (fun q2 => ?_) (fun q2 => br_in (fun q3 => ?_) (fun q3 => ?_)))
    · rw [if_pos q] at k; exact k
    · rw [if_neg q, if_pos q2] at k; exact k
    · rw [if_neg q, if_neg q2, if_pos q3] at k; exact k
    · rw [if_neg q, if_neg q2, if_neg q3] at k; exact k
  · rintro j a b c d hj ⟨rfl, rfl, rfl, rfl⟩ G hG
    refine br_neg (by rw [e3]; exact nI_ge hj (by omega)) (b_of (j := j) (x := 1) (by omega) (b_of (j := p) (x := 1) (by omega) ?_))
    refine br_in (fun q => b_flag (fun _ => hG _ _ _ _ ⟨?_, nI_1 j, rfl, rfl⟩) (fun z => absurd rfl z)) (fun q => b_flag (fun z => absurd z (by decide)) (fun _ => hG _ _ _ _ ⟨?_, nI_1 j, rfl, rfl⟩))
    · rw [pcS, if_pos q, Int32.add_zero]
    · rw [pcS, if_neg q]
theorem b_mbrings {P p : Nat} {mo : S2} {lo : SL} {K : Int32 → S2 → SL → Prop} (hP : P ≤ 5) (e3 : mo 0 3 = nI P) (hp : p < 5) (k : K (brS P (mo 2) p) mo lo) : w_X4_brings (nI p) mo lo K := by
  unfold w_X4_brings
  simp only [tn_22]
  unfold brS at k
  refine b_mtrade hp (br_in (fun q => b_mcoin hP e3 hp ?_) (fun q => ?_))
  · rw [if_pos q] at k; exact k
  · rw [if_neg q] at k; exact k
theorem up_self {α : Type} (f : Nat → α) (k : Nat) : va_up f k (f k) = f := by
  funext j; by_cases h : j = k
  · subst h; rw [z_upS]
  · rw [z_upN _ _ h]
theorem b_mgifts {P : Nat} {mo : S2} {lo : SL} {K : S2 → SL → Prop} (v : Vl P (mo 2)) (k : K (va_up mo 2 (gsS (mo 2) (mo 2 23).toNatClampNeg)) lo) : w_X4_giftsGo mo lo K := by
  have hP := v.1
  obtain ⟨g, hg4, hg, hgi⟩ := v.2.2.2.1
  have keep := gs_keep hP hg4 hgi
  rw [hg, z_cl (by omega)] at k
  unfold w_X4_giftsGo
  simp only [nm, tn_20, tn_23]
  refine lfp3_inv g (fun i a b c => a = nI i ∧ b = va_up mo 2 (gsS (mo 2) i) ∧ c = lo) ?_ ?_ (k := 0) (by omega) ⟨rfl, (up_self mo 2).symm, rfl⟩
  · rintro a b c ⟨rfl, rfl, rfl⟩ G
    exact br_pos (by rw [z_upS, keep g (Nat.le_refl _) 23 (by omega), hg]; exact nI_le (Nat.le_refl _) (by omega)) k
  · rintro i a b c hi ⟨rfl, rfl, rfl⟩ G hG
    have keep := keep i (by omega)
    obtain ⟨⟨p, hp, ep⟩, r, hr, er⟩ := hgi i hi
    have e0 : (24 : Int32) + 4 * nI i = nI (24 + 4 * i) := by rw [show (4 : Int32) = nI 4 from rfl, z_mul]; exact z_add 24 (4 * i)
    have e1 : nI (24 + 4 * i) + 1 = nI (25 + 4 * i) := (z_add (24 + 4 * i) 1).trans (by rw [show 24 + 4 * i + 1 = 25 + 4 * i by omega])
    have e2 : nI (24 + 4 * i) + 2 = nI (26 + 4 * i) := (z_add (24 + 4 * i) 2).trans (by rw [show 24 + 4 * i + 2 = 26 + 4 * i by omega])
    have e3 : nI (24 + 4 * i) + 3 = nI (27 + 4 * i) := (z_add (24 + 4 * i) 3).trans (by rw [show 24 + 4 * i + 3 = 27 + 4 * i by omega])
    have m1 : gsS (mo 2) i (25 + 4 * i) = nI p := (keep _ (by omega)).trans ep
    have m2 : gsS (mo 2) i (26 + 4 * i) = nI r := (keep _ (by omega)).trans er
    have eF : gF (gsS (mo 2) i) i = p := by unfold gF; rw [m1, z_cl (by omega)]
    have eT : gT (gsS (mo 2) i) i = r := by unfold gT; rw [m2, z_cl (by omega)]
    refine br_neg (by rw [z_upS, keep 23 (by omega), hg]; exact nI_ge hi (by omega)) ?_
    rw [e0, e1, e2, e3, z_upS, z_cl (n := 24 + 4 * i) (by omega), z_cl (n := 25 + 4 * i) (by omega), z_cl (n := 26 + 4 * i) (by omega), z_cl (n := 27 + 4 * i) (by omega), m1]
    refine ⟨z_in (by omega) (by omega), jn_in (fun J => J (va_up mo 2 (gsS (mo 2) (i + 1))) c) (hG _ _ _ ⟨nI_1 i, rfl, rfl⟩) (fun J hJ => br_in (fun q => ?_) (fun q => ?_))⟩
    · refine ⟨z_in (by omega) (by omega), b_of (j := p) (x := 1) (by omega) ⟨z_in (by omega) (by omega), jn_in (fun J2 => J2 (gM (gsS (mo 2) i) i)) ?_ (fun J2 hJ2 => ?_)⟩⟩
      · rw [z_upS, m1]
        refine ⟨z_in (by omega) (by omega), b_becomesOf (j := p) (x := 1) (by omega) ?_⟩
        rw [z_upU, z_upS, z_upS]
        have eA : upd (gsS (mo 2) i) (4 * p + 1) (gsS (mo 2) i (4 * p + 1) - gM (gsS (mo 2) i) i) = gA (gsS (mo 2) i) i := by rw [gA, eF]
        rw [eA]
        have m2' : gA (gsS (mo 2) i) i (26 + 4 * i) = nI r := by rw [gA, eF, z_upd_ne _ _ (by omega), m2]
        rw [m2']
        refine ⟨z_in (by omega) (by omega), z_in (by omega) (by omega), b_of (j := r) (x := 1) (by omega) (b_mwithin (b_becomesOf (j := r) (x := 1) (by omega) ?_))⟩
        rw [z_upU, z_upS]
        rw [gsS, gfS, if_pos q, eT] at hJ
        exact hJ
      · rw [z_upS]
        unfold gM at hJ2
        rw [eF] at hJ2
        refine br_in (fun q2 => ?_) (fun q2 => ⟨z_in (by omega) (by omega), ?_⟩)
        · rw [if_neg (z_nlt.mpr q2)] at hJ2; exact hJ2
        · rw [if_pos (z_nle.mp q2)] at hJ2; exact hJ2
    · rw [gsS, gfS, if_neg q] at hJ
      exact hJ
theorem b_mpoorest {P hh : Nat} {mo : S2} {lo : SL} {K : Int32 → S2 → SL → Prop} (hP : P ≤ 5) (e3 : mo 0 3 = nI P) (hp : hh < P) (h1 : 1 < P) (k : K (nI (poS (mo 2) P hh (P - 1))) mo lo) : w_X4_poorest (nI hh) mo lo K := by
  unfold w_X4_poorest
  simp only [nm, jn]
  refine lfp4_inv (P - 1) (fun j a b c d => a = (if j = 0 then -4 else nI (poS (mo 2) P hh j)) ∧ b = nI (j + 1) ∧ c = mo ∧ d = lo) ?_ ?_ (k := 0) (by omega) ⟨rfl, rfl, rfl, rfl⟩
  · rintro a b c d ⟨rfl, rfl, rfl, rfl⟩ G
    rw [if_neg (by omega)]
    exact br_pos (by rw [e3]; exact nI_le (by omega) (by omega)) k
  · rintro j a b c d hj ⟨rfl, rfl, rfl, rfl⟩ G hG
    have hq : (hh + (j + 1)) % P < P := Nat.mod_lt _ (by omega)
    have hpl := po_lt (n := c 2) hp j
    rw [e3]
    refine br_neg (nI_ge (by omega) (by omega)) ⟨nI_ne0 (by omega) (by omega), ?_⟩
    rw [z_add, pk_rem (by omega) (by omega) (by omega)]
    have go : ∀ y, poS (c 2) P hh (j + 1) = y → G (nI y) (nI (j + 1) + 1) c d := fun y hy => hG _ _ _ _ ⟨by rw [if_neg (by omega), hy], nI_1 (j + 1), rfl, rfl⟩
    refine br_in (fun q => ?_) (fun q => ?_)
    · refine go _ ?_
      have j0 : j = 0 := by
        rcases Nat.eq_zero_or_pos j with z | z
        · exact z
        · rw [if_neg (by omega)] at q
          rw [z_eq, z_tI (by omega), z_tm4] at q
          omega
      rw [poS, if_pos (Or.inl j0)]
    · have j0 : j ≠ 0 := fun z => q (by rw [if_pos z])
      rw [if_neg j0]
      refine b_of (x := 1) (by omega) (b_of (x := 1) (by omega) (br_in (fun q2 => ?_) (fun q2 => ?_)))
      · refine go _ ?_
        rw [poS, if_neg]
        rintro (z | z)
        · exact j0 z
        · exact (z_nle.mpr z) q2
      · refine go _ ?_
        rw [poS, if_pos (Or.inr (z_nle.mp q2))]
/-- what a quarter makes of the reference's numbers -/
def QR (P : Nat) (mo mo' : S2) : Prop := mo' 2 = stS P (mo 2) ∧ mo' 0 18 = mo 0 18 + hdS P (mo 2) ∧ (∀ k, k ≠ 18 → mo' 0 k = mo 0 k) ∧ (∀ c, c ≠ 0 → c ≠ 2 → c ≠ 6 → mo' c = mo c)
theorem b_quarterGoes {P : Nat} {mo : S2} {lo : SL} {K : S2 → SL → Prop} (e3 : mo 0 3 = nI P) (v : Vl P (mo 2)) (k : ∀ mo', QR P mo mo' → K mo' lo) : w_X4_quarterGoes mo lo K := by
  have hP := v.1
  have keepM := me_keep v
  obtain ⟨g, hg4, hg, hgi⟩ := v.2.2.2.1
  have keep := gs_keep hP hg4 hgi g (Nat.le_refl _)
  have eg : (mo 2 23).toNatClampNeg = g := by rw [hg, z_cl (by omega)]
  have emS : meS P (mo 2) = eaS P (gsS (mo 2) g) P := by rw [meS, eg]
  unfold w_X4_quarterGoes
  simp only [nm, tn_20, tn_22]
  refine b_mgifts v ?_
  rw [eg]
  refine lfp3_inv P (fun i a b c => a = nI i ∧ (∃ f : S1, b = va_up (va_up mo 2 (gsS (mo 2) g)) 6 f ∧ ∀ q, q < i → f q = brS P (gsS (mo 2) g) q) ∧ c = lo) ?_ ?_ (k := 0) (by omega) ⟨rfl, ⟨mo 6, (up_self (va_up mo 2 (gsS (mo 2) g)) 6).symm, fun q hq => absurd hq (by omega)⟩, rfl⟩
  · rintro a b c ⟨rfl, ⟨f, rfl, hf⟩, rfl⟩ G
    refine br_pos (by show mo 0 3 ≤ _; rw [e3]; exact nI_le (Nat.le_refl _) (by omega)) ?_
    refine lfp3_inv P (fun i a b d => a = nI i ∧ b = va_up (va_up mo 2 (eaS P (gsS (mo 2) g) i)) 6 f ∧ d = c) ?_ ?_ (k := 0) (by omega) ⟨rfl, rfl, rfl⟩
    · rintro a b d ⟨rfl, rfl, rfl⟩ G
      rw [← emS]
      refine br_pos (by show mo 0 3 ≤ _; rw [e3]; exact nI_le (Nat.le_refl _) (by omega)) ?_
      have m2 : ∀ x : S1, (va_up (va_up mo 2 x) 6 f) 2 = x := fun x => by rw [z_upN _ _ (by decide), z_upS]
      rw [m2]
      -- the quarter's end
      refine jn_in (fun J => ∀ mo', mo' 2 = coS P (meS P (mo 2)) → mo' 0 18 = mo 0 18 + hdS P (mo 2) → (∀ k, k ≠ 18 → mo' 0 k = mo 0 k) → (∀ c, c ≠ 0 → c ≠ 2 → c ≠ 6 → mo' c = mo c) → J mo' d) ?_ ?_
      · intro mo' h2 h18 hk hc
        refine k _ ⟨?_, ?_, ?_, ?_⟩
        · rw [z_upS, h2, stS]
        · rw [z_upN _ _ (by decide)]; exact h18
        · intro j hj; rw [z_upN _ _ (by decide)]; exact hk j hj
        · intro j h0 h2 h6; rw [z_upN _ _ h2]; exact hc j h0 h2 h6
      · intro J hJ
        rcases Nat.eq_zero_or_pos P with P0 | P0
        · refine br_pos (by rw [keepM 22 (by omega)]; exact v.2.1 P0) (hJ _ ?_ ?_ ?_ ?_)
          · rw [m2, coS, if_pos P0]
          · rw [hd_0 (by omega), Int32.add_zero]; rfl
          · intro j _; rfl
          · intro j _ h2 h6; rw [z_upN _ _ h6, z_upN _ _ h2]
        · obtain ⟨hh, hhP, e22⟩ := v.2.2.1 P0
          have m22 : meS P (mo 2) 22 = nI hh := (keepM 22 (by omega)).trans e22
          have ehs : hoS (meS P (mo 2)) = hh := by rw [hoS, m22, z_cl (by omega)]
          rw [m22]
          refine br_neg (by rw [z_eq, z_tI (by omega), z_tm4]; omega) ?_
          have eP : (va_up (va_up mo 2 (meS P (mo 2))) 6 f) 0 3 = nI P := e3
          refine jn_in (fun J2 => ∀ kk, kk = hdS P (mo 2) → J2 kk (va_up (va_up mo 2 (meS P (mo 2))) 6 f) d) ?_ ?_
          · intro kk hkk
            refine br_in (fun q => ?_) (fun q => ?_)
            · refine b_of (x := 3) (by omega) (b_becomesOf (x := 3) (by omega) (hJ _ ?_ ?_ ?_ ?_))
              · rw [z_upS, m2, coS, if_neg (by omega), if_neg (fun z => by rw [hkk, hd_1 P0 z] at q; exact absurd q (by decide)), ehs]
              · rw [← hkk, q, Int32.add_zero]; rfl
              · intro j _; rfl
              · intro j _ h2 h6; rw [z_upN _ _ h2, z_upN _ _ h6, z_upN _ _ h2]
            · have hz : 0 < P ∧ haS P (meS P (mo 2)) (hoS (meS P (mo 2))) := Classical.byContradiction (fun z => q (by rw [hkk]; exact hd_0 z))
              refine b_mpoorest hP eP hhP hz.2.1 (hJ _ ?_ ?_ ?_ ?_)
              · rw [z_upN _ _ (by decide), z_upS, m2, coS, if_neg (by omega), if_pos hz.2, ehs]
              · rw [z_upS, z_upd_same, hd_1 hz.1 hz.2]; rfl
              · intro j hj; rw [z_upS, z_upd_ne _ _ hj]; rfl
              · intro j h0 h2 h6; rw [z_upN _ _ h0, z_upN _ _ h2, z_upN _ _ h6, z_upN _ _ h2]
          · intro J129 hJ129
            refine jn_in (fun J => hdS P (mo 2) = 0 → J (va_up (va_up mo 2 (meS P (mo 2))) 6 f) d) (fun z => hJ129 0 z.symm) ?_
            intro J128 hJ128
            rw [eP]
            refine br_in (fun q => hJ128 ?_) (fun q => ?_)
            · rw [z_le1 (by omega)] at q
              exact hd_0 (fun z => by have := z.2.1; omega)
            · rw [z_le1 (by omega)] at q
              refine b_of0 (by omega) ?_
              refine jn_in (fun J => hdS P (mo 2) = 1 → J (va_up (va_up mo 2 (meS P (mo 2))) 6 f) d) (fun z => hJ129 1 z.symm) ?_
              intro J124 hJ124
              rw [m2]
              refine br_in (fun q2 => b_of (x := 1) (by omega) ?_) (fun q2 => b_of (x := 1) (by omega) ?_)
              · rw [m2]
                refine br_in (fun q3 => hJ124 (hd_1 P0 ?_)) (fun q3 => hJ128 (hd_0 (fun z => ?_)))
                · rw [ehs]; refine ⟨by omega, ?_⟩; rw [if_pos q2]; exact q3
                · have := z.2.2; rw [ehs, if_pos q2] at this; exact q3 this
              · rw [m2]
                refine br_in (fun q3 => hJ128 (hd_0 (fun z => ?_))) (fun q3 => hJ124 (hd_1 P0 ?_))
                · have := z.2.2; rw [ehs, if_neg q2] at this; exact this q3
                · rw [ehs]; refine ⟨by omega, ?_⟩; rw [if_neg q2]; exact q3
    · rintro i a b d hi ⟨rfl, rfl, rfl⟩ G hG
      have keepE := ea_keep (P := P) (n := gsS (mo 2) g) i (by omega)
      refine br_neg (by show ¬ mo 0 3 ≤ _; rw [e3]; exact nI_ge hi (by omega)) (b_of (x := 1) (by omega) ⟨z_in (by omega) (by omega), b_mwithin (b_becomesOf (x := 1) (by omega) (hG _ _ _ ⟨nI_1 i, ?_, rfl⟩))⟩)
      rw [z_cl (by omega), z_upS, hf i hi]
      have m2 : (va_up (va_up mo 2 (eaS P (gsS (mo 2) g) i)) 6 f) 2 = eaS P (gsS (mo 2) g) i := by rw [z_upN _ _ (by decide), z_upS]
      rw [m2, keepE _ (by omega)]
      funext c
      by_cases c2 : c = 2
      · subst c2; rw [z_upS, z_upN _ _ (by decide), z_upS, eaS]
      · rw [z_upN _ _ c2]
        by_cases c6 : c = 6
        · subst c6; rw [z_upS, z_upS]
        · rw [z_upN _ _ c6, z_upN _ _ c2, z_upN _ _ c6, z_upN _ _ c2]
  · rintro i a b c hi ⟨rfl, ⟨f, rfl, hf⟩, rfl⟩ G hG
    have m2 : (va_up (va_up mo 2 (gsS (mo 2) g)) 6 f) 2 = gsS (mo 2) g := by rw [z_upN _ _ (by decide), z_upS]
    refine br_neg (by show ¬ mo 0 3 ≤ _; rw [e3]; exact nI_ge hi (by omega)) (b_mbrings hP e3 (by omega) ⟨z_in (by omega) (by omega), hG _ _ _ ⟨nI_1 i, ⟨upd f i (brS P (gsS (mo 2) g) i), ?_, ?_⟩, rfl⟩⟩)
    · rw [m2, z_upS, z_upU, z_cl (by omega)]
    · intro q hq
      by_cases e : q = i
      · subst e; rw [z_upd_same]
      · rw [z_upd_ne _ _ e]; exact hf q (by omega)
