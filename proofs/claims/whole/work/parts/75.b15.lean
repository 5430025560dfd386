theorem eqO_a {o d : S3} (h : eqO o d) (w : S2) : eqO o (va_up d 2 w) := ⟨fun g a b c => (z_upN _ _ b).trans (h.1 g a b c), h.2.1, h.2.2⟩
theorem eqO_b {o d : S3} (h : eqO o d) (x : S2) (hx : x = o 1) : eqO o (va_up d 1 x) := ⟨fun g a b c => by
    by_cases e : g = 1
    · subst e; rw [z_upS, hx]
    · rw [z_upN _ _ e]; exact h.1 g a b c, h.2.1, h.2.2⟩
theorem eqO_c {o d : S3} (h : eqO o d) {k : Nat} (hk : k = 4 ∨ k = 5) (f : S1) : eqO o (va_up d 0 (va_up (d 0) k f)) := ⟨fun g a b c => (z_upN _ _ a).trans (h.1 g a b c), by rw [z_upS, z_upN _ _ (by omega)]; exact h.2.1, by rw [z_upS, z_upN _ _ (by omega)]; exact h.2.2⟩
theorem b_trace {P : Nat} {w : S2} {n f : S1} {K : S2 → S1 → Prop} (h : WR P w n) (v : Vl P n) (P0 : 0 < P) (k : ∀ w' f', (∀ q, q < 21 → f' q = itS P n q 22) → K w' f') : w_X2_trace w f K := by
  unfold w_X2_trace
  refine lfp3_inv 21 (fun i a b c => a = nI i ∧ WR P b (itS P n i) ∧ ∀ q, q < i → c q = itS P n q 22) ?_ ?_ (k := 0) (by omega) ⟨rfl, h, fun q hq => absurd hq (by omega)⟩
  · rintro a b c ⟨rfl, hb, hc⟩ G
    exact br_pos (nI_le (Nat.le_refl 21) (by omega)) (k _ _ hc)
  · rintro i a b c hi ⟨rfl, hb, hc⟩ G hG
    refine br_neg (nI_ge (b := 21) hi (by omega)) ⟨z_in hi (by omega), nm_in (b_step hb (it_Vl v i) (fun w' hw' => nm_in (hG _ _ _ ⟨nI_1 i, hw', fun q hq => ?_⟩)))⟩
    rw [z_cl (by omega)]
    by_cases e : q = i
    · subst e; rw [z_upd_same]; exact hb.2.2.2.1 P0
    · rw [z_upd_ne _ _ e]; exact hc q (by omega)
def asS (n f : S1) : Nat → Int32
  | 0 => 1
  | i + 1 => if asS n f i = 0 then 0 else if f (n (45 + 2 * i)).toNatClampNeg = n (46 + 2 * i) then 1 else 0
theorem as_01 (n f : S1) : ∀ i, asS n f i = 0 ∨ asS n f i = 1 := by
  intro i
  cases i with
  | zero => exact Or.inr rfl
  | succ i => rw [asS]; split
              · exact Or.inl rfl
              · split
                · exact Or.inr rfl
                · exact Or.inl rfl
theorem as_dn {n f : S1} {k : Nat} (h : asS n f k = 0) : ∀ d, asS n f (k + d) = 0 := by
  intro d
  induction d with
  | zero => exact h
  | succ d ih => rw [show k + (d + 1) = (k + d) + 1 by omega, asS, if_pos ih]
theorem as_cong {n m f g : S1} {N : Nat} (hN : N ≤ 6) (hi : ∀ i, i < N → ∃ b, b ≤ 20 ∧ n (45 + 2 * i) = nI b) (hm : ∀ j, j < 57 → m j = n j) (hf : ∀ q, q < 21 → g q = f q) : ∀ i, i ≤ N → asS m g i = asS n f i := by
  intro i
  induction i with
  | zero => intro _; rfl
  | succ i ih =>
    intro hiN
    obtain ⟨b, hb, e⟩ := hi i (by omega)
    rw [asS, asS, ih (by omega), hm _ (by omega), hm _ (by omega), e, z_cl (by omega), hf b (by omega)]
theorem b_isAsSeen {P : Nat} {w : S2} {n f : S1} {K : Int32 → S2 → S1 → Prop} (h : WR P w n) (v : Vl P n) (k : K (asS n f (n 44).toNatClampNeg) w f) : w_X2_isAsSeen w f K := by
  obtain ⟨s, s6, hs, hsi⟩ := v.2.2.2.2.1
  rw [hs, z_cl (by omega)] at k
  unfold w_X2_isAsSeen
  rw [h.2.2.2.2.2.2.1, hs]
  refine lfp1_inv s (fun i a => a = nI i ∧ asS n f i = 1) ?_ ?_ (k := 0) (by omega) ⟨rfl, rfl⟩
  · rintro a ⟨rfl, ha⟩ G
    refine br_pos (nI_le (Nat.le_refl s) (by omega)) ?_
    rw [ha] at k; exact k
  · rintro i a hi ⟨rfl, ha⟩ G hG
    obtain ⟨b, hb, eb⟩ := hsi i hi
    obtain ⟨e6, e7⟩ := h.2.2.2.2.2.2.2.2.2 i (by rw [hs, z_cl (by omega)]; exact hi)
    rw [z_cl (n := i) (by omega), e6, e7]
    refine br_neg (nI_ge hi (by omega)) ⟨z_in (by omega) (by omega), by rw [eb]; exact z_in (by omega) (by omega), z_in (by omega) (by omega), br_in (fun q => nm_in (hG _ ⟨nI_1 i, ?_⟩)) (fun q => ?_)⟩
    · rw [asS, if_neg (by rw [ha]; exact n10), if_pos q]
    · have e : asS n f (i + 1) = 0 := by rw [asS, if_neg (by rw [ha]; exact n10), if_neg q]
      have := as_dn e (s - (i + 1))
      rw [show i + 1 + (s - (i + 1)) = s by omega] at this
      rw [this] at k; exact k
/-- the row n, with another number at a place, as seen in the row m -/
noncomputable def fiS (P : Nat) (m n : S1) : Int32 := asS m (fun q => itS P n q 22) (m 44).toNatClampNeg
theorem b_isSoWith {P j x : Nat} {y : Int32} {mo : S2} {lo : SL} {K : Int32 → S2 → SL → Prop} (e3 : mo 0 3 = nI P) (v : Vl P (nnS mo)) (hj : 4 * j + x < 57) (v' : Vl P (upd (nnS mo) (4 * j + x) y)) (k : ∀ mo', eqM mo mo' → (∀ q, q < 21 → mo' 7 q = itS P (upd (nnS mo) (4 * j + x) y) q 22) → mo' 8 = mo 8 → K (fiS P (nnS mo) (upd (nnS mo) (4 * j + x) y)) mo' lo) : w_X4_isSoWith (nI j) (nI x) y mo lo K := by
  obtain ⟨s, s6, hs, hsi⟩ := v.2.2.2.2.1
  unfold w_X4_isSoWith
  refine b_starts (b_becomesOf hj ?_)
  rw [z_upU, z_upS, show fil (mo 1) (mo 2) 57 = nnS mo from rfl, tn_44, tn_22]
  have h0 : eqM mo (va_up mo 2 (upd (nnS mo) (4 * j + x) y)) := eqM_up2 mo _ (fun i hi => by rw [z_upd_ne _ _ (by omega)]; exact fil_hi _ _ hi)
  refine lfp3_inv 21 (fun i a b c => a = nI i ∧ (eqM mo b ∧ b 2 = itS P (upd (nnS mo) (4 * j + x) y) i ∧ (∀ q, q < i → b 7 q = itS P (upd (nnS mo) (4 * j + x) y) q 22) ∧ b 8 = mo 8) ∧ c = lo) ?_ ?_ (k := 0) (by omega) ⟨rfl, ⟨h0, z_upS _ _ _, fun q hq => absurd hq (by omega), rfl⟩, rfl⟩
  · rintro a b c ⟨rfl, ⟨h1, h2, h7, h8⟩, rfl⟩ G
    refine br_pos (nI_lt (a := 20) (by omega) (by omega)) ?_
    have b1 : b 1 = mo 1 := h1.2.1 1 (by omega)
    have e44 : b 1 44 = nI s := by rw [b1, ← nn_lo mo (by omega)]; exact hs
    have fin := k b h1 h7 h8
    unfold fiS at fin
    rw [hs, z_cl (by omega), ← as_cong (m := nnS mo) (g := b 7) (N := s) s6 hsi (fun _ _ => rfl) h7 s (Nat.le_refl _)] at fin
    rw [e44]
    refine lfp2_inv s (fun i a b' => a = asS (nnS mo) (b 7) i ∧ b' = nI i) ?_ ?_ (k := 0) (by omega) ⟨rfl, rfl⟩
    · rintro a b' ⟨rfl, rfl⟩ G2
      exact br_pos (nI_le (Nat.le_refl s) (by omega)) ⟨as_01 _ _ _, fin⟩
    · rintro i a b' hi ⟨rfl, rfl⟩ G2 hG2
      obtain ⟨bb, hb, eb⟩ := hsi i hi
      have a1 : b 1 (45 + 2 * i) = nnS mo (45 + 2 * i) := by rw [b1, nn_lo mo (by omega)]
      have a2 : b 1 (46 + 2 * i) = nnS mo (46 + 2 * i) := by rw [b1, nn_lo mo (by omega)]
      rw [show (45 : Int32) + 2 * nI i = nI (45 + 2 * i) by rw [show (2 : Int32) = nI 2 from rfl, z_mul]; exact z_add 45 (2 * i), show nI (45 + 2 * i) + 1 = nI (46 + 2 * i) from (z_add _ 1).trans (by congr 1; omega), z_cl (n := 45 + 2 * i) (by omega), z_cl (n := 46 + 2 * i) (by omega), a1, a2]
      have go : ∀ r, r = asS (nnS mo) (b 7) (i + 1) → G2 r (nI i + 1) := fun r hr => hG2 _ _ ⟨hr, nI_1 i⟩
      refine br_neg (nI_ge hi (by omega)) (jn_in (fun J => ∀ r, r = asS (nnS mo) (b 7) (i + 1) → J r) (fun r hr => nm_in (go r hr)) (fun J hJ => jn_in (fun J2 => asS (nnS mo) (b 7) (i + 1) = 0 → J2 ()) (fun z => hJ 0 z.symm) (fun J2 hJ2 => br_in (fun q => hJ2 (by rw [asS, if_pos q])) (fun q => ⟨z_in (by omega) (by omega), by rw [eb]; exact z_in (by omega) (by omega), z_in (by omega) (by omega), br_in (fun q2 => hJ 1 (by rw [asS, if_neg q, if_pos q2])) (fun q2 => hJ2 (by rw [asS, if_neg q, if_neg q2]))⟩))))
  · rintro i a b c hi ⟨rfl, ⟨h1, h2, h7, h8⟩, rfl⟩ G hG
    have v2 : Vl P ((va_up b 7 (upd (b 7) i (b 2 22))) 2) := by rw [z_upN _ _ (by decide), h2]; exact it_Vl v' i
    rw [z_cl (by omega)]
    refine br_neg (nI_nlt (a := 20) (by omega) (by omega)) ⟨z_in hi (by omega), nm_in (b_quarterGoes (P := P) ((h1.1 3 (by omega)).trans e3) v2 (fun mo' q => nm_in (hG _ _ _ ⟨nI_1 i, ⟨?_, ?_, ?_, ?_⟩, rfl⟩)))⟩
    · have hq := QR.eqM v2 q
      have h1' : eqM b (va_up b 7 (upd (b 7) i (b 2 22))) := ⟨fun _ _ => rfl, fun c hc => z_upN _ _ (by omega), fun _ _ => rfl⟩
      exact (h1.tr h1').tr hq
    · rw [q.1, z_upN _ _ (by decide), h2, itS]
    · intro z hz
      rw [q.2.2.2 7 (by omega) (by omega) (by omega), z_upS]
      by_cases e : z = i
      · subst e; rw [z_upd_same, h2]
      · rw [z_upd_ne _ _ e]; exact h7 z (by omega)
    · rw [q.2.2.2 8 (by omega) (by omega) (by omega)]; exact h8
theorem sh0' : ∀ p, p < 32 → (0 : Int32) <<< (nI p &&& 31) = 0 := by decide +kernel
noncomputable def bsS (P : Nat) (n : S1) (c : Nat) : Nat → Int32
  | 0 => 0
  | k + 1 => if fiS P n (upd n c (nI k)) = 0 then bsS P n c k else bsS P n c k ||| ((1 : Int32) <<< (nI k &&& 31))
theorem md_bits {P c : Nat} {n : S1} {k : Nat} (hk : k < 32) : bsS P n c k ||| ((fiS P n (upd n c (nI k))) <<< (nI k &&& 31)) = bsS P n c (k + 1) := by
  rw [bsS]
  rcases as_01 n (fun q => itS P (upd n c (nI k)) q 22) (n 44).toNatClampNeg with z | z
  · have z' : fiS P n (upd n c (nI k)) = 0 := z
    rw [if_pos z', z', sh0' k hk, Int32.or_zero]
  · have z' : fiS P n (upd n c (nI k)) = 1 := z
    rw [if_neg (by rw [z']; exact n10), z']
theorem b_flagF {P : Nat} {m n : S1} {K : Int32 → Prop} (h : K (fiS P m n)) : w_X4_flag (fiS P m n) K := by
  rcases as_01 m (fun q => itS P n q 22) (m 44).toNatClampNeg with z | z
  · have z' : fiS P m n = 0 := z
    rw [z'] at h ⊢; exact b_flag (fun _ => h) (fun y => absurd rfl y)
  · have z' : fiS P m n = 1 := z
    rw [z'] at h ⊢; exact b_flag (fun y => absurd y n10) (fun _ => h)
theorem L_kinds {P : Nat} {o : S3} {mo : S2} {lo : SL} (I : IVp P o mo) (p1 : Int32) : w_X3_kinds p1 o (fun r o' => w_X4_kinds p1 mo lo (fun r2 mo' _ => r = r2 ∧ IV o' mo')) := by
  have hP := I.2.1.1.1
  have v := I.nV
  have w := I.nW
  unfold w_X3_kinds
  refine b_hz hP w.1 (fun hb => nm_in ?_) (fun j hj ej => nm_in ?_)
  · rw [up_self]
    refine br_pos rfl ?_
    unfold w_X4_kinds
    exact b_oz hP I.1 (fun _ => br_pos rfl ⟨rfl, P, I⟩) (fun j hj ej => absurd ej (hb j hj))
  · rw [up_self]
    subst ej
    refine br_neg n10 ?_
    have md : ∀ o' : S3, eqO o o' → w_X4_kinds (nI j) mo lo (fun r2 mo' _ => bsS P (nnS mo) (4 * j) 4 = r2 ∧ IV o' mo') := by
      intro o' ho
      unfold w_X4_kinds
      refine b_oz hP I.1 (fun h => absurd rfl (h j hj)) (fun _ _ _ => br_neg n10 ?_)
      refine lfp4_inv 4 (fun i a b c d => a = bsS P (nnS mo) (4 * j) i ∧ b = nI i ∧ eqM mo c ∧ d = lo) ?_ ?_ (k := 0) (by omega) ⟨rfl, rfl, eqM.rf mo, rfl⟩
      · rintro a b c d ⟨rfl, rfl, h1, rfl⟩ G
        exact br_pos (nI_le (Nat.le_refl 4) (by omega)) ⟨rfl, P, IVp_q I ho h1⟩
      · rintro i a b c d hi ⟨rfl, rfl, h1, rfl⟩ G hG
        refine br_neg (nI_ge (b := 4) hi (by omega)) (b_isSoWith (P := P) (x := 0) ((h1.1 3 (by omega)).trans I.1) (by rw [h1.nn]; exact v) (by omega) (by rw [h1.nn]; exact Vl_safe v (by omega) _) (fun mo' h2 _ _ => ?_))
        rw [h1.nn]
        exact b_flagF (nm_in (nm_in (hG _ _ _ _ ⟨md_bits (by omega), nI_1 i, h1.tr h2, rfl⟩)))
    refine lfp3_inv 4 (fun i a b c => a = bsS P (nnS mo) (4 * j) i ∧ b = nI i ∧ eqO o c) ?_ ?_ (k := 0) (by omega) ⟨rfl, rfl, eqO.rf o⟩
    · rintro a b c ⟨rfl, rfl, h1⟩ G
      exact br_pos (nI_lt (a := 3) (by omega) (by omega)) (md c h1)
    · rintro i a b c hi ⟨rfl, rfl, h1⟩ G hG
      have c1 : c 1 = o 1 := h1.1 1 (by omega) (by omega) (by omega)
      refine br_neg (nI_nlt (a := 3) (by omega) (by omega)) (b_become (by rw [c1]; exact w) v (fun w1 hw1 => nm_in ?_))
      rw [c1, z_cl (by omega)]
      have hd := eqO_b (eqO_a h1 w1) (o 1) rfl
      have d2 : (va_up (va_up c 2 w1) 1 (o 1)) 2 = w1 := by rw [z_upN _ _ (by decide), z_upS]
      generalize va_up (va_up c 2 w1) 1 (o 1) = d at hd d2 ⊢
      rw [d2]
      refine ⟨z_in (by omega) (by omega), nm_in ?_⟩
      rw [z_upS]
      refine b_trace (WR_kd hw1 hP hj (nI i)) (Vl_safe v (by omega) _) (by omega) (fun w2 f2 hf2 => nm_in ?_)
      have hd2 := eqO_c (eqO_a (eqO_a hd (va_up w1 1 (upd (w1 1) j (nI i)))) w2) (k := 4) (by omega) f2
      have g1 := hd2.1 1 (by omega) (by omega) (by omega)
      have g4 : (va_up (va_up (va_up d 2 (va_up w1 1 (upd (w1 1) j (nI i)))) 2 w2) 0 (va_up ((va_up (va_up d 2 (va_up w1 1 (upd (w1 1) j (nI i)))) 2 w2) 0) 4 f2)) 0 4 = f2 := by rw [z_upS, z_upS]
      have eX : (va_up (va_up d 2 (va_up w1 1 (upd (w1 1) j (nI i)))) 2 w2) 0 = (va_up d 2 (va_up w1 1 (upd (w1 1) j (nI i)))) 0 := rfl
      rw [eX] at hd2 g1 g4
      generalize va_up (va_up (va_up d 2 (va_up w1 1 (upd (w1 1) j (nI i)))) 2 w2) 0 (va_up ((va_up d 2 (va_up w1 1 (upd (w1 1) j (nI i)))) 0) 4 f2) = e at hd2 g1 g4 ⊢
      rw [g1, g4]
      refine b_isAsSeen w v (nm_in ?_)
      have hd3 := eqO_c (eqO_b hd2 (o 1) rfl) (k := 4) (by omega) f2
      have ef : asS (nnS mo) f2 ((nnS mo) 44).toNatClampNeg = fiS P (nnS mo) (upd (nnS mo) (4 * j) (nI i)) := by
        obtain ⟨s, s6, hs, hsi⟩ := v.2.2.2.2.1
        unfold fiS
        rw [hs, z_cl (by omega)]
        exact as_cong s6 hsi (fun _ _ => rfl) hf2 s (Nat.le_refl _)
      rw [ef]
      refine jn_in (fun J => J (bsS P (nnS mo) (4 * j) (i + 1))) (nm_in (hG _ _ _ ⟨rfl, nI_1 i, hd3⟩)) (fun J hJ => br_in (fun q => ?_) (fun q => nm_in ?_))
      · rw [bsS, if_pos q] at hJ; exact hJ
      · rw [bsS, if_neg q] at hJ; exact hJ
