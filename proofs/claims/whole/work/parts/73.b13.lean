-- alms
noncomputable def suS (P : Nat) (n : S1) (j : Nat) : Nat → Int32
  | 0 => 1
  | k + 1 => if suS P n j k = 0 then 0 else if itS P n (k + 1) (4 * j + 1) = 0 then 0 else 1
theorem su_dn {P : Nat} {n : S1} {j k : Nat} (h : suS P n j k = 0) : ∀ d, suS P n j (k + d) = 0 := by
  intro d
  induction d with
  | zero => exact h
  | succ d ih => rw [show k + (d + 1) = (k + d) + 1 by omega, suS, if_pos ih]
theorem b_staysUp {P j m : Nat} {w : S2} {n : S1} {K : Int32 → S2 → Prop} (h : WR P w n) (v : Vl P n) (hj : j < P) (hm : m < 2147483648) (k : ∀ w', K (suS P n j m) w') : w_X2_staysUp (nI j) (nI m) w K := by
  have hP := v.1
  unfold w_X2_staysUp
  simp only [nm]
  refine lfp2_inv m (fun i a b => a = nI i ∧ WR P b (itS P n i) ∧ suS P n j i = 1) ?_ ?_ (k := 0) (by omega) ⟨rfl, h, rfl⟩
  · rintro a b ⟨rfl, hb, hs⟩ G
    refine br_pos (nI_le (Nat.le_refl _) (by omega)) ?_
    have := k b; rw [hs] at this; exact this
  · rintro i a b hi ⟨rfl, hb, hs⟩ G hG
    refine br_neg (nI_ge hi (by omega)) (b_step hb (it_Vl v i) (fun w' hw' => b_isRuined (n := itS P n (i + 1)) hw' hP hj (br_zb (fun z => hG _ _ ⟨nI_1 i, hw', ?_⟩) (fun z => ?_))))
    · rw [suS, if_neg (by rw [hs]; exact n10), if_neg z]
    · have e : suS P n j (i + 1) = 0 := by rw [suS, if_neg (by rw [hs]; exact n10), if_pos z]
      have := su_dn e (m - (i + 1))
      rw [show i + 1 + (m - (i + 1)) = m by omega] at this
      have q := k w'; rw [this] at q; exact q
noncomputable def alF (P : Nat) (n : S1) (j m : Nat) : Nat → Nat → Int32
  | 0, _ => -4
  | f + 1, x => if suS P (upd n (4 * j + 1) (bnd (n (4 * j + 1) + nI x))) j m = 0 then alF P n j m f (x + 1) else nI x
noncomputable def almS (P : Nat) (n : S1) (j m : Nat) : Int32 := alF P n j m 100 0
theorem L_alms {P : Nat} {o : S3} {mo : S2} {lo : SL} (I : IVp P o mo) (p1 p2 : Int32) : w_X3_alms p1 p2 o (fun r o' => w_X4_alms p1 p2 mo lo (fun r2 mo' _ => r = r2 ∧ IV o' mo')) := by
  have hP := I.2.1.1.1
  have v := I.nV
  have w := I.nW
  have bad : ((∀ j, j < P → p1 ≠ nI j) ∨ ¬ (0 ≤ p2 ∧ p2 ≤ 60)) → w_X4_alms p1 p2 mo lo (fun r2 mo' _ => (-1 : Int32) = r2 ∧ IV o mo') := by
    intro hb
    unfold w_X4_alms
    refine b_oz hP I.1 (fun _ => br_pos rfl ⟨rfl, P, I⟩) (fun j hj ej => br_neg n10 (b_isFar (br_zb (fun _ => ⟨rfl, P, I⟩) (fun h2 => ?_))))
    rcases hb with z | z
    · exact absurd ej (z j hj)
    · exact absurd h2 z
  unfold w_X3_alms
  simp only [nm]
  refine b_hz hP w.1 (fun hb => ?_) (fun j hj ej => ?_)
  · rw [up_self]; exact br_pos rfl (bad (Or.inl hb))
  · rw [up_self]
    refine br_neg n10 (b_wz (fun hb => br_pos rfl (bad (Or.inr hb))) (fun h2 => br_neg n10 ?_))
    obtain ⟨m, hm, rfl⟩ := r_of (hi := 60) (by omega) h2
    subst ej
    rw [z_cl (by omega)]
    have vx : ∀ x : Int32, Vl P (upd (nnS mo) (4 * j + 1) (bnd x)) := fun x => Vl_ms v (by omega) (bnd_rng x)
    have md : ∀ w' : S2, w_X4_alms (nI j) (nI m) mo lo (fun r2 mo' _ => almS P (nnS mo) j m = r2 ∧ IV (va_up o 2 w') mo') := by
      intro w'
      unfold w_X4_alms
      refine b_oz hP I.1 (fun h => absurd rfl (h j hj)) (fun _ _ _ => br_neg n10 (b_isFar (br_zb (fun h => absurd h2 h) (fun _ => ?_))))
      simp only [nm]
      refine lfp3_inv 100 (fun i a b c => a = nI i ∧ (eqM mo b ∧ almS P (nnS mo) j m = alF P (nnS mo) j m (100 - i) i) ∧ c = lo) ?_ ?_ (k := 0) (by omega) ⟨rfl, ⟨eqM.rf mo, rfl⟩, rfl⟩
      · rintro a b c ⟨rfl, ⟨h1, hc⟩, rfl⟩ G
        exact br_pos (nI_lt (a := 99) (by omega) (by omega)) ⟨hc, P, IVp_q I (eqO_2 o w') h1⟩
      · rintro i a b c hi ⟨rfl, ⟨h1, hc⟩, rfl⟩ G hG
        rw [show 100 - i = (100 - (i + 1)) + 1 by omega, alF] at hc
        refine br_neg (nI_nlt (a := 99) (by omega) (by omega)) (b_starts (b_of (x := 1) (by omega) (b_mwithin (b_becomesOf (x := 1) (by omega) ?_))))
        rw [z_upU, z_upS]
        have en : fil (b 1) (b 2) 57 = nnS mo := h1.nn
        rw [en]
        have h2' : eqM mo (va_up b 2 (upd (nnS mo) (4 * j + 1) (bnd (nnS mo (4 * j + 1) + nI i)))) := h1.tr (eqM_up2 b _ (fun x hx => by rw [z_upd_ne _ _ (by omega), ← en]; exact fil_hi _ _ hx))
        refine lfp4_inv m (fun q a b d e => a = zb (suS P (upd (nnS mo) (4 * j + 1) (bnd (nnS mo (4 * j + 1) + nI i))) j q = 0) ∧ b = nI q ∧ (eqM mo d ∧ d 2 = itS P (upd (nnS mo) (4 * j + 1) (bnd (nnS mo (4 * j + 1) + nI i))) q) ∧ e = c) ?_ ?_ (k := 0) (by omega) ⟨?_, rfl, ⟨h2', z_upS _ _ _⟩, rfl⟩
        · rintro a b d e ⟨rfl, rfl, ⟨h3, hd2⟩, rfl⟩ G2
          refine br_pos (nI_le (Nat.le_refl _) (by omega)) (br_zb (fun z => ?_) (fun z => hG _ _ _ ⟨nI_1 i, ⟨h3, ?_⟩, rfl⟩))
          · rw [if_neg z] at hc; exact ⟨hc, P, IVp_q I (eqO_2 o w') h3⟩
          · rw [if_pos z] at hc; exact hc
        · rintro q a b d e hq ⟨rfl, rfl, ⟨h3, hd2⟩, rfl⟩ G2 hG2
          have v2 : Vl P (d 2) := by rw [hd2]; exact it_Vl (vx _) q
          refine br_neg (nI_ge hq (by omega)) (b_quarterGoes ((h3.1 3 (by omega)).trans I.1) v2 (fun mo' y => ?_))
          have hy := QR.eqM v2 y
          have g2 : mo' 2 = itS P (upd (nnS mo) (4 * j + 1) (bnd (nnS mo (4 * j + 1) + nI i))) (q + 1) := by rw [y.1, hd2, itS]
          have go : ∀ r, r = zb (suS P (upd (nnS mo) (4 * j + 1) (bnd (nnS mo (4 * j + 1) + nI i))) j (q + 1) = 0) → G2 r (nI q + 1) mo' e := fun r hr => hG2 _ _ _ _ ⟨hr, nI_1 q, ⟨h3.tr hy, g2⟩, rfl⟩
          refine jn_in (fun J => ∀ r, r = zb (suS P (upd (nnS mo) (4 * j + 1) (bnd (nnS mo (4 * j + 1) + nI i))) j (q + 1) = 0) → J r mo' e) go (fun J hJ => jn_in (fun J2 => suS P (upd (nnS mo) (4 * j + 1) (bnd (nnS mo (4 * j + 1) + nI i))) j (q + 1) = 0 → J2 mo' e) (fun z => hJ 1 (by rw [zb, if_pos z])) (fun J2 hJ2 => ?_))
          refine br_zb (fun z => b_of (x := 1) (by omega) ?_) (fun z => hJ2 (by rw [suS, if_pos z]))
          rw [g2]
          refine br_in (fun z2 => hJ2 (by rw [suS, if_neg z, if_pos z2])) (fun z2 => hJ 0 (by rw [suS, if_neg z, if_neg z2, zb, if_neg n10]))
        · rw [zb, if_neg]; exact n10
    refine lfp2_inv 100 (fun i a b => a = nI i ∧ (∃ w', b = va_up o 2 w') ∧ almS P (nnS mo) j m = alF P (nnS mo) j m (100 - i) i) ?_ ?_ (k := 0) (by omega) ⟨rfl, ⟨o 2, up_22 o⟩, rfl⟩
    · rintro a b ⟨rfl, ⟨w', rfl⟩, hc⟩ G
      refine br_pos (nI_lt (a := 99) (by omega) (by omega)) ?_
      have := md w'; rw [hc] at this; exact this
    · rintro i a b hi ⟨rfl, ⟨w', rfl⟩, hc⟩ G hG
      rw [show 100 - i = (100 - (i + 1)) + 1 by omega, alF] at hc
      simp only [up21]
      refine br_neg (nI_nlt (a := 99) (by omega) (by omega)) (b_become w v (fun w1 hw1 => ⟨z_in (by omega) (by omega), ?_⟩))
      rw [up_tr2, up21, (w.2.2.2.2.2.2.2.1 j hj).2.1]
      refine b_bounded ⟨z_in (by omega) (by omega), ?_⟩
      simp only [z_upS, z_upU]
      refine b_staysUp (WR_ms hw1 hP hj _) (vx _) hj (by omega) (fun w2 => br_in (fun z => hG _ _ ⟨nI_1 i, ⟨w2, rfl⟩, ?_⟩) (fun z => ?_))
      · rw [if_pos z] at hc; exact hc
      · rw [if_neg z] at hc
        have := md w2; rw [hc] at this; exact this
-- how many are ruined
def pkS (x : Int32) : Nat → Int32
  | 0 => 0
  | k + 1 => pkS x k + ((x >>> (nI k &&& 31)) &&& 1)
def jb1 (x : Int32) : Int32 := x - (((x.toUInt32 >>> ((1 : Int32).toUInt32 &&& Int32.toUInt32 31)).toInt32) &&& 1431655765)
def jb2 (x : Int32) : Int32 := (x &&& 858993459) + (((x.toUInt32 >>> ((2 : Int32).toUInt32 &&& Int32.toUInt32 31)).toInt32) &&& 858993459)
def jb3 (x : Int32) : Int32 := (x + ((x.toUInt32 >>> ((4 : Int32).toUInt32 &&& Int32.toUInt32 31)).toInt32)) &&& 252645135
def jb4 (x : Int32) : Int32 := x + ((x.toUInt32 >>> ((8 : Int32).toUInt32 &&& Int32.toUInt32 31)).toInt32)
def jb5 (x : Int32) : Int32 := x + ((x.toUInt32 >>> ((16 : Int32).toUInt32 &&& Int32.toUInt32 31)).toInt32)
theorem jb_pk : ∀ b, b < 32 → jb5 (jb4 (jb3 (jb2 (jb1 (nI b))))) &&& 63 = pkS (nI b) 5 := by decide +kernel
theorem rb_or : ∀ p, p < 5 → ∀ b, b < 32 → nI b ||| ((1 : Int32) <<< (nI p &&& 31)) = nI (b ||| 2 ^ p) ∧ b ||| 2 ^ p < 32 := by decide +kernel
theorem rb_nat {n : S1} : ∀ p, p ≤ 5 → ∃ b, b < 32 ∧ rbS n p = nI b := by
  intro p
  induction p with
  | zero => intro _; exact ⟨0, by omega, rfl⟩
  | succ p ih =>
    intro hp
    obtain ⟨b, hb, e⟩ := ih (by omega)
    rw [rbS]
    split
    · obtain ⟨h1, h2⟩ := rb_or p (by omega) b hb
      exact ⟨b ||| 2 ^ p, h2, by rw [e, h1]⟩
    · exact ⟨b, hb, e⟩
def rcS (P : Nat) (n : S1) : Int32 := pkS (rbS n P) 5
theorem b_ruinedCount {P : Nat} {w : S2} {n : S1} {K : Int32 → S2 → Prop} (h : WR P w n) (hP : P ≤ 5) (k : K (rcS P n) w) : w_X2_ruinedCount w K := by
  unfold w_X2_ruinedCount
  refine b_ruinedBits h hP ?_
  obtain ⟨b, hb, e⟩ := rb_nat (n := n) P hP
  unfold rcS at k
  rw [e] at k ⊢
  rw [← jb_pk b hb] at k
  exact k
theorem b_bitsOf {x : Int32} {K : Int32 → Prop} (k : K (pkS x 5)) : w_X4_bitsOf x K := by
  unfold w_X4_bitsOf
  simp only [nm]
  refine lfp2_inv 5 (fun i a b => a = pkS x i ∧ b = nI i) ?_ ?_ (k := 0) (by omega) ⟨rfl, rfl⟩
  · rintro a b ⟨rfl, rfl⟩ G
    exact br_pos (nI_le (Nat.le_refl 5) (by omega)) k
  · rintro i a b hi ⟨rfl, rfl⟩ G hG
    exact br_neg (nI_ge (b := 5) hi (by omega)) (hG _ _ ⟨rfl, nI_1 i⟩)
theorem b_mruinedBehind {P m : Nat} {mo : S2} {lo : SL} {K : Int32 → S2 → SL → Prop} (e3 : mo 0 3 = nI P) (v : Vl P (mo 2)) (hm : m < 2147483648) (k : ∀ mo', eqM mo mo' → K (rcS P (itS P (mo 2) m)) mo' lo) : w_X4_ruinedBehind (nI m) mo lo K := by
  unfold w_X4_ruinedBehind
  refine b_quartersGo e3 v hm (fun mo' h1 h2 => b_mruined v.1 ((h1.1 3 (by omega)).trans e3) (b_bitsOf ?_))
  rw [h2]; exact k mo' h1
theorem b_ruinedBehind {P m : Nat} {o : S3} {w' : S2} {n : S1} {K : Int32 → S3 → Prop} (w : WR P (o 1) n) (v : Vl P n) (hm : m < 2147483648) (k : ∀ w', K (rcS P (itS P n m)) (va_up o 2 w')) : w_X3_ruinedBehind (nI m) (va_up o 2 w') K := by
  unfold w_X3_ruinedBehind
  simp only [nm, up21]
  refine b_become w v (fun w1 hw1 => ?_)
  rw [up_tr2]
  simp only [z_upS, z_upU]
  exact b_pass hw1 v hm (fun w2 hw2 => b_ruinedCount hw2 v.1 (k w2))
theorem b_ruinedBehind0 {P m : Nat} {o : S3} {n : S1} {K : Int32 → S3 → Prop} (w : WR P (o 1) n) (v : Vl P n) (hm : m < 2147483648) (k : ∀ w', K (rcS P (itS P n m)) (va_up o 2 w')) : w_X3_ruinedBehind (nI m) o K := by
  have q := b_ruinedBehind (w' := o 2) w v hm k
  rw [← up_22 o] at q
  exact q
def swN (n : S1) (p r : Nat) : S1 := upd (upd n (4 * p + 2) (n (4 * r + 2))) (4 * r + 2) (n (4 * p + 2))
theorem b_ruinedBySwap {P m p r : Nat} {o : S3} {w' : S2} {n : S1} {K : Int32 → S3 → Prop} (w : WR P (o 1) n) (v : Vl P n) (hm : m < 2147483648) (hp : p < P) (hr : r < P) (k : ∀ w', K (rcS P (itS P (swN n p r) m)) (va_up o 2 w')) : w_X3_ruinedBySwap (nI p) (nI r) (nI m) (va_up o 2 w') K := by
  have hP := v.1
  unfold w_X3_ruinedBySwap
  simp only [nm, up21]
  rw [z_cl (n := p) (by omega), z_cl (n := r) (by omega)]
  refine b_become w v (fun w1 hw1 => ⟨z_in (by omega) (by omega), z_in (by omega) (by omega), z_in (by omega) (by omega), z_in (by omega) (by omega), ?_⟩)
  rw [up_tr2]
  simp only [z_upS, z_upU, up21]
  rw [(w.2.2.2.2.2.2.2.1 p hp).2.2.1, (w.2.2.2.2.2.2.2.1 r hr).2.2.1]
  have hw2 : WR P (va_up w1 3 (upd (upd (w1 3) p (n (4 * r + 2))) r (n (4 * p + 2)))) (swN n p r) := by
    have := WR_td (WR_td hw1 hP hp (n (4 * r + 2))) hP hr (n (4 * p + 2))
    rw [z_upS, z_upU] at this
    exact this
  exact b_pass hw2 (Vl_safe (Vl_safe v (by omega) _) (by omega) _) hm (fun w3 hw3 => b_ruinedCount hw3 hP (k w3))
noncomputable def swI (P : Nat) (n : S1) (m p : Nat) (s0 : Int32 × Int32) : Nat → Int32 × Int32
  | 0 => s0
  | k + 1 => if (swI P n m p s0 k).2 ≤ rcS P (itS P (swN n p (p + 1 + k)) m) then swI P n m p s0 k else (10 * nI p + nI (p + 1 + k), rcS P (itS P (swN n p (p + 1 + k)) m))
noncomputable def swO (P : Nat) (n : S1) (m : Nat) : Nat → Int32 × Int32
  | 0 => (-4, rcS P (itS P n m))
  | p + 1 => swI P n m p (swO P n m p) (P - (p + 1))
noncomputable def swaS (P : Nat) (n : S1) (m : Nat) (p : Int32) : Int32 := if (swO P n m P).1 = -4 then -4 else if p = 0 then (swO P n m P).1 else (swO P n m P).2
theorem L_swap {P : Nat} {o : S3} {mo : S2} {lo : SL} (I : IVp P o mo) (p1 p2 : Int32) : w_X3_swap p1 p2 o (fun r o' => w_X4_swap p1 p2 mo lo (fun r2 mo' _ => r = r2 ∧ IV o' mo')) := by
  have hP := I.2.1.1.1
  have v := I.nV
  have w := I.nW
  have bad : (¬ (0 ≤ p1 ∧ p1 ≤ 60) ∨ ¬ (0 ≤ p2 ∧ p2 ≤ 1)) → w_X4_swap p1 p2 mo lo (fun r2 mo' _ => (-1 : Int32) = r2 ∧ IV o mo') := by
    intro hb
    unfold w_X4_swap
    refine b_isFar (br_zb (fun _ => ⟨rfl, P, I⟩) (fun h2 => b_isPart (br_zb (fun _ => ⟨rfl, P, I⟩) (fun h3 => ?_))))
    rcases hb with z | z
    · exact absurd h2 z
    · exact absurd h3 z
  unfold w_X3_swap
  refine b_wz (fun hb => br_pos rfl (bad (Or.inl hb))) (fun h1 => br_neg n10 (b_wz (fun hb => br_pos rfl (bad (Or.inr hb))) (fun h2 => br_neg n10 (nm_in ?_))))
  obtain ⟨m, hm, rfl⟩ := r_of (hi := 60) (by omega) h1
  have md : ∀ (r : Int32) (w' : S2), r = swaS P (nnS mo) m p2 → w_X4_swap (nI m) p2 mo lo (fun r2 mo' _ => r = r2 ∧ IV (va_up o 2 w') mo') := by
    intro r w' hr
    have fin : ∀ (r2 : Int32) (mo' : S2), swaS P (nnS mo) m p2 = r2 → eqM mo mo' → r = r2 ∧ IV (va_up o 2 w') mo' := fun r2 mo' h e => ⟨hr.trans h, P, IVp_q I (eqO_2 o w') e⟩
    unfold w_X4_swap
    refine b_isFar (br_zb (fun h => absurd h1 h) (fun _ => b_isPart (br_zb (fun h => absurd h2 h) (fun _ => b_starts ?_))))
    refine b_mruinedBehind (P := P) I.1 (by rw [z_upS]; exact v) (by omega) (fun mo0 h0 => ?_)
    rw [z_upS, show fil (mo 1) (mo 2) 57 = nnS mo from rfl]
    simp only [nm, jn]
    refine lfp5_inv P (fun i a b c d e => a = (swO P (nnS mo) m i).2 ∧ b = (swO P (nnS mo) m i).1 ∧ c = nI i ∧ eqM mo d ∧ e = lo) ?_ ?_ (k := 0) (by omega) ⟨by rw [swO], by rw [swO], rfl, (eqM_starts mo).tr h0, rfl⟩
    · rintro a b c d e ⟨rfl, rfl, rfl, h3, rfl⟩ G
      refine br_pos (by rw [h3.1 3 (by omega), I.1]; exact nI_le (Nat.le_refl _) (by omega)) (br_in (fun q => fin _ _ ?_ h3) (fun q => br_in (fun q2 => fin _ _ ?_ h3) (fun q2 => fin _ _ ?_ h3)))
      · rw [swaS, if_pos q]
      · rw [swaS, if_neg q, if_pos q2]
      · rw [swaS, if_neg q, if_neg q2]
    · rintro i a b c d e hi ⟨rfl, rfl, rfl, h3, rfl⟩ G hG
      refine br_neg (by rw [h3.1 3 (by omega), I.1]; exact nI_ge hi (by omega)) ?_
      refine lfp5_inv (P - (i + 1)) (fun k a b c d' e' => a = (swI P (nnS mo) m i (swO P (nnS mo) m i) k).2 ∧ b = (swI P (nnS mo) m i (swO P (nnS mo) m i) k).1 ∧ c = nI (i + 1 + k) ∧ eqM mo d' ∧ e' = e) ?_ ?_ (k := 0) (by omega) ⟨by rw [swI], by rw [swI], by rw [nI_1, Nat.add_zero], h3, rfl⟩
      · rintro a b c d e ⟨rfl, rfl, rfl, h4, rfl⟩ G2
        exact br_pos (by rw [h4.1 3 (by omega), I.1]; exact nI_le (by omega) (by omega)) (hG _ _ _ _ _ ⟨by rw [swO], by rw [swO], nI_1 i, h4, rfl⟩)
      · rintro k a b c d e hk ⟨rfl, rfl, rfl, h4, rfl⟩ G2 hG2
        refine br_neg (by rw [h4.1 3 (by omega), I.1]; exact nI_ge (by omega) (by omega)) (b_starts (b_of (x := 2) (by omega) (b_of (x := 2) (by omega) (b_becomesOf (x := 2) (by omega) (b_becomesOf (x := 2) (by omega) ?_)))))
        simp only [z_upU, z_upS]
        have en : fil (d 1) (d 2) 57 = nnS mo := h4.nn
        rw [en]
        refine b_mruinedBehind (P := P) ((h4.1 3 (by omega)).trans I.1) (by rw [z_upS]; exact Vl_safe (Vl_safe v (by omega) _) (by omega) _) (by omega) (fun mo' h => ?_)
        rw [z_upS]
        have h5 : eqM mo mo' := (h4.tr (eqM_up2 d _ (fun x hx => by rw [z_upd_ne _ _ (by omega), z_upd_ne _ _ (by omega), ← en]; exact fil_hi _ _ hx))).tr h
        have eS : upd (upd (nnS mo) (4 * i + 2) (nnS mo (4 * (i + 1 + k) + 2))) (4 * (i + 1 + k) + 2) (nnS mo (4 * i + 2)) = swN (nnS mo) i (i + 1 + k) := rfl
        rw [eS]
        refine br_in (fun y => br_pos y ?_) (fun y => br_neg y ?_)
        · exact hG2 _ _ _ _ _ ⟨by rw [swI, if_pos y], by rw [swI, if_pos y], by rw [nI_1, Nat.add_assoc], h5, rfl⟩
        · exact hG2 _ _ _ _ _ ⟨by rw [swI, if_neg y], by rw [swI, if_neg y], by rw [nI_1, Nat.add_assoc], h5, rfl⟩
  refine b_ruinedBehind0 w v (by omega) (fun w0 => ?_)
  refine lfp4_inv P (fun i a b c d => a = (swO P (nnS mo) m i).1 ∧ b = (swO P (nnS mo) m i).2 ∧ c = nI i ∧ ∃ w', d = va_up o 2 w') ?_ ?_ (k := 0) (by omega) ⟨by rw [swO], by rw [swO], rfl, w0, rfl⟩
  · rintro a b c d ⟨rfl, rfl, rfl, w', rfl⟩ G
    refine br_pos (by rw [up21, w.1]; exact nI_le (Nat.le_refl _) (by omega)) (br_in (fun q => md _ _ ?_) (fun q => br_in (fun q2 => md _ _ ?_) (fun q2 => md _ _ ?_)))
    · rw [swaS, if_pos q]; exact q
    · rw [swaS, if_neg q, if_pos q2]
    · rw [swaS, if_neg q, if_neg q2]
  · rintro i a b c d hi ⟨rfl, rfl, rfl, w', rfl⟩ G hG
    refine br_neg (by rw [up21, w.1]; exact nI_ge hi (by omega)) (nm_in ?_)
    refine lfp4_inv (P - (i + 1)) (fun k a b c d' => a = (swI P (nnS mo) m i (swO P (nnS mo) m i) k).1 ∧ b = (swI P (nnS mo) m i (swO P (nnS mo) m i) k).2 ∧ c = nI (i + 1 + k) ∧ ∃ w', d' = va_up o 2 w') ?_ ?_ (k := 0) (by omega) ⟨by rw [swI], by rw [swI], by rw [nI_1, Nat.add_zero], w', rfl⟩
    · rintro a b c d ⟨rfl, rfl, rfl, w', rfl⟩ G2
      exact br_pos (by rw [up21, w.1]; exact nI_le (by omega) (by omega)) (hG _ _ _ _ ⟨by rw [swO], by rw [swO], nI_1 i, w', rfl⟩)
    · rintro k a b c d hk ⟨rfl, rfl, rfl, w', rfl⟩ G2 hG2
      refine br_neg (by rw [up21, w.1]; exact nI_ge (by omega) (by omega)) (b_ruinedBySwap w v (by omega) hi (by omega) (fun w2 => ?_))
      simp only [jn]
      refine br_in (fun y => ?_) (fun y => ?_)
      · exact hG2 _ _ _ _ ⟨by rw [swI, if_pos y], by rw [swI, if_pos y], by rw [nI_1, Nat.add_assoc], w2, rfl⟩
      · exact hG2 _ _ _ _ ⟨by rw [swI, if_neg y], by rw [swI, if_neg y], by rw [nI_1, Nat.add_assoc], w2, rfl⟩
