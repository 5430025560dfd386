theorem lN0 {q : Nat} (h : q < 281474976710656) : lN q = 0 ↔ q = 0 := (pk_lEQ (b := 0) (by omega) (by omega))
theorem b_common : ∀ (q p : Nat) (K : Int64 → Prop), p < 281474976710656 → q < 281474976710656 → K (lN (Nat.gcd p q)) → w_X4_common (lN p) (lN q) K := by
  intro q0 p0 K hp0 hq0 k0
  unfold w_X4_common
  intro G hG
  have main : ∀ q p, p < 281474976710656 → q < 281474976710656 → K (lN (Nat.gcd p q)) → G (lN p) (lN q) := by
    intro q
    induction q using Nat.strongRecOn with
    | ind q ih =>
      intro p hp hq k
      refine hG _ _ ?_
      show br (lg_cmp (lN q) 0 = 0) _ _
      rw [lg_cmp_eq, lN0 hq]
      refine br_in (fun z => ?_) (fun z => ⟨fun y => z y, nm_in ?_⟩)
      · rw [z, Nat.gcd_zero_right] at k; exact k
      · rw [pk_lRem (by omega) (by omega) (by omega)]
        have hm : p % q < q := Nat.mod_lt _ (by omega)
        refine ih (p % q) hm q hq (by omega) ?_
        rw [Nat.gcd_comm, ← Nat.gcd_rec, Nat.gcd_comm]; exact k
  exact main q0 p0 hp0 hq0 k0
theorem b_divisor {p0 q0 : Nat} {K : Int64 → Prop} (hp0 : p0 < 281474976710656) (hq0 : q0 < 281474976710656) (k0 : K (lN (Nat.gcd p0 q0))) : w_X3_commonDivisor (lN p0) (lN q0) K := by
  unfold w_X3_commonDivisor
  intro G hG
  have base : ∀ (p i : Nat), p < 281474976710656 → i ≤ 200 → K (lN p) → G (lN p) (lN 0) (nI i) := by
    intro p i hp hi k
    refine hG _ _ _ (br_in (fun _ => k) (fun _ => br_pos ?_ k))
    rw [lg_cmp_eq]; rfl
  have one : ∀ (p q i : Nat), p < 281474976710656 → q < 281474976710656 → 0 < q → i < 200 → G (lN q) (lN (p % q)) (nI (i + 1)) → G (lN p) (lN q) (nI i) := by
    intro p q i hp hq h0 hi g
    refine hG _ _ _ (br_neg (nI_ge (b := 200) hi (by omega)) (br_neg ?_ ⟨?_, nm_in (nm_in ?_)⟩))
    · rw [lg_cmp_eq, lN0 hq]; omega
    · rw [lN0 hq]; omega
    · rw [pk_lRem (by omega) (by omega) (by omega), nI_1]; exact g
  have main : ∀ (d p q i : Nat), p < 281474976710656 → q < 281474976710656 → q < 2 ^ d → i + 2 * d ≤ 199 → K (lN (Nat.gcd p q)) → G (lN p) (lN q) (nI i) := by
    intro d
    induction d with
    | zero =>
      intro p q i hp hq hd hi k
      have z : q = 0 := by omega
      subst z
      rw [Nat.gcd_zero_right] at k
      exact base p i hp (by omega) k
    | succ d ih =>
      intro p q i hp hq hd hi k
      rcases Nat.eq_zero_or_pos q with z | z
      · subst z
        rw [Nat.gcd_zero_right] at k
        exact base p i hp (by omega) k
      · have hm : p % q < q := Nat.mod_lt _ z
        have k1 : K (lN (Nat.gcd q (p % q))) := by rw [Nat.gcd_comm, ← Nat.gcd_rec, Nat.gcd_comm]; exact k
        refine one p q i hp hq z (by omega) ?_
        rcases Nat.eq_zero_or_pos (p % q) with y | y
        · rw [y] at k1 ⊢
          rw [Nat.gcd_zero_right] at k1
          exact base q (i + 1) hq (by omega) k1
        · have hm2 : q % (p % q) < p % q := Nat.mod_lt _ y
          have half : 2 * (q % (p % q)) < q + 1 := by
            rcases Nat.lt_or_ge (2 * (p % q)) (q + 1) with x | x
            · omega
            · rw [Nat.mod_eq_sub_mod (by omega), Nat.mod_eq_of_lt (by omega)]; omega
          refine one q (p % q) (i + 1) hq (by omega) y (by omega) (ih (p % q) (q % (p % q)) (i + 1 + 1) (by omega) (by omega) (by rw [Nat.pow_succ] at hd; omega) (by omega) ?_)
          rw [Nat.gcd_comm, ← Nat.gcd_rec, Nat.gcd_comm]; exact k1
  exact main 48 p0 q0 0 hp0 hq0 (by omega) (by omega) k0
def frcS (a b : Nat) (p : Int32) : Int64 := if p = 0 then lN a / lN (Nat.gcd a b) else lN b / lN (Nat.gcd a b)
theorem gcd_lt {a b : Nat} (hb : b < 281474976710656) (h0 : 0 < b) : 0 < Nat.gcd a b ∧ Nat.gcd a b < 281474976710656 := ⟨Nat.gcd_pos_of_pos_right _ h0, Nat.lt_of_le_of_lt (Nat.gcd_le_right _ h0) hb⟩
theorem b_ofFraction {a b : Nat} {p : Int32} {K : Int64 → Prop} (ha : a < 281474976710656) (hb : b < 281474976710656) (h0 : 0 < b) (k : K (frcS a b p)) : w_X3_ofFraction (lN a) (lN b) p K := by
  unfold w_X3_ofFraction
  obtain ⟨g0, g1⟩ := gcd_lt (a := a) hb h0
  have nz : ¬ lN (Nat.gcd a b) = 0 := by rw [lN0 g1]; omega
  unfold frcS at k
  refine b_divisor ha hb (br_neg (by rw [lg_cmp_eq]; exact nz) (br_in (fun q => ⟨nz, ?_⟩) (fun q => ⟨nz, ?_⟩)))
  · rw [if_pos q] at k; exact k
  · rw [if_neg q] at k; exact k
theorem b_told {a b : Nat} {p : Int32} {K : Int64 → Prop} (ha : a < 281474976710656) (hb : b < 281474976710656) (h0 : 0 < b) (k : K (frcS a b p)) : w_X4_told (lN a) (lN b) p K := by
  unfold w_X4_told
  obtain ⟨g0, g1⟩ := gcd_lt (a := a) hb h0
  have nz : ¬ lN (Nat.gcd a b) = 0 := by rw [lN0 g1]; omega
  unfold frcS at k
  refine b_common _ _ _ hb ha ?_
  rw [Nat.gcd_comm b a]
  refine br_in (fun q => ⟨nz, ?_⟩) (fun q => ⟨nz, ?_⟩)
  · rw [if_pos q] at k; exact k
  · rw [if_neg q] at k; exact k
noncomputable def shS (P : Nat) (n : S1) (j : Nat) : Nat → Nat
  | 0 => 0
  | k + 1 => if itS P n (k + 1) 22 = nI j then shS P n j k + 1 else shS P n j k
theorem sh_le {P : Nat} {n : S1} {j : Nat} : ∀ k, shS P n j k ≤ k := by
  intro k
  induction k with
  | zero => exact Nat.le_refl _
  | succ k ih => rw [shS]; split <;> omega
theorem L_share {P : Nat} {o : S3} {mo : S2} {lo : SL} (I : IVp P o mo) (p1 p2 p3 : Int32) : w_X3_share p1 p2 p3 o (fun r o' => w_X4_share p1 p2 p3 mo lo (fun r2 mo' _ => r = r2 ∧ IV o' mo')) := by
  have hP := I.2.1.1.1
  have v := I.nV
  have w := I.nW
  have bad : ((∀ j, j < P → p1 ≠ nI j) ∨ ¬ (1 ≤ p2 ∧ p2 ≤ 60) ∨ ¬ (0 ≤ p3 ∧ p3 ≤ 1)) → w_X4_share p1 p2 p3 mo lo (fun r2 mo' _ => (-1 : Int64) = r2 ∧ IV o mo') := by
    intro hb
    unfold w_X4_share
    refine b_oz hP I.1 (fun _ => br_pos rfl ⟨rfl, P, I⟩) (fun j hj ej => br_neg n10 (b_inz (b := 1) (c := 60) (fun _ => br_pos rfl ⟨rfl, P, I⟩) (fun h2 => br_neg n10 (b_isPart (br_zb (fun _ => ⟨rfl, P, I⟩) (fun h3 => ?_))))))
    rcases hb with z | z | z
    · exact absurd ej (z j hj)
    · exact absurd h2 z
    · exact absurd h3 z
  unfold w_X3_share
  refine b_hz hP w.1 (fun hb => nm_in ?_) (fun j hj ej => nm_in ?_)
  · rw [up_self]; exact br_pos rfl (bad (Or.inl hb))
  · rw [up_self]
    refine br_neg n10 (b_wz (fun hb => br_pos rfl (bad (Or.inr (Or.inl hb)))) (fun h2 => br_neg n10 (b_wz (fun hb => br_pos rfl (bad (Or.inr (Or.inr hb)))) (fun h3 => br_neg n10 (b_become w v (fun w1 hw1 => nm_in ?_))))))
    obtain ⟨m, hm1, hm, rfl⟩ := z_of (lo := 1) (hi := 60) h2.1 h2.2 (by omega) (by omega)
    subst ej
    rw [up_tr1]
    have hsm := sh_le (P := P) (n := nnS mo) (j := j) m
    have md : ∀ w' : S2, w_X4_share (nI j) (nI m) p3 mo lo (fun r2 mo' _ => frcS (shS P (nnS mo) j m) m p3 = r2 ∧ IV (va_up o 2 w') mo') := by
      intro w'
      unfold w_X4_share
      refine b_oz hP I.1 (fun h => absurd rfl (h j hj)) (fun _ _ _ => br_neg n10 (b_inz (b := 1) (c := 60) (fun h => absurd h2 h) (fun _ => br_neg n10 (b_isPart (br_zb (fun h => absurd h3 h) (fun _ => b_starts ?_))))))
      rw [tn_22]
      refine lfp4_inv m (fun i a b c d => a = nI (shS P (nnS mo) j i) ∧ b = nI i ∧ (eqM mo c ∧ c 2 = itS P (nnS mo) i) ∧ d = lo) ?_ ?_ (k := 0) (by omega) ⟨rfl, rfl, ⟨eqM_starts mo, z_upS _ _ _⟩, rfl⟩
      · rintro a b c d ⟨rfl, rfl, ⟨h1, hc2⟩, rfl⟩ G
        refine br_pos (nI_le (Nat.le_refl _) (by omega)) ?_
        rw [z_i64 (by omega), z_i64 (by omega)]
        exact b_told (by omega) (by omega) (by omega) ⟨rfl, P, IVp_q I (eqO_2 o w') h1⟩
      · rintro i a b c d hi ⟨rfl, rfl, ⟨h1, hc2⟩, rfl⟩ G hG
        have v2 : Vl P (c 2) := by rw [hc2]; exact it_Vl v i
        refine br_neg (nI_ge hi (by omega)) (b_quarterGoes ((h1.1 3 (by omega)).trans I.1) v2 (fun mo' q => ?_))
        have hq := QR.eqM v2 q
        have g2 : mo' 2 = itS P (nnS mo) (i + 1) := by rw [q.1, hc2, itS]
        rw [g2]
        refine jn_in (fun J => (itS P (nnS mo) (i + 1) 22 = nI j → J 1) ∧ (¬ itS P (nnS mo) (i + 1) 22 = nI j → J 0)) ⟨fun z => b_flag (fun y => absurd y n10) (fun _ => nm_in (nm_in (hG _ _ _ _ ⟨?_, nI_1 i, ⟨h1.tr hq, g2⟩, rfl⟩))), fun z => b_flag (fun _ => nm_in (nm_in (hG _ _ _ _ ⟨?_, nI_1 i, ⟨h1.tr hq, g2⟩, rfl⟩))) (fun y => absurd rfl y)⟩ (fun J hJ => br_in hJ.1 hJ.2)
        · rw [shS, if_pos z]; exact nI_1 _
        · rw [shS, if_neg z, Int32.add_zero]
    refine lfp3_inv m (fun i a b c => a = nI (shS P (nnS mo) j i) ∧ b = nI (i + 1) ∧ ∃ w', c = va_up o 2 w' ∧ WR P w' (itS P (nnS mo) i)) ?_ ?_ (k := 0) (by omega) ⟨rfl, rfl, w1, rfl, hw1⟩
    · rintro a b c ⟨rfl, rfl, w', rfl, hw'⟩ G
      refine br_pos (nI_lt (by omega) (by omega)) ?_
      rw [z_i64 (by omega), z_i64 (by omega)]
      exact b_ofFraction (by omega) (by omega) (by omega) (md w')
    · rintro i a b c hi ⟨rfl, rfl, w', rfl, hw'⟩ G hG
      rw [z_upS]
      refine br_neg (nI_nlt (by omega) (by omega)) (b_step hw' (it_Vl v i) (fun w2 hw2 => nm_in ?_))
      have hw2 : WR P w2 (itS P (nnS mo) (i + 1)) := hw2
      rw [z_upU, z_upS, hw2.2.2.2.1 (by omega)]
      refine jn_in (fun J => J (nI (shS P (nnS mo) j (i + 1)))) (nm_in (hG _ _ _ ⟨rfl, nI_1 (i + 1), w2, rfl, hw2⟩)) (fun J hJ => br_in (fun z => nm_in ?_) (fun z => ?_))
      · rw [shS, if_pos z, ← nI_1] at hJ; exact hJ
      · rw [shS, if_neg z] at hJ; exact hJ
-- by odds
def bitc (y q : Nat) : Prop := ((nI y >>> (nI q &&& 31)) &&& 1) = 1
noncomputable def wtS (v y : Nat) : Nat → Nat
  | 0 => 1
  | q + 1 => by classical exact wtS v y q * (if bitc y q then v else 10 - v)
noncomputable def gwN (P : Nat) (n : S1) (y : Nat) : Nat → S1
  | 0 => n
  | q + 1 => by classical exact stS P (upd (gwN P n y q) 21 (if bitc y q then 9 else n 21))
theorem gw_Vl {P : Nat} {n : S1} (v : Vl P n) (y : Nat) : ∀ q, Vl P (gwN P n y q) := by
  intro q
  induction q with
  | zero => exact v
  | succ q ih => exact st_Vl (Vl_safe ih (by omega) _)
theorem wt_le {v y : Nat} (hv : v ≤ 10) : ∀ q, wtS v y q ≤ 10 ^ q := by
  intro q
  induction q with
  | zero => exact Nat.le_refl _
  | succ q ih =>
    rw [wtS, Nat.pow_succ]
    refine Nat.mul_le_mul ih ?_
    split <;> omega
/-- what counts of a way: 1 if the coin is with j, or his means -/
noncomputable def vlS (P : Nat) (n : S1) (j m : Nat) (ms : Bool) (y : Nat) : Nat := by classical exact if ms then (gwN P n y m (4 * j + 1)).toNatClampNeg else if gwN P n y m 22 = nI j then 1 else 0
noncomputable def suO (P : Nat) (n : S1) (j m v : Nat) (ms : Bool) : Nat → Nat
  | 0 => 0
  | y + 1 => suO P n j m v ms y + wtS v y m * vlS P n j m ms y
theorem vl_le {P : Nat} {n : S1} (vv : Vl P n) {j m : Nat} (hj : j < P) (ms : Bool) (y : Nat) : vlS P n j m ms y ≤ 999 := by
  unfold vlS
  split
  · obtain ⟨h1, h2⟩ := (gw_Vl vv y m).2.2.2.2.2 j hj
    obtain ⟨t, -, ht, et⟩ := z_of h1 h2 (by omega) (by omega)
    rw [et, z_cl (by omega)]; exact ht
  · split <;> omega
theorem su_le {P : Nat} {n : S1} (vv : Vl P n) {j m v : Nat} (hj : j < P) (hm : m ≤ 8) (hv : v ≤ 10) (ms : Bool) : ∀ y, suO P n j m v ms y ≤ y * 99900000000 := by
  intro y
  induction y with
  | zero => exact Nat.le_refl _
  | succ y ih =>
    rw [suO]
    have h1 := wt_le (v := v) (y := y) hv m
    have h2 : 10 ^ m ≤ 10 ^ 8 := Nat.pow_le_pow_right (by omega) hm
    have h3 := vl_le vv hj ms y (m := m)
    have h4 : wtS v y m * vlS P n j m ms y ≤ 100000000 * 999 := Nat.mul_le_mul (by omega) h3
    omega
theorem p2m : ∀ m, m ≤ 8 → (1 : Int32) <<< (nI m &&& 31) = nI (2 ^ m) ∧ 2 ^ m ≤ 256 := by decide
theorem ten_sub {v : Nat} (h : v ≤ 10) : (10 : Int32) - nI v = nI (10 - v) := pk_sub (a := 10) h
theorem b_weight {v y m : Nat} {K : Int64 → Prop} (hv : v ≤ 10) (hm : m ≤ 8) (k : K (lN (wtS v y m))) : w_X3_weightOfWay (nI y) (nI v) (nI m) K := by
  unfold w_X3_weightOfWay
  refine lfp2_inv m (fun q a b => a = lN (wtS v y q) ∧ b = nI q) ?_ ?_ (k := 0) (by omega) ⟨rfl, rfl⟩
  · rintro a b ⟨rfl, rfl⟩ G
    exact br_pos (nI_le (Nat.le_refl _) (by omega)) k
  · rintro q a b hq ⟨rfl, rfl⟩ G hG
    rw [ten_sub hv, z_i64 (by omega), z_i64 (by omega)]
    refine br_neg (nI_ge hq (by omega)) (jn_in (fun J => (bitc y q → J (lN v)) ∧ (¬ bitc y q → J (lN (10 - v)))) ⟨fun z => nm_in (nm_in (hG _ _ ⟨?_, nI_1 q⟩)), fun z => nm_in (nm_in (hG _ _ ⟨?_, nI_1 q⟩))⟩ (fun J hJ => br_in hJ.1 hJ.2))
    · rw [lN_mul, wtS, if_pos z]
    · rw [lN_mul, wtS, if_neg z]
theorem b_goWay {P y m : Nat} {o : S3} {w' : S2} {n : S1} {K : S3 → Prop} (w : WR P (o 1) n) (v : Vl P n) (hm : m ≤ 8) (k : ∀ w2, WR P w2 (gwN P n y m) → K (va_up o 2 w2)) : w_X3_goWay (nI y) (nI m) (va_up o 2 w') K := by
  have hP := v.1
  unfold w_X3_goWay
  rw [up21]
  refine b_become w v (fun w1 hw1 => nm_in ?_)
  rw [up_tr2]
  refine lfp2_inv m (fun q a b => a = nI q ∧ ∃ w2, b = va_up o 2 w2 ∧ WR P w2 (gwN P n y q)) ?_ ?_ (k := 0) (by omega) ⟨rfl, w1, rfl, hw1⟩
  · rintro a b ⟨rfl, w2, rfl, hw2⟩ G
    exact br_pos (nI_le (Nat.le_refl _) (by omega)) (k w2 hw2)
  · rintro q a b hq ⟨rfl, w2, rfl, hw2⟩ G hG
    have go : ∀ x : Int32, stS P (upd (gwN P n y q) 21 x) = gwN P n y (q + 1) → nm (va_up (va_up o 2 w2) 2 (va_up ((va_up o 2 w2) 2) 0 (upd ((va_up o 2 w2) 2 0) 2 x))) (fun o9 => w_X2_step (o9 2) (fun r11 w10 => nm (va_up o9 2 w10) (fun o13 => nm (nI q + 1) (fun x14 => G x14 o13)))) := by
      intro x hx
      refine nm_in ?_
      rw [z_upU, z_upS, z_upS]
      refine b_step (WR_sl hw2 hP x) (Vl_safe (gw_Vl v y q) (by omega) _) (fun w3 hw3 => nm_in (nm_in ?_))
      rw [z_upU]
      rw [hx] at hw3
      exact hG _ _ ⟨nI_1 q, w3, rfl, hw3⟩
    refine br_neg (nI_ge hq (by omega)) (jn_in (fun J => (bitc y q → J 9) ∧ (¬ bitc y q → J (n 21))) ⟨fun z => go _ ?_, fun z => go _ ?_⟩ (fun J hJ => br_in hJ.1 (fun z => ?_)))
    · rw [gwN, if_pos z]
    · rw [gwN, if_neg z]
    · rw [up21, w.2.2.1]; exact hJ.2 z
theorem bad_odds {P : Nat} {mo : S2} {lo : SL} {p1 p2 p3 p4 : Int32} {K : Int32 → S2 → SL → Prop} (hP : P ≤ 5) (e3 : mo 0 3 = nI P) (hb : ¬ ((0 ≤ p1 ∧ p1 ≤ 10) ∧ (∃ j, j < P ∧ p2 = nI j) ∧ (0 ≤ p3 ∧ p3 ≤ 8) ∧ (0 ≤ p4 ∧ p4 ≤ 1))) (k : K 0 mo lo) : w_X4_isOdds p1 p2 p3 p4 mo lo K := by
  unfold w_X4_isOdds
  exact b_inz (b := 0) (c := 10) (fun _ => br_pos rfl k) (fun h1 => br_neg n10 (b_oz hP e3 (fun _ => br_pos rfl k) (fun j hj ej => br_neg n10 (b_inz (b := 0) (c := 8) (fun _ => br_pos rfl k) (fun h3 => br_neg n10 (b_isPart (br_zb (fun _ => k) (fun h4 => absurd ⟨h1, ⟨j, hj, ej⟩, h3, h4⟩ hb))))))))
theorem ok_odds {P : Nat} {mo : S2} {lo : SL} {p1 p2 p3 p4 : Int32} {K : Int32 → S2 → SL → Prop} (hP : P ≤ 5) (e3 : mo 0 3 = nI P) (hb : (0 ≤ p1 ∧ p1 ≤ 10) ∧ (∃ j, j < P ∧ p2 = nI j) ∧ (0 ≤ p3 ∧ p3 ≤ 8) ∧ (0 ≤ p4 ∧ p4 ≤ 1)) (k : K 1 mo lo) : w_X4_isOdds p1 p2 p3 p4 mo lo K := by
  obtain ⟨h1, ⟨j, hj, ej⟩, h3, h4⟩ := hb
  unfold w_X4_isOdds
  exact b_inz (b := 0) (c := 10) (fun h => absurd h1 h) (fun _ => br_neg n10 (b_oz hP e3 (fun h => absurd ej (h j hj)) (fun _ _ _ => br_neg n10 (b_inz (b := 0) (c := 8) (fun h => absurd h3 h) (fun _ => br_neg n10 (b_isPart (br_zb (fun h => absurd h4 h) (fun _ => k))))))))
