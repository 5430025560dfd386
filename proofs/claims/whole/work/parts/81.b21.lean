def rbd (P : Nat) (n : S1) (x y : Int32) : Prop := n 20 = 999 ∨ ¬ (∃ j, j < P ∧ x = nI j) ∨ ¬ (0 ≤ y ∧ y ≤ 999)
noncomputable def rst (P : Nat) (n : S1) (x y : Int32) : S1 := stS P (upd n (4 * x.toNatClampNeg + 1) y)
/-- what becomes of the cells that are read -/
def rdR (P : Nat) (ft x y : Nat → Int32) (m : Nat) : Nat → S1 → Int32 → Option (Int32 × S1) → Prop
  | 0, n, r, e => r = nI m ∧ e = some (0, n)
  | k + 1, n, r, e => (¬ ft (m - (k + 1)) = 0 ∧ r = nI (m - (k + 1)) ∧ e = some (ft (m - (k + 1)), n)) ∨ (ft (m - (k + 1)) = 0 ∧ rbd P n (x (m - (k + 1))) (y (m - (k + 1))) ∧ r = -20 - nI (m - (k + 1)) ∧ e = none) ∨ (ft (m - (k + 1)) = 0 ∧ ¬ rbd P n (x (m - (k + 1))) (y (m - (k + 1))) ∧ rdR P ft x y m k (rst P n (x (m - (k + 1))) (y (m - (k + 1)))) r e)
theorem ms_m1 {P j : Nat} {n : S1} (v : Vl P n) (hj : j < P) : ¬ n (4 * j + 1) = -1 := fun e => by
  have := (v.2.2.2.2.2 j hj).1
  rw [e] at this
  exact absurd this (by decide)
theorem cl_takeMeans {P : Nat} {o : S3} {n : S1} {x y : Int32} {K : Int32 → S3 → Prop} (w : WR P (o 1) n) (v : Vl P n) (h20 : nI 0 ≤ n 20 ∧ n 20 ≤ nI 999) (kb : rbd P n x y → ∀ w', K 0 (va_up o 1 w')) (kg : ¬ rbd P n x y → ∀ w', WR P w' (rst P n x y) → K 1 (va_up o 1 w')) : w_X3_takeMeans x y o K := by
  have hP := v.1
  have kb0 : rbd P n x y → K 0 o := fun h => by have := kb h (o 1); rw [up_self] at this; exact this
  unfold w_X3_takeMeans
  rw [show o 1 0 1 = n 20 from w.2.1]
  refine br_in (fun q => kb0 (Or.inl ?_)) (fun q => ?_)
  · have h2 := h20.2
    rw [z_le] at h2 q
    rw [z_eq]
    have : (999 : Int32).toInt = (nI 999).toInt := rfl
    omega
  · unfold w_X3_alter
    refine b_hz hP w.1 (fun hb => nm_in ?_) (fun j hj ej => nm_in ?_)
    · rw [up_self]
      exact br_pos rfl (br_pos rfl (kb0 (Or.inr (Or.inl (fun ⟨j, hj, ej⟩ => hb j hj ej)))))
    · rw [up_self]
      subst ej
      refine br_neg n10 (br_neg (by decide) (br_pos rfl (b_exchange (hi := 999) (by omega) (fun h => nm_in ?_) (fun h => nm_in ?_))))
      · rw [up_self, up_self]
        exact br_pos rfl (kb0 (Or.inr (Or.inr h)))
      · obtain ⟨a, b, c, d⟩ := w.2.2.2.2.2.2.2.1 j hj
        refine br_neg (by rw [b]; exact ms_m1 v hj) ?_
        rw [z_upS]
        refine b_step (WR_ms w hP hj _) (Vl_ms v (by omega) h) (fun w' hw' => nm_in ?_)
        rw [z_upU]
        refine kg ?_ w' ?_
        · rintro (z | z | z)
          · rw [z] at q; exact q (by decide)
          · exact z ⟨j, hj, rfl⟩
          · exact z h
        · rw [rst, z_cl (by omega)]; exact hw'
theorem rst_Vl {P : Nat} {n : S1} {x y : Int32} (v : Vl P n) (h20 : nI 0 ≤ n 20 ∧ n 20 ≤ nI 999) (h : ¬ rbd P n x y) : Vl P (rst P n x y) ∧ nI 0 ≤ rst P n x y 20 ∧ rst P n x y 20 ≤ nI 999 := by
  have hP := v.1
  have h1 : ¬ n 20 = 999 := fun z => h (Or.inl z)
  have h2 : ∃ j, j < P ∧ x = nI j := Classical.byContradiction (fun z => h (Or.inr (Or.inl z)))
  have h3 : 0 ≤ y ∧ y ≤ 999 := Classical.byContradiction (fun z => h (Or.inr (Or.inr z)))
  obtain ⟨j, hj, rfl⟩ := h2
  unfold rst
  rw [z_cl (by omega)]
  have v2 := Vl_ms v (p := j) (by omega) h3
  refine ⟨it_Vl v2 1, ?_⟩
  rw [st_20 v2, z_upd_ne _ _ (by omega)]
  obtain ⟨Q, -, hQ, eQ⟩ := z_of (lo := 0) (hi := 999) h20.1 h20.2 (by omega) (by omega)
  rw [eQ, nI_1]
  have : Q ≠ 999 := fun z => h1 (by rw [eQ, z]; rfl)
  exact ⟨nI_le (by omega) (by omega), nI_le (by omega) (by omega)⟩
theorem cl_read {P k a m : Nat} {o : S3} {n : S1} {p3 : Int32} {K : Int32 → S3 → Prop} (w : WR P (o 1) n) (v : Vl P n) (h20 : nI 0 ≤ n 20 ∧ n 20 ≤ nI 999) (hk : k ≤ 3) (ha : a ≤ 2) (hm : m ≤ 20) (hz : o (7 + k) 0 0 = -1 ∨ ∃ z, z ≤ 40 ∧ o (7 + k) 0 1 = nI z) (ks : ∀ r t n', rdR P (fun i => fpS (o (7 + k) 0 0) (o (7 + k) 0 1) (nI a) (p3 + 2 * nI i)) (fun i => o (7 + k) 1 (p3 + 2 * nI i).toNatClampNeg) (fun i => o (7 + k) 1 (p3 + 2 * nI i + 1).toNatClampNeg) m m n r (some (t, n')) → ∀ b w', WR P w' n' → K r (va_up (va_up (va_up o 3 b) 1 w') 0 (va_up (o 0) 0 (upd (o 0 0) 7 t)))) (kf : ∀ r, rdR P (fun i => fpS (o (7 + k) 0 0) (o (7 + k) 0 1) (nI a) (p3 + 2 * nI i)) (fun i => o (7 + k) 1 (p3 + 2 * nI i).toNatClampNeg) (fun i => o (7 + k) 1 (p3 + 2 * nI i + 1).toNatClampNeg) m m n r none → ∀ b w', WR P w' n → K r (va_up (va_up o 3 b) 1 w')) : w_X3_read (nI k) (nI a) p3 (nI m) o K := by
  have gk : gi 7 (nI k) = 7 + k := by unfold gi; rw [z_cl (by omega)]
  unfold w_X3_read
  rw [gk]
  refine b_wz (fun h => absurd ⟨nI_pos' (by omega), nI_le (b := 3) hk (by omega)⟩ h) (fun _ => br_neg n10 (b_wz (fun h => absurd ⟨nI_pos' (by omega), nI_le (b := 2) ha (by omega)⟩ h) (fun _ => br_neg n10 (b_wz (fun h => absurd ⟨nI_pos' (by omega), nI_le (b := 20) hm (by omega)⟩ h) (fun _ => br_neg n10 (b_become w v (fun b hb => nm_in ⟨z_in (by omega) (by omega), ?_⟩)))))))
  intro G hG
  generalize eft : (fun i : Nat => fpS (o (7 + k) 0 0) (o (7 + k) 0 1) (nI a) (p3 + 2 * nI i)) = ft at ks kf
  generalize ex : (fun i : Nat => o (7 + k) 1 (p3 + 2 * nI i).toNatClampNeg) = x at ks kf
  generalize ey : (fun i : Nat => o (7 + k) 1 (p3 + 2 * nI i + 1).toNatClampNeg) = y at ks kf
  have main : ∀ kk i n1 w1, i + kk = m → WR P w1 n1 → Vl P n1 → nI 0 ≤ n1 20 ∧ n1 20 ≤ nI 999 → (∀ r t n', rdR P ft x y m kk n1 r (some (t, n')) → ∀ b w', WR P w' n' → K r (va_up (va_up (va_up o 3 b) 1 w') 0 (va_up (o 0) 0 (upd (o 0 0) 7 t)))) → (∀ r, rdR P ft x y m kk n1 r none → ∀ b w', WR P w' n → K r (va_up (va_up o 3 b) 1 w')) → G (nI i) 0 (nI i) (va_up (va_up o 3 b) 1 w1) := by
    intro kk
    induction kk with
    | zero =>
      intro i n1 w1 hi hw1 v1 r1 ks kf
      refine hG _ _ _ _ (jn_in (fun J => J ()) (nm_in ?_) (fun J hJ => br_pos (nI_le (by omega) (by omega)) hJ))
      have := ks (nI m) 0 n1 ⟨rfl, rfl⟩ b w1 hw1
      rw [show i = m by omega]
      exact this
    | succ kk ih =>
      intro i n1 w1 hi hw1 v1 r1 ks kf
      have mi : m - (kk + 1) = i := by omega
      unfold rdR at ks kf
      rw [mi] at ks kf
      have s1 : (va_up (va_up o 3 b) 1 w1) (7 + k) = o (7 + k) := by rw [z_upN _ _ (by omega), z_upN _ _ (by omega)]
      have fti : fpS (o (7 + k) 0 0) (o (7 + k) 0 1) (nI a) (p3 + 2 * nI i) = ft i := by rw [← eft]
      have xi : o (7 + k) 1 (p3 + 2 * nI i).toNatClampNeg = x i := by rw [← ex]
      have yi : o (7 + k) 1 (p3 + 2 * nI i + 1).toNatClampNeg = y i := by rw [← ey]
      refine hG _ _ _ _ (jn_in (fun _ => True) trivial (fun J _ => br_neg (nI_ge (by omega) (by omega)) (br_pos rfl (nm_in (b_faultOfPair (nm_in ?_))))))
      rw [up_self, s1, fti]
      refine jn_in (fun J => (¬ ft i = 0 → J (nI i) (va_up (va_up o 3 b) 1 w1)) ∧ (ft i = 0 → ¬ rbd P n1 (x i) (y i) → ∀ w', WR P w' (rst P n1 (x i) (y i)) → J (nI (i + 1)) (va_up (va_up o 3 b) 1 w'))) ⟨fun q => nm_in ?_, fun q q2 w' hw' => nm_in ?_⟩ (fun J hJ => ?_)
      · have kx := ks (nI i) (ft i) n1 (Or.inl ⟨q, rfl, rfl⟩) b w1 hw1
        exact hG _ _ _ _ (jn_in (fun J => J ()) (nm_in kx) (fun J hJ => br_in (fun _ => hJ) (fun _ => br_neg q hJ)))
      · rw [q, nI_1]
        obtain ⟨v2, r2⟩ := rst_Vl v1 r1 q2
        exact ih (i + 1) _ w' (by omega) hw' v2 r2 (fun r t n' h => ks r t n' (Or.inr (Or.inr ⟨q, q2, h⟩))) (fun r h => kf r (Or.inr (Or.inr ⟨q, q2, h⟩)))
      · refine br_in (fun q => ?_) (fun q => hJ.1 q)
        have f0 : ¬ o (7 + k) 0 0 = -1 := fun z => by
          rw [← fti, fpS, if_pos z] at q
          exact absurd q (by decide)
        obtain ⟨z, z40, ez⟩ := hz.resolve_left f0
        have fq := fti.trans q
        rw [ez] at fq
        obtain ⟨t, ht, et⟩ := fp_at z40 (by omega) fq
        rw [xi, yi]
        refine ⟨by rw [et]; exact z_in (by omega) (by omega), by rw [et, nI_1]; exact z_in (by omega) (by omega), ?_⟩
        refine cl_takeMeans (n := n1) (by rw [z_upS]; exact hw1) v1 r1 (fun bad w' => br_pos rfl ?_) (fun good w' hw' => br_neg n10 (nm_in ?_))
        · rw [z_upU, z_upS]
          have e3 : (va_up (va_up o 3 b) 1 w') 3 = b := by rw [z_upN _ _ (by omega), z_upS]
          rw [e3]
          refine b_become hb v (fun w2 hw2 => nm_in ?_)
          have kx := kf (-20 - nI i) (Or.inr (Or.inl ⟨q, bad, rfl, rfl⟩)) b w2 hw2
          rw [z_upU]
          have e4 : va_up (va_up (va_up o 3 b) 1 w2) 3 b = va_up (va_up o 3 b) 1 w2 := by
            have := up_self (va_up (va_up o 3 b) 1 w2) 3
            rw [z_upN _ _ (by omega), z_upS] at this
            exact this
          rw [e4]
          exact kx
        · rw [z_upU, nI_1]
          exact hJ.2 q good w' hw'
  exact main m 0 n (o 1) (by omega) w v h20 ks kf
