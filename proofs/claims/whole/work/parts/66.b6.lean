def IW (P : Nat) (w : S2) (f : S1) : Prop := Vl P f ∧ WR P w f ∧ nI 0 ≤ f 20 ∧ f 20 ≤ nI 999
def IT (t : S2) (mo : S2) : Prop := ∃ L, L ≤ 160 ∧ t 0 1 = nI L ∧ mo 0 10 = nI L ∧ ∀ j, j < L → ∃ c, c < 128 ∧ t 1 j = nI c ∧ mo 5 j = nI c
def IS1 (s : S2) (mo : S2) (k : Nat) : Prop := ((s 0 0 = -1 ∧ mo 9 k = -4) ∨ ∃ a z, a ≤ 2 ∧ z ≤ 40 ∧ s 0 0 = nI a ∧ mo 9 k = nI a ∧ s 0 1 = nI z ∧ mo 10 k = nI z) ∧ ∀ i, i < 40 → s 1 i = mo 11 (40 * k + i)
/-- the class and the reference are alike -/
def IVp (P : Nat) (o : S3) (mo : S2) : Prop := mo 0 3 = nI P ∧ IW P (o 1) (mo 1) ∧ (∀ k, k < 2 → o 0 2 k = mo 3 k ∧ (mo 3 k = 0 ∨ (mo 3 k = 1 ∧ IW P (o (4 + k)) (fun j => mo 1 (57 * (k + 1) + j))))) ∧ IT (o 6) mo ∧ o 6 0 2 = mo 0 15 ∧ o 0 0 7 = mo 0 27 ∧ (∀ k, k < 4 → IS1 (o (7 + k)) mo k)
def IV (o : S3) (mo : S2) : Prop := ∃ P, IVp P o mo
def eqO (o o' : S3) : Prop := (∀ g, g ≠ 0 → g ≠ 2 → g ≠ 3 → o' g = o g) ∧ o' 0 2 = o 0 2 ∧ o' 0 0 7 = o 0 0 7
theorem eqO.rf (o : S3) : eqO o o := ⟨fun _ _ _ _ => rfl, rfl, rfl⟩
theorem eqO.tr {a b c : S3} (h1 : eqO a b) (h2 : eqO b c) : eqO a c := ⟨fun g x y z => (h2.1 g x y z).trans (h1.1 g x y z), h2.2.1.trans h1.2.1, h2.2.2.trans h1.2.2⟩
theorem eqO_2 (o : S3) (w : S2) : eqO o (va_up o 2 w) := ⟨fun g _ h _ => z_upN _ _ h, rfl, rfl⟩
theorem IVp_q {P : Nat} {o o' : S3} {mo mo' : S2} (I : IVp P o mo) (ho : eqO o o') (hm : eqM mo mo') : IVp P o' mo' := by
  obtain ⟨h0, h1, h2, h3, h4, h5, h6⟩ := I
  refine ⟨(hm.1 3 (by omega)).trans h0, ?_, ?_, ?_, ?_, ?_, ?_⟩
  · rw [ho.1 1 (by omega) (by omega) (by omega), hm.2.1 1 (by omega)]; exact h1
  · intro k hk; rw [ho.2.1, hm.2.1 3 (by omega), ho.1 (4 + k) (by omega) (by omega) (by omega), hm.2.1 1 (by omega)]; exact h2 k hk
  · unfold IT; rw [ho.1 6 (by omega) (by omega) (by omega), hm.1 10 (by omega), hm.2.1 5 (by omega)]; exact h3
  · rw [ho.1 6 (by omega) (by omega) (by omega), hm.1 15 (by omega)]; exact h4
  · rw [ho.2.2, hm.1 27 (by omega)]; exact h5
  · intro k hk; unfold IS1; rw [ho.1 (7 + k) (by omega) (by omega) (by omega), hm.2.1 9 (by omega), hm.2.1 10 (by omega), hm.2.1 11 (by omega)]; exact h6 k hk
theorem IVp_now {P : Nat} {o : S3} {mo mo' : S2} (I : IVp P o mo) {w' : S2} {f' : S1} (hI : IW P w' f') (hf : ∀ j, 57 ≤ j → f' j = mo 1 j) (e1 : mo' 1 = f') (e0 : ∀ k, k = 3 ∨ k = 10 ∨ k = 15 ∨ k = 27 → mo' 0 k = mo 0 k) (ec : ∀ c, c = 3 ∨ c = 5 ∨ c = 9 ∨ c = 10 ∨ c = 11 → mo' c = mo c) : IVp P (va_up o 1 w') mo' := by
  obtain ⟨h0, h1, h2, h3, h4, h5, h6⟩ := I
  refine ⟨(e0 3 (by omega)).trans h0, ?_, ?_, ?_, ?_, ?_, ?_⟩
  · rw [z_upS, e1]; exact hI
  · intro k hk
    rw [z_upN _ _ (by decide), ec 3 (by omega), z_upN _ _ (by omega), e1, show (fun j => f' (57 * (k + 1) + j)) = (fun j => mo 1 (57 * (k + 1) + j)) from funext (fun j => hf _ (by omega))]
    exact h2 k hk
  · unfold IT; rw [z_upN _ _ (by decide), e0 10 (by omega), ec 5 (by omega)]; exact h3
  · rw [z_upN _ _ (by decide), e0 15 (by omega)]; exact h4
  · rw [z_upN _ _ (by decide), e0 27 (by omega)]; exact h5
  · intro k hk; unfold IS1; rw [z_upN _ _ (by omega), ec 9 (by omega), ec 10 (by omega), ec 11 (by omega)]; exact h6 k hk
theorem IVp.nV {P : Nat} {o : S3} {mo : S2} (I : IVp P o mo) : Vl P (nnS mo) := Vl_cong (fun _ h => fil_lo _ _ h) I.2.1.1
theorem IVp.nW {P : Nat} {o : S3} {mo : S2} (I : IVp P o mo) : WR P (o 1) (nnS mo) := by
  obtain ⟨hP, -, -, ⟨g, g4, hg, -⟩, ⟨s, s6, hs, -⟩, -⟩ := I.2.1.1
  exact WR_cong hP ⟨g, g4, hg⟩ ⟨s, s6, hs⟩ (fun _ h => fil_lo _ _ h) I.2.1.2.1
theorem br_zb {c A B : Prop} [Decidable c] (h0 : ¬ c → A) (h1 : c → B) : br (zb c = 0) A B := br_in (fun q => h0 (zb_0.mp q)) (fun q => h1 (zb_n0.mp q))
theorem one_of {P : Nat} {a : Int32} (hP : P ≤ 5) (h : 0 ≤ a ∧ a ≤ nI P - 1) : ∃ j, j < P ∧ a = nI j := by
  cases P with
  | zero =>
    exfalso
    have h1 := h.1; have h2 := h.2
    rw [z_le] at h1 h2
    rw [show (nI 0 - 1).toInt = -1 by decide] at h2
    rw [show (0 : Int32).toInt = 0 by decide] at h1
    omega
  | succ q =>
    rw [nI_pred] at h
    obtain ⟨j, -, h2, e⟩ := z_of (lo := 0) (hi := q) h.1 h.2 (by omega) (by omega)
    exact ⟨j, by omega, e⟩
theorem one_to {P j : Nat} (hP : P ≤ 5) (h : j < P) : 0 ≤ nI j ∧ nI j ≤ nI P - 1 := by
  cases P with
  | zero => omega
  | succ q => rw [nI_pred]; exact ⟨nI_pos' (by omega), nI_le (by omega) (by omega)⟩
theorem r_of {a : Int32} {hi : Nat} (hh : hi < 2147483648) (h : 0 ≤ a ∧ a ≤ nI hi) : ∃ j, j ≤ hi ∧ a = nI j := by
  obtain ⟨j, -, h2, e⟩ := z_of (lo := 0) (hi := hi) h.1 h.2 hh (by omega)
  exact ⟨j, h2, e⟩
/-- the reference's numbers as they are, but for the row st -/
theorem eqM_1 {P : Nat} {o : S3} {mo : S2} (I : IVp P o mo) {w' : S2} {f' : S1} (hI : IW P w' f') (hf : ∀ j, 57 ≤ j → f' j = mo 1 j) : IVp P (va_up o 1 w') (va_up mo 1 f') := IVp_now I hI hf (z_upS _ _ _) (fun _ _ => rfl) (fun c h => z_upN _ _ (by omega))
theorem b_inz {a b c : Int32} {K : Int32 → Prop} (h0 : ¬ (b ≤ a ∧ a ≤ c) → K 0) (h1 : b ≤ a ∧ a ≤ c → K 1) : w_X4_in a.toInt64 b.toInt64 c.toInt64 K := by
  refine b_in ?_
  by_cases q : b ≤ a ∧ a ≤ c
  · rw [zb, if_pos q]; exact h1 q
  · rw [zb, if_neg q]; exact h0 q
theorem b_wz {a b c : Int32} {K : Int32 → Prop} (h0 : ¬ (b ≤ a ∧ a ≤ c) → K 0) (h1 : b ≤ a ∧ a ≤ c → K 1) : w_X3_within a b c K := by
  refine b_within ?_
  by_cases q : b ≤ a ∧ a ≤ c
  · rw [zb, if_pos q]; exact h1 q
  · rw [zb, if_neg q]; exact h0 q
theorem b_hz {P : Nat} {a : Int32} {w : S2} {K : Int32 → S2 → Prop} (hP : P ≤ 5) (e : w 0 0 = nI P) (h0 : (∀ j, j < P → a ≠ nI j) → K 0 w) (h1 : ∀ j, j < P → a = nI j → K 1 w) : w_X2_has a w K := by
  refine b_has ?_
  rw [e]
  by_cases q : 0 ≤ a ∧ a ≤ nI P - 1
  · obtain ⟨j, hj, ej⟩ := one_of hP q
    rw [zb, if_pos q]; exact h1 j hj ej
  · rw [zb, if_neg q]; exact h0 (fun j hj ej => q (by rw [ej]; exact one_to hP hj))
theorem b_oz {P : Nat} {a : Int32} {mo : S2} {lo : SL} {K : Int32 → S2 → SL → Prop} (hP : P ≤ 5) (e : mo 0 3 = nI P) (h0 : (∀ j, j < P → a ≠ nI j) → K 0 mo lo) (h1 : ∀ j, j < P → a = nI j → K 1 mo lo) : w_X4_isOne a mo lo K := by
  refine b_isOne ?_
  rw [e]
  by_cases q : 0 ≤ a ∧ a ≤ nI P - 1
  · obtain ⟨j, hj, ej⟩ := one_of hP q
    rw [zb, if_pos q]; exact h1 j hj ej
  · rw [zb, if_neg q]; exact h0 (fun j hj ej => q (by rw [ej]; exact one_to hP hj))
theorem n10 : ¬ (1 : Int32) = 0 := by decide
-- rows that change one number
theorem Vl_safe {P : Nat} {n : S1} (v : Vl P n) {j : Nat} (hj : j < 22 ∧ (j % 4 ≠ 1 ∨ j = 21)) (x : Int32) : Vl P (upd n j x) := by
  obtain ⟨hP, h1, h2, ⟨g, g4, hg, hgi⟩, ⟨s, s6, hs, hsi⟩, h5⟩ := v
  have e : ∀ i, i ≠ j → upd n j x i = n i := fun i hi => z_upd_ne _ _ hi
  refine ⟨hP, fun q => (e _ (by omega)).trans (h1 q), fun q => ?_, ⟨g, g4, (e _ (by omega)).trans hg, fun i hi => ?_⟩, ⟨s, s6, (e _ (by omega)).trans hs, fun i hi => ?_⟩, fun p hp => ?_⟩
  · rw [e _ (by omega)]; exact h2 q
  · rw [e _ (by omega), e _ (by omega)]; exact hgi i hi
  · rw [e _ (by omega)]; exact hsi i hi
  · rw [e _ (by omega)]; exact h5 p hp
theorem Vl_ms {P : Nat} {n : S1} (v : Vl P n) {p : Nat} (hp : p < 5) {x : Int32} (hx : nI 0 ≤ x ∧ x ≤ nI 999) : Vl P (upd n (4 * p + 1) x) := by
  obtain ⟨hP, h1, h2, ⟨g, g4, hg, hgi⟩, ⟨s, s6, hs, hsi⟩, h5⟩ := v
  have e : ∀ i, i ≠ 4 * p + 1 → upd n (4 * p + 1) x i = n i := fun i hi => z_upd_ne _ _ hi
  refine ⟨hP, fun q => (e _ (by omega)).trans (h1 q), fun q => ?_, ⟨g, g4, (e _ (by omega)).trans hg, fun i hi => ?_⟩, ⟨s, s6, (e _ (by omega)).trans hs, fun i hi => ?_⟩, fun r hr => ?_⟩
  · rw [e _ (by omega)]; exact h2 q
  · rw [e _ (by omega), e _ (by omega)]; exact hgi i hi
  · rw [e _ (by omega)]; exact hsi i hi
  · by_cases q : r = p
    · subst q; rw [z_upd_same]; exact hx
    · rw [e _ (by omega)]; exact h5 r hr
theorem Vl_ho {P : Nat} {n : S1} (v : Vl P n) {p : Nat} (hp : p < P) : Vl P (upd n 22 (nI p)) := by
  obtain ⟨hP, h1, h2, ⟨g, g4, hg, hgi⟩, ⟨s, s6, hs, hsi⟩, h5⟩ := v
  have e : ∀ i, i ≠ 22 → upd n 22 (nI p) i = n i := fun i hi => z_upd_ne _ _ hi
  refine ⟨hP, fun q => absurd q (by omega), fun q => ⟨p, hp, z_upd_same _ _ _⟩, ⟨g, g4, (e _ (by omega)).trans hg, fun i hi => ?_⟩, ⟨s, s6, (e _ (by omega)).trans hs, fun i hi => ?_⟩, fun r hr => ?_⟩
  · rw [e _ (by omega), e _ (by omega)]; exact hgi i hi
  · rw [e _ (by omega)]; exact hsi i hi
  · rw [e _ (by omega)]; exact h5 r hr
-- the calls
theorem L_fault {P : Nat} {o : S3} {mo : S2} {lo : SL} (I : IVp P o mo) : w_X3_fault o (fun r o' => w_X4_fault mo lo (fun r2 mo' _ => r = r2 ∧ IV o' mo')) := ⟨I.2.2.2.2.1, P, I⟩
theorem L_torn {P : Nat} {o : S3} {mo : S2} {lo : SL} (I : IVp P o mo) : w_X3_torn o (fun r o' => w_X4_torn mo lo (fun r2 mo' _ => r = r2 ∧ IV o' mo')) := ⟨I.2.2.2.2.2.1, P, I⟩
theorem L_slump {P : Nat} {o : S3} {mo : S2} {lo : SL} (I : IVp P o mo) (p1 : Int32) : w_X3_slump p1 o (fun r o' => w_X4_slump p1 mo lo (fun r2 mo' _ => r = r2 ∧ IV o' mo')) := by
  have hP := I.2.1.1.1
  unfold w_X3_slump w_X4_slump
  simp only [nm]
  refine b_wz (fun hb => br_pos rfl (b_inz (b := 0) (c := 9) (fun _ => br_pos rfl ⟨trivial, P, I⟩) (fun h => absurd h hb))) (fun hg => br_neg n10 (b_inz (b := 0) (c := 9) (fun h => absurd hg h) (fun _ => br_neg n10 (b_becomes (j := 21) (by omega) ⟨I.2.1.2.1.2.2.1, P, ?_⟩))))
  refine eqM_1 I ⟨Vl_safe I.2.1.1 (by omega) _, WR_sl I.2.1.2.1 hP _, ?_, ?_⟩ (fun j hj => z_upd_ne _ _ (by omega))
  · rw [z_upd_ne _ _ (by omega)]; exact I.2.1.2.2.1
  · rw [z_upd_ne _ _ (by omega)]; exact I.2.1.2.2.2
theorem L_hand {P : Nat} {o : S3} {mo : S2} {lo : SL} (I : IVp P o mo) (p1 : Int32) : w_X3_hand p1 o (fun r o' => w_X4_hand p1 mo lo (fun r2 mo' _ => r = r2 ∧ IV o' mo')) := by
  have hP := I.2.1.1.1
  unfold w_X3_hand w_X4_hand
  simp only [nm]
  refine b_hz hP I.2.1.2.1.1 (fun hb => ?_) (fun j hj ej => ?_)
  · rw [up_self]
    exact br_pos rfl (b_oz hP I.1 (fun _ => br_pos rfl ⟨trivial, P, I⟩) (fun j hj ej => absurd ej (hb j hj)))
  · rw [up_self]
    subst ej
    refine br_neg n10 (b_oz hP I.1 (fun h => absurd rfl (h j hj)) (fun _ _ _ => br_neg n10 (b_becomes (j := 22) (by omega) ⟨I.2.1.2.1.2.2.2.1 (by omega), P, ?_⟩)))
    refine eqM_1 I ⟨Vl_ho I.2.1.1 hj, WR_ho I.2.1.2.1 hP (by omega) _, ?_, ?_⟩ (fun j hj => z_upd_ne _ _ (by omega))
    · rw [z_upd_ne _ _ (by omega)]; exact I.2.1.2.2.1
    · rw [z_upd_ne _ _ (by omega)]; exact I.2.1.2.2.2
theorem b_exchange {j hi : Nat} {v : Int32} {f : S1} {K : Int32 → S1 → Prop} (hj : j < 5) (h0 : ¬ (0 ≤ v ∧ v ≤ nI hi) → K (-1) f) (h1 : 0 ≤ v ∧ v ≤ nI hi → K (f j) (upd f j v)) : w_X3_exchange (nI j) v (nI hi) f K := by
  unfold w_X3_exchange
  simp only [nm]
  refine b_wz (fun hb => br_pos rfl (h0 hb)) (fun hg => br_neg n10 ?_)
  rw [z_cl (by omega)]
  exact ⟨z_in hj (by omega), z_in hj (by omega), h1 hg⟩
theorem L_alter {P : Nat} {o : S3} {mo : S2} {lo : SL} (I : IVp P o mo) (p1 p2 p3 : Int32) : w_X3_alter p1 p2 p3 o (fun r o' => w_X4_alter p1 p2 p3 mo lo (fun r2 mo' _ => r = r2 ∧ IV o' mo')) := by
  have hP := I.2.1.1.1
  -- the reference: bad
  have bad : ∀ o', o' = o → ((∀ j, j < P → p1 ≠ nI j) ∨ (p2 = 0 ∧ ¬ (0 ≤ p3 ∧ p3 ≤ 3)) ∨ (p2 = 1 ∧ ¬ (0 ≤ p3 ∧ p3 ≤ 999)) ∨ (p2 = 2 ∧ ¬ (0 ≤ p3 ∧ p3 ≤ 20)) ∨ (p2 ≠ 0 ∧ p2 ≠ 1 ∧ p2 ≠ 2)) → w_X4_alter p1 p2 p3 mo lo (fun r2 mo' _ => (-1 : Int32) = r2 ∧ IV o' mo') := by
    rintro o' rfl hbad
    unfold w_X4_alter
    refine jn_in (fun J => ∀ kk : Int32, ((∀ j, j < P → p1 ≠ nI j) ∨ kk = 0) → J kk) ?_ ?_
    · intro kk hkk
      refine b_oz hP I.1 (fun _ => br_pos rfl ⟨rfl, P, I⟩) (fun j hj ej => br_neg n10 ?_)
      rcases hkk with z | z
      · exact absurd ej (z j hj)
      · exact br_pos z ⟨rfl, P, I⟩
    · intro J hJ
      refine br_in (fun q => b_inz (b := 0) (c := 3) (fun _ => hJ 0 (Or.inr rfl)) (fun h => hJ 1 ?_)) (fun q => br_in (fun q1 => b_inz (b := 0) (c := 999) (fun _ => hJ 0 (Or.inr rfl)) (fun h => hJ 1 ?_)) (fun q1 => jn_in (fun J2 => J2 ()) (hJ 0 (Or.inr rfl)) (fun J2 hJ2 => br_in (fun q2 => b_inz (b := 0) (c := 20) (fun _ => br_pos rfl hJ2) (fun h => br_neg n10 (hJ 1 ?_))) (fun q2 => hJ2))))
      · subst q
        rcases hbad with z | z | z | z | z
        · exact Or.inl z
        · exact absurd h z.2
        · exact absurd z.1 (by decide)
        · exact absurd z.1 (by decide)
        · exact absurd rfl z.1
      · subst q1
        rcases hbad with z | z | z | z | z
        · exact Or.inl z
        · exact absurd z.1 (by decide)
        · exact absurd h z.2
        · exact absurd z.1 (by decide)
        · exact absurd rfl z.2.1
      · subst q2
        rcases hbad with z | z | z | z | z
        · exact Or.inl z
        · exact absurd z.1 (by decide)
        · exact absurd z.1 (by decide)
        · exact absurd h z.2
        · exact absurd rfl z.2.2
  -- the reference: good
  have good : ∀ (j x : Nat) (r : Int32) (o' : S3), j < P → x < 3 → p1 = nI j → p2 = nI x → (0 ≤ p3 ∧ p3 ≤ (if x = 0 then 3 else if x = 1 then 999 else 20)) → r = mo 1 (4 * j + x) → IVp P o' (va_up mo 1 (upd (mo 1) (4 * j + x) p3)) → w_X4_alter p1 p2 p3 mo lo (fun r2 mo' _ => r = r2 ∧ IV o' mo') := by
    intro j x r o' hj hx e1 e2 h3 er hI
    subst e1 e2
    unfold w_X4_alter
    refine jn_in (fun J => J 1) ?_ ?_
    · refine b_oz hP I.1 (fun h => absurd rfl (h j hj)) (fun _ _ _ => br_neg n10 (br_neg n10 ?_))
      rw [show (4 : Int32) * nI j + nI x = nI (4 * j + x) by rw [show (4 : Int32) = nI 4 from rfl, z_mul, z_add]]
      exact b_becomes (by omega) ⟨er, P, hI⟩
    · intro J hJ
      rcases (show x = 0 ∨ x = 1 ∨ x = 2 by omega) with rfl | rfl | rfl
      · exact br_pos rfl (b_inz (b := 0) (c := 3) (fun h => absurd h3 h) (fun _ => hJ))
      · exact br_neg (by decide) (br_pos rfl (b_inz (b := 0) (c := 999) (fun h => absurd h3 h) (fun _ => hJ)))
      · exact br_neg (by decide) (br_neg (by decide) (jn_in (fun _ => True) trivial (fun J2 _ => br_pos rfl (b_inz (b := 0) (c := 20) (fun h => absurd h3 h) (fun _ => br_neg n10 hJ)))))
  have q20 : ∀ (j x : Nat), j < P → x < 4 → nI 0 ≤ upd (mo 1) (4 * j + x) p3 20 ∧ upd (mo 1) (4 * j + x) p3 20 ≤ nI 999 := fun j x hj hx => by
    rw [z_upd_ne _ _ (by omega)]; exact I.2.1.2.2
  unfold w_X3_alter
  simp only [nm]
  refine b_hz hP I.2.1.2.1.1 (fun hb => ?_) (fun j hj ej => ?_)
  · rw [up_self]; exact br_pos rfl (bad _ rfl (Or.inl hb))
  · rw [up_self]
    obtain ⟨a, b, c, d⟩ := I.2.1.2.1.2.2.2.2.2.2.2.1 j hj
    refine br_neg n10 (br_in (fun q => ?_) (fun q => br_in (fun q1 => ?_) (fun q1 => br_in (fun q2 => ?_) (fun q2 => bad _ rfl (Or.inr (Or.inr (Or.inr (Or.inr ⟨q, q1, q2⟩))))))))
    · rw [ej]
      refine b_exchange (hi := 3) (by omega) (fun h => ?_) (fun h => ?_)
      · rw [← ej, up_self, up_self]; exact bad _ rfl (Or.inr (Or.inl ⟨q, h⟩))
      · rw [← ej]
        refine good j 0 _ _ hj (by omega) ej q h a ?_
        exact eqM_1 I ⟨Vl_safe I.2.1.1 (by omega) _, WR_kd I.2.1.2.1 hP hj _, q20 j 0 hj (by omega)⟩ (fun i hi => z_upd_ne _ _ (by omega))
    · rw [ej]
      refine b_exchange (hi := 999) (by omega) (fun h => ?_) (fun h => ?_)
      · rw [← ej, up_self, up_self]; exact bad _ rfl (Or.inr (Or.inr (Or.inl ⟨q1, h⟩)))
      · rw [← ej]
        refine good j 1 _ _ hj (by omega) ej q1 h b ?_
        exact eqM_1 I ⟨Vl_ms I.2.1.1 (by omega) h, WR_ms I.2.1.2.1 hP hj _, q20 j 1 hj (by omega)⟩ (fun i hi => z_upd_ne _ _ (by omega))
    · rw [ej]
      refine b_exchange (hi := 20) (by omega) (fun h => ?_) (fun h => ?_)
      · rw [← ej, up_self, up_self]; exact bad _ rfl (Or.inr (Or.inr (Or.inr (Or.inl ⟨q2, h⟩))))
      · rw [← ej]
        refine good j 2 _ _ hj (by omega) ej q2 h c ?_
        exact eqM_1 I ⟨Vl_safe I.2.1.1 (by omega) _, WR_td I.2.1.2.1 hP hj _, q20 j 2 hj (by omega)⟩ (fun i hi => z_upd_ne _ _ (by omega))
