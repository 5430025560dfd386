def hI (H : Nat) : Int32 := if H = 0 then -4 else nI (H - 1)
theorem hI_le {v H : Nat} (hv : v < 100) (hH : H < 100) : nI v ≤ hI H ↔ v + 1 ≤ H := by
  unfold hI
  by_cases q : H = 0
  · rw [if_pos q, z_le, z_tI (by omega), z_tm4]; omega
  · rw [if_neg q, nI_leI (by omega) (by omega)]; omega
theorem hI_max {v H : Nat} (hv : v < 100) (hH : H < 100) : (nI v ≤ hI H → hI H = hI (max H (v + 1))) ∧ (¬ nI v ≤ hI H → nI v = hI (max H (v + 1))) := by
  rw [hI_le hv hH]
  refine ⟨fun h => by rw [show max H (v + 1) = H by omega], fun h => ?_⟩
  rw [show max H (v + 1) = v + 1 by omega]
  unfold hI
  rw [if_neg (by omega)]
  rfl
def kU (mo mo' : S2) : Prop := (∀ c, c ≠ 0 → mo' c = mo c) ∧ (∀ k, k < 8 ∨ k = 9 ∨ k = 10 ∨ 16 < k → mo' 0 k = mo 0 k)
def kR (mo mo' : S2) : Prop := (∀ c, c ≠ 0 → c ≠ 4 → mo' c = mo c) ∧ (∀ k, k < 5 ∨ k = 9 ∨ k = 10 ∨ 16 < k → mo' 0 k = mo 0 k)
theorem kR.rf (mo : S2) : kR mo mo := ⟨fun _ _ _ => rfl, fun _ _ => rfl⟩
theorem kR.tr {a b c : S2} (h1 : kR a b) (h2 : kR b c) : kR a c := ⟨fun x h h' => (h2.1 x h h').trans (h1.1 x h h'), fun x h => (h2.2 x h).trans (h1.2 x h)⟩
theorem kT.R {a b : S2} (h : kT a b) : kR a b := ⟨fun c h0 _ => h.1 c h0, fun k hk => h.2 k (by omega)⟩
theorem kU.R {a b : S2} (h : kU a b) : kR a b := ⟨fun c h0 _ => h.1 c h0, fun k hk => h.2 k (by omega)⟩
theorem kR_4 {a b : S2} (h : kR a b) (f : S1) : kR a (va_up b 4 f) := ⟨fun c h0 h4 => by rw [z_upN _ _ h4]; exact h.1 c h0 h4, fun k hk => h.2 k hk⟩
theorem kR_0 {a b : S2} (h : kR a b) {k : Nat} (hk : ¬ (k < 5 ∨ k = 9 ∨ k = 10 ∨ 16 < k)) (x : Int32) : kR a (va_up b 0 (upd (b 0) k x)) := ⟨fun c h0 h4 => by rw [z_upN _ _ h0]; exact h.1 c h0 h4, fun j hj => by rw [z_upS, z_upd_ne _ _ (by omega)]; exact h.2 j hj⟩
theorem MR_4 {L : Nat} {b : Nat → Nat} {σ : SG} {mo : S2} (M : MR L b σ mo) (f : S1) : MR L b σ (va_up mo 4 f) := M
theorem MR_0 {L : Nat} {b : Nat → Nat} {σ : SG} {mo : S2} (M : MR L b σ mo) {k : Nat} (hk : k < 10) (x : Int32) : MR L b σ (va_up mo 0 (upd (mo 0) k x)) := by
  have e : ∀ j, 10 ≤ j → (va_up mo 0 (upd (mo 0) k x)) 0 j = mo 0 j := fun j hj => by rw [z_upS, z_upd_ne _ _ (by omega)]
  unfold MR
  rw [e 10 (by omega), e 15 (by omega), e 16 (by omega), e 11 (by omega), e 13 (by omega), e 12 (by omega), e 14 (by omega), z_upN _ _ (by omega)]
  exact M
theorem nb_DG {b : Nat → Nat} {lo hi : Nat} {σ : SG} (h : DG b σ) : DG b (nb b lo hi σ) := by
  intro h0
  have e := (nb_0 h0).1
  rw [e]; rw [e] at h0
  exact h h0
theorem md_readOne {L : Nat} {b : Nat → Nat} {σ : SG} {mo : S2} {lx : SL} {K : Int32 → S2 → SL → Prop} (B : BB L b) (M : MR L b σ mo) (ok : OK L σ) (dg : DG b σ) {H : Nat} (hH : H < 100) (h8 : mo 0 8 = hI H) (k : ∀ mo' y, MR L b (nx L b (nb b 0 4 σ)) mo' → kU mo mo' → ((nb b 0 4 σ).1 = 0 → y = nI (vl b (nb b 0 4 σ)) ∧ mo' 0 8 = hI (max H (vl b (nb b 0 4 σ) + 1))) → K y mo' lx) : w_X4_readOne mo lx K := by
  unfold w_X4_readOne
  refine md_readNumber (lo := 0) (hi := 4) B M ok dg (by omega) (by omega) (fun mo1 y M1 k1 hy => ?_)
  have u : ∀ x, kU mo (va_up mo1 0 (upd (mo1 0) 8 x)) := fun x => ⟨fun c hc => by rw [z_upN _ _ hc]; exact k1.1 c hc, fun j hj => by rw [z_upS, z_upd_ne _ _ (by omega)]; exact k1.2 j (by omega)⟩
  have e8 : mo1 0 8 = hI H := (k1.2 8 (by omega)).trans h8
  refine br_in (fun q => nm_in (k _ y (MR_0 M1 (by omega) _) (u _) (fun f0 => ?_))) (fun q => nm_in (k _ y (MR_0 M1 (by omega) _) (u _) (fun f0 => ?_)))
  · have v4 := (nb_0 f0).2.2.2.2
    rw [← (nb_0 f0).1] at v4
    have hy := hy f0
    refine ⟨hy, ?_⟩
    rw [z_upS, z_upd_same, e8]
    rw [e8, hy] at q
    exact (hI_max (by omega) hH).1 q
  · have v4 := (nb_0 f0).2.2.2.2
    rw [← (nb_0 f0).1] at v4
    have hy := hy f0
    refine ⟨hy, ?_⟩
    rw [z_upS, z_upd_same, hy]
    rw [e8, hy] at q
    exact (hI_max (by omega) hH).2 q
/-- the reference's draft -/
def DM (ω : OM) (mo : S2) : Prop := mo 4 = ω.1 ∧ mo 0 5 = nI ω.2.1 ∧ mo 0 6 = nI ω.2.2.2.1 ∧ mo 0 7 = nI ω.2.2.2.2.1 ∧ mo 0 8 = hI ω.2.2.2.2.2
/-- a line of the reference, all but its stop -/
def rlK (L : Nat) (b : Nat → Nat) (ln : Nat) (σ : SG) (ω : OM) (mo : S2) (lx : SL) (K : S2 → SL → Prop) : Prop := ∀ mo', MR L b (nx L b (hd2 L b ln σ)) mo' → kR mo mo' → ((hd2 L b ln σ).1 = 0 → DM (lnW L b ln σ ω) mo') → K mo' lx
theorem md_one {L ln : Nat} {b : Nat → Nat} {σ : SG} {ω : OM} {mo : S2} {lx : SL} {K : S2 → SL → Prop} (B : BB L b) (M : MR L b (nx L b σ) mo) (ok : OK L σ) (m4 : mo 4 = ω.1) (m5 : mo 0 5 = nI ω.2.1) (m6 : mo 0 6 = nI ω.2.2.2.1) (m7 : mo 0 7 = nI ω.2.2.2.2.1) (m8 : mo 0 8 = hI ω.2.2.2.2.2) (hP : ω.2.1 < 5) (hl : ln < 4) (k : rlK L b ln σ ω mo lx K) : w_X4_readLineOf (nI ln) mo lx K := by
  have ne : ∀ c, 4 ≤ c → c < 10 → ¬ nI ln = nI c := fun c h1 h2 z => by have := (nI_eq (by omega) (by omega)).mp z; omega
  unfold w_X4_readLineOf
  refine br_neg (ne 4 (by omega) (by omega)) (br_neg (ne 5 (by omega) (by omega)) (br_neg (ne 6 (by omega) (by omega)) ?_))
  have e0 : (4 : Int32) * mo 0 5 + 0 = nI (4 * ω.2.1) := by rw [m5, show (4 : Int32) = nI 4 from rfl, z_mul, Int32.add_zero]
  rw [e0, z_cl (by omega), m4]
  refine ⟨z_in (by omega) (by omega), nm_in ?_⟩
  refine md_readNumber (lo := 0) (hi := 99) B (MR_4 M _) (nx_OK ok) nx_DG (by omega) (by omega) (fun mo1 y1 M1 k1 hy1 => ?_)
  have e1 : (4 : Int32) * (va_up mo 4 (upd ω.1 (4 * ω.2.1) (nI ln))) 0 5 + 1 = nI (4 * ω.2.1 + 1) := by
    show (4 : Int32) * mo 0 5 + 1 = _
    rw [m5, show (4 : Int32) = nI 4 from rfl, z_mul, nI_1]
  rw [e1, z_cl (by omega)]
  refine ⟨z_in (by omega) (by omega), nm_in ?_⟩
  have p4 : mo1 4 = upd ω.1 (4 * ω.2.1) (nI ln) := by rw [k1.1 4 (by omega), z_upS]
  rw [p4]
  refine md_readNumber (lo := 0) (hi := 20) B (MR_4 M1 _) (nx_OK (nb_OK (nx_OK ok))) nx_DG (by omega) (by omega) (fun mo2 y2 M2 k2 hy2 => ?_)
  have e2 : ∀ f : S1, (4 : Int32) * (va_up mo1 4 f) 0 5 + 2 = nI (4 * ω.2.1 + 2) := fun f => by
    show (4 : Int32) * mo1 0 5 + 2 = _
    rw [k1.2 5 (by omega)]
    show (4 : Int32) * mo 0 5 + 2 = _
    rw [m5, show (4 : Int32) = nI 4 from rfl, z_mul]; exact z_add _ 2
  rw [e2, z_cl (by omega)]
  refine ⟨z_in (by omega) (by omega), nm_in (nm_in ?_)⟩
  have q4 : mo2 4 = upd (upd ω.1 (4 * ω.2.1) (nI ln)) (4 * ω.2.1 + 1) y1 := by rw [k2.1 4 (by omega), z_upS]
  have f : ∀ j, j < 11 → mo2 0 j = mo 0 j := fun j hj => (k2.2 j (by omega)).trans (k1.2 j (by omega))
  rw [q4]
  refine k _ ?_ ?_ (fun f0 => ?_)
  · unfold hd2; rw [if_pos hl]; exact MR_0 (MR_4 M2 _) (by omega) _
  · exact kR_0 (kR_4 (((kR_4 (kR.rf mo) _).tr k1.R).tr ((kR_4 (kR.rf mo1) _).tr k2.R)) _) (by omega) _
  · unfold hd2 at f0
    rw [if_pos hl] at f0
    have f1 := (num_0 f0).1
    have hy2 := hy2 f0
    have hy1 := hy1 f1
    unfold lnW
    rw [if_pos hl]
    refine ⟨?_, ?_, ?_, ?_, ?_⟩
    · rw [z_upN _ _ (by omega), z_upS, hy1, hy2]; rfl
    · rw [z_upS, z_upd_same]
      show mo2 0 5 + 1 = _
      rw [f 5 (by omega), m5, nI_1]
    · rw [z_upS, z_upd_ne _ _ (by omega)]; exact (f 6 (by omega)).trans m6
    · rw [z_upS, z_upd_ne _ _ (by omega)]; exact (f 7 (by omega)).trans m7
    · rw [z_upS, z_upd_ne _ _ (by omega)]; exact (f 8 (by omega)).trans m8
theorem md_slumpL {L : Nat} {b : Nat → Nat} {σ : SG} {ω : OM} {mo : S2} {lx : SL} {K : S2 → SL → Prop} (B : BB L b) (M : MR L b (nx L b σ) mo) (ok : OK L σ) (m4 : mo 4 = ω.1) (m5 : mo 0 5 = nI ω.2.1) (m6 : mo 0 6 = nI 1) (m7 : mo 0 7 = nI ω.2.2.2.2.1) (m8 : mo 0 8 = hI ω.2.2.2.2.2) (k : rlK L b 4 σ ω mo lx K) : w_X4_readLineOf 5 mo lx K := by
  unfold w_X4_readLineOf
  refine br_neg (by decide) (br_pos rfl ?_)
  refine md_readNumber (lo := 0) (hi := 9) B M (nx_OK ok) nx_DG (by omega) (by omega) (fun mo1 y1 M1 k1 hy1 => nm_in ?_)
  rw [tn_21]
  refine k _ (MR_4 M1 _) (kR_4 k1.R _) (fun f0 => ?_)
  have f0 : (num L b 0 9 σ).1 = 0 := f0
  have hy1 := hy1 f0
  refine ⟨?_, (k1.2 5 (by omega)).trans m5, (k1.2 6 (by omega)).trans m6, (k1.2 7 (by omega)).trans m7, (k1.2 8 (by omega)).trans m8⟩
  rw [z_upS, k1.1 4 (by omega), m4, hy1]; rfl
theorem md_coinL {L : Nat} {b : Nat → Nat} {σ : SG} {ω : OM} {mo : S2} {lx : SL} {K : S2 → SL → Prop} (B : BB L b) (M : MR L b (nx L b σ) mo) (ok : OK L σ) (m4 : mo 4 = ω.1) (m5 : mo 0 5 = nI ω.2.1) (m6 : mo 0 6 = nI ω.2.2.2.1) (m7 : mo 0 7 = nI 1) (m8 : mo 0 8 = hI ω.2.2.2.2.2) (hH : ω.2.2.2.2.2 < 100) (k : rlK L b 5 σ ω mo lx K) : w_X4_readLineOf 6 mo lx K := by
  unfold w_X4_readLineOf
  refine br_neg (by decide) (br_neg (by decide) (br_pos rfl ?_))
  refine md_readOne B M (nx_OK ok) nx_DG hH m8 (fun mo1 y1 M1 k1 hy1 => nm_in ?_)
  rw [tn_22]
  refine k _ (MR_4 M1 _) (kR_4 k1.R _) (fun f0 => ?_)
  have f0 : (num L b 0 4 σ).1 = 0 := f0
  obtain ⟨hy1, h8⟩ := hy1 f0
  refine ⟨?_, (k1.2 5 (by omega)).trans m5, (k1.2 6 (by omega)).trans m6, (k1.2 7 (by omega)).trans m7, h8⟩
  rw [z_upS, k1.1 4 (by omega), m4, hy1]; rfl
theorem md_giftL {L : Nat} {b : Nat → Nat} {σ : SG} {ω : OM} {mo : S2} {lx : SL} {K : S2 → SL → Prop} (B : BB L b) (M : MR L b (nx L b σ) mo) (ok : OK L σ) (m4 : mo 4 = ω.1) (m5 : mo 0 5 = nI ω.2.1) (m6 : mo 0 6 = nI ω.2.2.2.1) (m7 : mo 0 7 = nI ω.2.2.2.2.1) (m8 : mo 0 8 = hI ω.2.2.2.2.2) (hg : ω.2.2.1 < 4) (n23 : ω.1 23 = nI ω.2.2.1) (hH : ω.2.2.2.2.2 ≤ 5) (k : rlK L b 6 σ ω mo lx K) : w_X4_readLineOf 4 mo lx K := by
  unfold rlK at k
  rw [hd2_6] at k
  unfold w_X4_readLineOf
  refine br_pos rfl ?_
  unfold w_X4_readGift
  refine nm_in ?_
  rw [tn_23, m4, n23]
  have e0 : (24 : Int32) + 4 * nI ω.2.2.1 = nI (24 + 4 * ω.2.2.1) := by rw [show (4 : Int32) = nI 4 from rfl, z_mul]; exact z_add 24 _
  rw [e0, show (nI (24 + 4 * ω.2.2.1) + 1 : Int32) = nI (25 + 4 * ω.2.2.1) by rw [nI_1]; congr 1; omega, show (nI (24 + 4 * ω.2.2.1) + 2 : Int32) = nI (26 + 4 * ω.2.2.1) by rw [show (2 : Int32) = nI 2 from rfl, z_add]; congr 1; omega, show (nI (24 + 4 * ω.2.2.1) + 3 : Int32) = nI (27 + 4 * ω.2.2.1) by rw [show (3 : Int32) = nI 3 from rfl, z_add]; congr 1; omega, z_cl (by omega), z_cl (by omega), z_cl (by omega), z_cl (by omega)]
  refine md_readNumber (lo := 0) (hi := 20) B M (nx_OK ok) nx_DG (by omega) (by omega) (fun mo1 x M1 k1 hx => ⟨z_in (by omega) (by omega), nm_in ?_⟩)
  have hx : (num L b 0 20 σ).1 = 0 → x = nI (vl b (num L b 0 20 σ)) := hx
  have M1 : MR L b (nx L b (num L b 0 20 σ)) mo1 := M1
  have ok1 : OK L (num L b 0 20 σ) := num_OK ok
  have p4 : mo1 4 = ω.1 := (k1.1 4 (by omega)).trans m4
  have p8 : mo1 0 8 = hI ω.2.2.2.2.2 := (k1.2 8 (by omega)).trans m8
  rw [p4]
  refine md_readOne (H := ω.2.2.2.2.2) B (MR_4 M1 _) (nx_OK ok1) nx_DG (by omega) p8 (fun mo2 y M2 k2 hy => ⟨z_in (by omega) (by omega), nm_in ?_⟩)
  have hy : (num L b 0 4 (num L b 0 20 σ)).1 = 0 → y = nI (vl b (num L b 0 4 (num L b 0 20 σ))) ∧ mo2 0 8 = hI (max ω.2.2.2.2.2 (vl b (num L b 0 4 (num L b 0 20 σ)) + 1)) := hy
  have M2 : MR L b (nx L b (num L b 0 4 (num L b 0 20 σ))) mo2 := M2
  have ok2 : OK L (num L b 0 4 (num L b 0 20 σ)) := num_OK ok1
  have q4 : mo2 4 = upd ω.1 (24 + 4 * ω.2.2.1) x := (k2.1 4 (by omega)).trans (z_upS _ _ _)
  rw [q4]
  refine md_looked (lo := 0) (hi := 4) (MR_4 M2 _) (nx_OK ok2) nx_DG (by omega) (by omega) (fun mo3 z M3 k3 hz => ⟨z_in (by omega) (by omega), ?_⟩)
  have hz : (num L b 0 4 (num L b 0 4 (num L b 0 20 σ))).1 = 0 → z = nI (vl b (num L b 0 4 (num L b 0 4 (num L b 0 20 σ)))) := hz
  have M3 : MR L b (num L b 0 4 (num L b 0 4 (num L b 0 20 σ))) mo3 := M3
  have ok3 : OK L (num L b 0 4 (num L b 0 4 (num L b 0 20 σ))) := num_OK ok2
  have r4 : mo3 4 = upd (upd ω.1 (24 + 4 * ω.2.2.1) x) (25 + 4 * ω.2.2.1) y := (k3.1 4 (by omega)).trans (z_upS _ _ _)
  have r8 : mo3 0 8 = mo2 0 8 := k3.2 8 (by omega)
  refine jn_in (fun J => (z = y → J 0) ∧ (¬ z = y → J 1)) ?_ (fun J hJ => by rw [r4, z_upd_same]; exact br_in hJ.1 hJ.2)
  -- behind the test
  have go : ∀ mo4, MR L b (gf3 L b σ) mo4 → kT mo3 mo4 → vp_in (nI (26 + 4 * ω.2.2.1)) 57 ∧ (nm ((va_up mo4 4 (upd (mo4 4) (26 + 4 * ω.2.2.1) z)) : S2) (fun mo24 => jn (fun (k25 : Int32) => nm ((va_up mo24 0 (upd (mo24 0) 8 k25)) : S2) (fun mo26 => w_X4_takes mo26 lx (fun mo27 lo28 => w_X4_readNumber (1 : Int32) (20 : Int32) mo27 lo28 (fun r32 mo30 lo31 => vp_in (nI (27 + 4 * ω.2.2.1)) 57 ∧ (nm ((va_up mo30 4 (upd (mo30 4) (27 + 4 * ω.2.2.1) r32)) : S2) (fun mo35 => nm ((va_up mo35 4 (upd (mo35 4) 23 ((mo35 4 23) + 1))) : S2) (fun mo36 => K mo36 lo31))))))) (fun J93 => br (z ≤ (mo24 0 8)) (J93 (mo24 0 8)) (J93 z)))) := by
    intro mo4 M4 k4
    refine ⟨z_in (by omega) (by omega), nm_in ?_⟩
    have s4 : mo4 4 = upd (upd ω.1 (24 + 4 * ω.2.2.1) x) (25 + 4 * ω.2.2.1) y := (k4.1 4 (by omega)).trans r4
    have s8 : mo4 0 8 = mo2 0 8 := (k4.2 8 (by omega)).trans r8
    rw [s4]
    refine jn_in (fun J => ∀ h, ((gf3 L b σ).1 = 0 → h = hI (max (max ω.2.2.2.2.2 (vl b (num L b 0 4 (num L b 0 20 σ)) + 1)) (vl b (num L b 0 4 (num L b 0 4 (num L b 0 20 σ))) + 1))) → J h) (fun h hh => nm_in ?_) (fun J hJ => ?_)
    · refine md_takes B (MR_0 (MR_4 M4 _) (by omega) _) (gf3_OK ok) (fun mo5 M5 k5 => ?_)
      refine md_readNumber (lo := 1) (hi := 20) B M5 (nx_OK (gf3_OK ok)) nx_DG (by omega) (by omega) (fun mo6 u M6 k6 hu => ⟨z_in (by omega) (by omega), nm_in (nm_in ?_)⟩)
      have hu : (num L b 1 20 (gf3 L b σ)).1 = 0 → u = nI (vl b (num L b 1 20 (gf3 L b σ))) := hu
      have M6 : MR L b (nx L b (num L b 1 20 (gf3 L b σ))) mo6 := M6
      have t4 : mo6 4 = upd (upd (upd ω.1 (24 + 4 * ω.2.2.1) x) (25 + 4 * ω.2.2.1) y) (26 + 4 * ω.2.2.1) z := by
        rw [k6.1 4 (by omega), k5.1 4 (by omega), z_upN _ _ (by omega), z_upS]
      rw [t4, z_upS, z_upU]
      have t23 : upd (upd (upd (upd ω.1 (24 + 4 * ω.2.2.1) x) (25 + 4 * ω.2.2.1) y) (26 + 4 * ω.2.2.1) z) (27 + 4 * ω.2.2.1) u 23 = nI ω.2.2.1 := by
        rw [z_upd_ne _ _ (by omega), z_upd_ne _ _ (by omega), z_upd_ne _ _ (by omega), z_upd_ne _ _ (by omega), n23]
      rw [t23, nI_1]
      refine k _ (MR_4 M6 _) ?_ (fun f0 => ?_)
      · have c1 : kR mo (va_up mo1 4 (upd ω.1 (24 + 4 * ω.2.2.1) x)) := kR_4 k1.R _
        have c2 : kR mo (va_up mo2 4 (upd (upd ω.1 (24 + 4 * ω.2.2.1) x) (25 + 4 * ω.2.2.1) y)) := kR_4 (c1.tr k2.R) _
        have c4 : kR mo mo4 := (c2.tr k3.R).tr k4.R
        have c5 : kR mo mo5 := (kR_0 (kR_4 c4 (upd (upd (upd ω.1 (24 + 4 * ω.2.2.1) x) (25 + 4 * ω.2.2.1) y) (26 + 4 * ω.2.2.1) z)) (k := 8) (by omega) h).tr k5.R
        exact kR_4 (c5.tr k6.R) _
      · have f1 := (num_0 f0).1
        have f2 : (num L b 0 4 (num L b 0 4 (num L b 0 20 σ))).1 = 0 := by rw [← (gf3_0 f1).1]; exact f1
        have f3 := (num_0 f2).1
        have f4 := (num_0 f3).1
        have hu := hu f0
        have hz := hz f2
        have hy := (hy f3).1
        have hx := hx f4
        have hh := hh f1
        have el : lnW L b 6 σ ω = (upd (upd (upd (upd (upd ω.1 (24 + 4 * ω.2.2.1) x) (25 + 4 * ω.2.2.1) y) (26 + 4 * ω.2.2.1) z) (27 + 4 * ω.2.2.1) u) 23 (nI (ω.2.2.1 + 1)), ω.2.1, ω.2.2.1 + 1, ω.2.2.2.1, ω.2.2.2.2.1, max (max ω.2.2.2.2.2 (vl b (num L b 0 4 (num L b 0 20 σ)) + 1)) (vl b (num L b 0 4 (num L b 0 4 (num L b 0 20 σ))) + 1)) := by
          unfold lnW; rw [if_neg (by omega), if_neg (by omega), if_neg (by omega), hx, hy, hz, hu]
        rw [el]
        have ff : ∀ j, j < 8 → mo6 0 j = mo 0 j := fun j hj => by
          rw [k6.2 j (by omega), k5.2 j (by omega), z_upS, z_upd_ne _ _ (by omega)]
          show mo4 0 j = _
          rw [k4.2 j (by omega), k3.2 j (by omega)]
          show mo2 0 j = _
          rw [k2.2 j (by omega)]
          show mo1 0 j = _
          exact k1.2 j (by omega)
        refine ⟨z_upS _ _ _, (ff 5 (by omega)).trans m5, (ff 6 (by omega)).trans m6, (ff 7 (by omega)).trans m7, ?_⟩
        show mo6 0 8 = _
        rw [k6.2 8 (by omega), k5.2 8 (by omega), z_upS, z_upd_same]
        exact hh
    · show br (z ≤ mo4 0 8) (J (mo4 0 8)) (J z)
      rw [s8]
      refine br_in (fun q => hJ _ (fun f1 => ?_)) (fun q => hJ _ (fun f1 => ?_))
      · have f2 : (num L b 0 4 (num L b 0 4 (num L b 0 20 σ))).1 = 0 := by rw [← (gf3_0 f1).1]; exact f1
        have f3 := (num_0 f2).1
        have v1 := (num_0 f2).2.2.2.1
        have v2 := (num_0 f3).2.2.2.1
        rw [(hy f3).2, hz f2] at q
        rw [(hy f3).2]
        exact (hI_max (by omega) (by omega)).1 q
      · have f2 : (num L b 0 4 (num L b 0 4 (num L b 0 20 σ))).1 = 0 := by rw [← (gf3_0 f1).1]; exact f1
        have f3 := (num_0 f2).1
        have v1 := (num_0 f2).2.2.2.1
        have v2 := (num_0 f3).2.2.2.1
        rw [(hy f3).2, hz f2] at q
        rw [hz f2]
        exact (hI_max (by omega) (by omega)).2 q
  by_cases f0 : (num L b 0 4 (num L b 0 4 (num L b 0 20 σ))).1 = 0
  · have f1 := (num_0 f0).1
    have hy := (hy f1).1
    have hz := hz f0
    have v1 := (num_0 f0).2.2.2.1
    have v2 := (num_0 f1).2.2.2.1
    refine ⟨fun q => md_needs (c := 3) M3 (by omega) ok3.1 (fun _ mo4 M4 k4 => go mo4 ?_ k4) (fun y => absurd rfl y), fun q => md_needs (c := 3) M3 (by omega) ok3.1 (fun y => absurd y n10) (fun _ => go mo3 ?_ (kT.rf mo3))⟩
    · rw [hy, hz] at q
      unfold gf3; rw [if_pos ((nI_eq (by omega) (by omega)).mp q).symm]; exact M4
    · unfold gf3; rw [if_neg (fun e => q (by rw [hy, hz, e]))]; exact M3
  · have eg : gf3 L b σ = num L b 0 4 (num L b 0 4 (num L b 0 20 σ)) := by unfold gf3; rw [rf_F f0, ite_self]
    refine ⟨fun q => md_needs (c := 3) M3 (by omega) ok3.1 (fun _ mo4 M4 k4 => go mo4 ?_ k4) (fun y => absurd rfl y), fun q => md_needs (c := 3) M3 (by omega) ok3.1 (fun y => absurd y n10) (fun _ => go mo3 ?_ (kT.rf mo3))⟩
    · rw [eg]; rw [rf_F f0] at M4; exact M4
    · rw [eg]; exact M3
