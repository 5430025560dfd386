def nmA : Nat → List Nat
  | 0 => [112, 108, 97, 105, 110]
  | 1 => [109, 105, 115, 101, 114]
  | 2 => [102, 111, 117, 110, 100, 101, 114]
  | 3 => [108, 117, 99, 107, 121]
  | 4 => [115, 108, 117, 109, 112]
  | 5 => [99, 111, 105, 110]
  | _ + 6 => [103, 105, 102, 116]
def mtT (f : S1) (s e k : Nat) : Prop := e = s + (nmA k).length ∧ ∀ i, i < (nmA k).length → f (s + i) = nI ((nmA k).getD i 0)
def lnT (f : S1) (s e ln : Nat) : Prop := ((ln < 7 ∧ mtT f s e ln) ∨ ln = 7) ∧ ∀ j, j < ln → ¬ mtT f s e j
/-- the line's name, looked for among the seven -/
def w_X1_lineNamed (t : S2) (K : Int32 → S2 → Prop) : Prop := ∃ s e, s ≤ e ∧ e ≤ 160 ∧ t 0 6 = nI s ∧ t 0 4 = nI e ∧ ∀ ln, lnT (t 1) s e ln → K (nI ln) t
def w_X1_tellLine (t : S2) (w : S2) (K : S2 → S2 → Prop) : Prop := jn (fun (k1 : Int32) (t2 : S2) (w3 : S2) => jn (fun (t4 : S2) (w5 : S2) => w_X1_takeStop t4 (fun t6 => K t6 w5)) (fun J82 => br (k1 = 7) (w_X1_refuse (2 : Int32) (t2 0 6) t2 (fun t24 => J82 t24 w3)) (br (k1 = 4) (w_X1_tellSlump t2 w3 (fun t21 w22 => J82 t21 w22)) (br (k1 = 5) (w_X1_tellCoin t2 w3 (fun t18 w19 => J82 t18 w19)) (br (k1 = 6) (w_X1_tellGift t2 w3 (fun t15 w16 => J82 t15 w16)) (w_X1_tellOne k1 t2 w3 (fun t12 w13 => J82 t12 w13))))))) (fun J17 => br ((t 0 5) = 1) (w_X1_lineNamed t (fun r28 t27 => J17 r28 t27 w)) (J17 7 t w))
def w_X1_tell (t : S2) (w : S2) (K : Int32 → S2 → S2 → Prop) : Prop := nm ((va_up t 0 (upd (t 0) 2 0)) : S2) (fun t1 => nm ((va_up t1 0 (upd (t1 0) 3 0)) : S2) (fun t2 => nm ((va_up t2 0 (upd (t2 0) 4 0)) : S2) (fun t3 => nm ((va_up t3 0 (upd (t3 0) 7 0)) : S2) (fun t4 => nm ((va_up t4 0 (upd (t4 0) 8 0)) : S2) (fun t5 => w_X1_next t5 (fun t6 => lfp4 (fun G33 (i8 : Int32) (i9 : Int32) (t10 : S2) (w11 : S2) => jn (fun (_ : Unit) => br ((t10 0 2) = 0) (w_X2_isWhole (t10 0 8) w11 (fun r14 w13 => br (r14 = 0) (w_X1_refuse (6 : Int32) (t10 0 1) t10 (fun t17 => K i8 t17 w13)) (K i8 t10 w13))) (K i8 t10 w11)) (fun J72 => br (160 ≤ i9) (J72 ()) (br ((t10 0 2) = 0) (br ((t10 0 5) = 0) (J72 ()) (w_X1_tellLine t10 w11 (fun t22 w23 => nm (i8 + 1 : Int32) (fun x25 => w_X1_next t22 (fun t26 => nm (i9 + 1 : Int32) (fun x28 => G33 x25 x28 t26 w23)))))) (J72 ())))) 0 0 t6 w))))))
def w_X3_text (o : S3) (K : Int32 → S3 → Prop) : Prop := w_X2_clear (o 3) (fun w1 => nm ((va_up o 3 w1) : S3) (fun o3 => w_X1_tell (o3 6) (o3 3) (fun r6 t4 w5 => nm ((va_up (va_up o3 6 t4) 3 w5) : S3) (fun o8 => nm ((va_up o8 6 (va_up (o8 6) 0 (upd ((o8 6) 0) 1 0))) : S3) (fun o9 => br ((o9 6 0 2) = 0) (w_X2_become (o9 1) (o9 3) (fun w11 v12 => nm ((va_up (va_up o9 1 w11) 3 v12) : S3) (fun o14 => lfp2 (fun G61 (i15 : Int32) (o16 : S3) => br (2 ≤ i15) (K r6 o16) (vp_in i15 2 ∧ (nm ((va_up o16 0 (va_up (o16 0) 2 (upd ((o16 0) 2) i15.toNatClampNeg (vp_nar .boolean 0)))) : S3) (fun o19 => nm (i15 + 1 : Int32) (fun x20 => G61 x20 o19))))) 0 o14))) (K ((-10) - (o9 6 0 3)) o9))))))
def mtB (b : Nat → Nat) (s e k : Nat) : Prop := e = s + (nmA k).length ∧ ∀ i, i < (nmA k).length → b (s + i) = (nmA k).getD i 0
def LN (b : Nat → Nat) (σ : SG) (ln : Nat) : Prop := (σ.2.2.2.2 = 1 → ((ln < 7 ∧ mtB b σ.2.2.2.1 σ.2.2.1 ln) ∨ ln = 7) ∧ ∀ j, j < ln → ¬ mtB b σ.2.2.2.1 σ.2.2.1 j) ∧ (σ.2.2.2.2 ≠ 1 → ln = 7)
theorem nmA_lt : ∀ k i, i < (nmA k).length → (nmA k).getD i 0 < 128
  | 0 => by decide
  | 1 => by decide
  | 2 => by decide
  | 3 => by decide
  | 4 => by decide
  | 5 => by decide
  | k + 6 => by show ∀ i, i < 4 → ([103, 105, 102, 116] : List Nat).getD i 0 < 128; decide
theorem mt_TB {L s e k : Nat} {b : Nat → Nat} {f : S1} (B : BB L b) (hf : ∀ j, j < L → f j = nI (b j)) (he : e ≤ L) : mtT f s e k ↔ mtB b s e k := by
  have hL := B.1
  constructor
  · rintro ⟨h1, h2⟩
    refine ⟨h1, fun i hi => ?_⟩
    have := h2 i hi
    rw [hf _ (by omega)] at this
    exact (nI_eq (by have := B.2 (s + i) (by omega); omega) (by have := nmA_lt k i hi; omega)).mp this
  · rintro ⟨h1, h2⟩
    exact ⟨h1, fun i hi => by rw [hf _ (by omega), h2 i hi]⟩
/-- what a text tells: the numbers, people, gifts, slump told, coin told, the highest one named and one more -/
abbrev OM : Type := S1 × Nat × Nat × Nat × Nat × Nat
def WD (ω : OM) (w : S2) : Prop := w 0 0 = nI ω.2.1 ∧ w 0 1 = 0 ∧ w 0 2 = ω.1 21 ∧ w 0 3 = ω.1 22 ∧ w 0 4 = nI ω.2.2.1 ∧ w 0 5 = 0 ∧ (∀ p, p < ω.2.1 → w 1 p = ω.1 (4 * p) ∧ w 2 p = ω.1 (4 * p + 1) ∧ w 3 p = ω.1 (4 * p + 2) ∧ w 4 p = ω.1 (4 * p + 3)) ∧ (∀ j, j < 4 * ω.2.2.1 → w 5 j = ω.1 (24 + j))
def hd1 (ln : Nat) (σ : SG) (ω : OM) : SG := if ln < 4 then (if ω.2.1 < 5 then σ else rf 5 σ) else if ln = 4 then (if ω.2.2.2.1 = 0 then σ else rf 4 σ) else if ln = 5 then (if ω.2.2.2.2.1 = 0 then σ else rf 4 σ) else if ln = 6 then (if ω.2.2.1 < 4 then σ else rf 5 σ) else rf 2 σ
def gf3 (L : Nat) (b : Nat → Nat) (σ : SG) : SG := if vl b (num L b 0 4 (num L b 0 20 σ)) = vl b (num L b 0 4 (num L b 0 4 (num L b 0 20 σ))) then rf 3 (num L b 0 4 (num L b 0 4 (num L b 0 20 σ))) else num L b 0 4 (num L b 0 4 (num L b 0 20 σ))
def hd2 (L : Nat) (b : Nat → Nat) (ln : Nat) (σ : SG) : SG := if ln < 4 then num L b 0 20 (num L b 0 99 σ) else if ln = 4 then num L b 0 9 σ else if ln = 5 then num L b 0 4 σ else if ln = 6 then num L b 1 20 (gf3 L b σ) else σ
def lnW (L : Nat) (b : Nat → Nat) (ln : Nat) (σ : SG) (ω : OM) : OM := if ln < 4 then (upd (upd (upd ω.1 (4 * ω.2.1) (nI ln)) (4 * ω.2.1 + 1) (nI (vl b (num L b 0 99 σ)))) (4 * ω.2.1 + 2) (nI (vl b (num L b 0 20 (num L b 0 99 σ)))), ω.2.1 + 1, ω.2.2) else if ln = 4 then (upd ω.1 21 (nI (vl b (num L b 0 9 σ))), ω.2.1, ω.2.2.1, 1, ω.2.2.2.2) else if ln = 5 then (upd ω.1 22 (nI (vl b (num L b 0 4 σ))), ω.2.1, ω.2.2.1, ω.2.2.2.1, 1, max ω.2.2.2.2.2 (vl b (num L b 0 4 σ) + 1)) else (upd (upd (upd (upd (upd ω.1 (24 + 4 * ω.2.2.1) (nI (vl b (num L b 0 20 σ)))) (25 + 4 * ω.2.2.1) (nI (vl b (num L b 0 4 (num L b 0 20 σ))))) (26 + 4 * ω.2.2.1) (nI (vl b (num L b 0 4 (num L b 0 4 (num L b 0 20 σ)))))) (27 + 4 * ω.2.2.1) (nI (vl b (num L b 1 20 (gf3 L b σ))))) 23 (nI (ω.2.2.1 + 1)), ω.2.1, ω.2.2.1 + 1, ω.2.2.2.1, ω.2.2.2.2.1, max (max ω.2.2.2.2.2 (vl b (num L b 0 4 (num L b 0 20 σ)) + 1)) (vl b (num L b 0 4 (num L b 0 4 (num L b 0 20 σ))) + 1))
def lnS (L : Nat) (b : Nat → Nat) (ln : Nat) (σ : SG) (ω : OM) : SG := nx L b (st L b (hd2 L b ln (hd1 ln σ ω)))
theorem gf3_OK {L : Nat} {b : Nat → Nat} {σ : SG} (h : OK L σ) : OK L (gf3 L b σ) := by
  unfold gf3
  split
  · exact rf_OK (by omega) (by omega) (num_OK (num_OK (num_OK h)))
  · exact num_OK (num_OK (num_OK h))
theorem gf3_0 {L : Nat} {b : Nat → Nat} {σ : SG} (h : (gf3 L b σ).1 = 0) : gf3 L b σ = num L b 0 4 (num L b 0 4 (num L b 0 20 σ)) ∧ ¬ vl b (num L b 0 4 (num L b 0 20 σ)) = vl b (num L b 0 4 (num L b 0 4 (num L b 0 20 σ))) := by
  unfold gf3 at h ⊢
  by_cases q : vl b (num L b 0 4 (num L b 0 20 σ)) = vl b (num L b 0 4 (num L b 0 4 (num L b 0 20 σ)))
  · rw [if_pos q] at h; exact absurd h (rf_f (by omega))
  · rw [if_neg q]; exact ⟨rfl, q⟩
theorem hd1_OK {L ln : Nat} {σ : SG} {ω : OM} (h : OK L σ) : OK L (hd1 ln σ ω) := by
  unfold hd1
  repeat' split
  all_goals first | exact h | exact rf_OK (by omega) (by omega) h
theorem hd2_OK {L ln : Nat} {b : Nat → Nat} {σ : SG} (h : OK L σ) : OK L (hd2 L b ln σ) := by
  unfold hd2
  split
  · exact num_OK (num_OK h)
  · split
    · exact num_OK h
    · split
      · exact num_OK h
      · split
        · exact num_OK (gf3_OK h)
        · exact h
theorem cl_addOne {P : Nat} {w : S2} {x y z : Int32} {K : S2 → Prop} (h0 : w 0 0 = nI P) (hP : P ≤ 5) (k : ∀ w', (P < 5 → w' 0 = upd (w 0) 0 (nI (P + 1)) ∧ w' 1 = upd (w 1) P x ∧ w' 2 = upd (w 2) P y ∧ w' 3 = upd (w 3) P z ∧ w' 4 = upd (w 4) P 0 ∧ w' 5 = w 5) → K w') : w_X2_addOne x y z w K := by
  unfold w_X2_addOne
  refine br_in (fun q => k w (fun z => absurd q (by rw [h0]; exact nI_ge (b := 5) (by omega) (by omega)))) (fun q => ?_)
  have p5 : P < 5 := by
    rcases (show P < 5 ∨ P = 5 by omega) with e | e
    · exact e
    · exact absurd (by rw [h0, e]; exact Int32.le_refl 5) q
  have v : vp_in (w 0 0) 5 := by rw [h0]; exact z_in p5 (by omega)
  refine ⟨v, nm_in ⟨v, nm_in ⟨v, nm_in ⟨v, nm_in (nm_in (k _ (fun _ => ?_)))⟩⟩⟩⟩
  have e : (w 0 0).toNatClampNeg = P := by rw [h0, z_cl (by omega)]
  refine ⟨?_, ?_, ?_, ?_, ?_, ?_⟩
  · show upd (w 0) 0 (w 0 0 + 1) = _
    rw [h0, nI_1]
  · show upd (w 1) (w 0 0).toNatClampNeg x = _
    rw [e]
  · show upd (w 2) (w 0 0).toNatClampNeg y = _
    rw [e]
  · show upd (w 3) (w 0 0).toNatClampNeg z = _
    rw [e]
  · show upd (w 4) (w 0 0).toNatClampNeg 0 = _
    rw [e]
  · rfl
theorem cl_addGift {g : Nat} {w : S2} {x y z u : Int32} {K : Int32 → S2 → Prop} (h0 : w 0 4 = nI g) (hg : g ≤ 4) (k : ∀ r w', (g < 4 → w' 0 = upd (w 0) 4 (nI (g + 1)) ∧ w' 1 = w 1 ∧ w' 2 = w 2 ∧ w' 3 = w 3 ∧ w' 4 = w 4 ∧ w' 5 = upd (upd (upd (upd (w 5) (4 * g) x) (4 * g + 1) y) (4 * g + 2) z) (4 * g + 3) u) → K r w') : w_X2_addGift x y z u w K := by
  unfold w_X2_addGift
  refine br_in (fun q => nm_in ?_) (fun q => k 0 w (fun z => absurd (by rw [h0]; exact nI_lt (b := 4) z (by omega)) q))
  rw [h0] at q
  have g4 : g < 4 := (nI_ltI (b := 4) (by omega) (by omega)).mp q
  have e : w 0 4 * 4 = nI (4 * g) := by rw [h0, show (4 : Int32) = nI 4 from rfl, z_mul, Nat.mul_comm]
  rw [e, show (nI (4 * g) + 1 : Int32) = nI (4 * g + 1) from nI_1 _, show (nI (4 * g) + 2 : Int32) = nI (4 * g + 2) from z_add _ 2, show (nI (4 * g) + 3 : Int32) = nI (4 * g + 3) from z_add _ 3, z_cl (by omega), z_cl (by omega), z_cl (by omega), z_cl (by omega)]
  refine ⟨z_in (by omega) (by omega), nm_in ⟨z_in (by omega) (by omega), nm_in ⟨z_in (by omega) (by omega), nm_in ⟨z_in (by omega) (by omega), nm_in (nm_in (k 1 _ (fun _ => ⟨?_, rfl, rfl, rfl, rfl, rfl⟩)))⟩⟩⟩⟩
  show upd (w 0) 4 (w 0 4 + 1) = _
  rw [h0, nI_1]
theorem hd1_0 {ln : Nat} {σ : SG} {ω : OM} (h : (hd1 ln σ ω).1 = 0) : hd1 ln σ ω = σ ∧ σ.1 = 0 ∧ (ln < 4 → ω.2.1 < 5) ∧ (ln = 4 → ω.2.2.2.1 = 0) ∧ (ln = 5 → ω.2.2.2.2.1 = 0) ∧ (ln = 6 → ω.2.2.1 < 4) ∧ ln < 7 := by
  unfold hd1 at h ⊢
  by_cases q : ln < 4
  · rw [if_pos q] at h ⊢
    by_cases y : ω.2.1 < 5
    · rw [if_pos y] at h ⊢
      exact ⟨rfl, h, fun _ => y, fun z => absurd z (by omega), fun z => absurd z (by omega), fun z => absurd z (by omega), by omega⟩
    · rw [if_neg y] at h; exact absurd h (rf_f (by omega))
  · rw [if_neg q] at h ⊢
    by_cases q2 : ln = 4
    · rw [if_pos q2] at h ⊢
      by_cases y : ω.2.2.2.1 = 0
      · rw [if_pos y] at h ⊢
        exact ⟨rfl, h, fun z => absurd z (by omega), fun _ => y, fun z => absurd z (by omega), fun z => absurd z (by omega), by omega⟩
      · rw [if_neg y] at h; exact absurd h (rf_f (by omega))
    · rw [if_neg q2] at h ⊢
      by_cases q3 : ln = 5
      · rw [if_pos q3] at h ⊢
        by_cases y : ω.2.2.2.2.1 = 0
        · rw [if_pos y] at h ⊢
          exact ⟨rfl, h, fun z => absurd z (by omega), fun z => absurd z (by omega), fun _ => y, fun z => absurd z (by omega), by omega⟩
        · rw [if_neg y] at h; exact absurd h (rf_f (by omega))
      · rw [if_neg q3] at h ⊢
        by_cases q4 : ln = 6
        · rw [if_pos q4] at h ⊢
          by_cases y : ω.2.2.1 < 4
          · rw [if_pos y] at h ⊢
            exact ⟨rfl, h, fun z => absurd z (by omega), fun z => absurd z (by omega), fun z => absurd z (by omega), fun _ => y, by omega⟩
          · rw [if_neg y] at h; exact absurd h (rf_f (by omega))
        · rw [if_neg q4] at h; exact absurd h (rf_f (by omega))
/-- a line of the class, all but its stop -/
def lnK (L : Nat) (b : Nat → Nat) (ln : Nat) (σ : SG) (ω : OM) (K : S2 → S2 → Prop) : Prop := ∀ t' w', TR L b (hd2 L b ln (hd1 ln σ ω)) t' → ((hd2 L b ln (hd1 ln σ ω)).1 = 0 → t' 0 7 = nI (lnW L b ln σ ω).2.2.2.1 ∧ t' 0 8 = nI (lnW L b ln σ ω).2.2.2.2.1 ∧ WD (lnW L b ln σ ω) w') → K t' w'
theorem cl_tellOne {L ln : Nat} {b : Nat → Nat} {σ : SG} {ω : OM} {t w : S2} {K : S2 → S2 → Prop} (B : BB L b) (T : TR L b σ t) (ok : OK L σ) (W : WD ω w) (hP : ω.2.1 ≤ 5) (h3 : ∀ p, p < 5 → ω.1 (4 * p + 3) = 0) (t7 : t 0 7 = nI ω.2.2.2.1) (t8 : t 0 8 = nI ω.2.2.2.2.1) (hl : ln < 4) (k : lnK L b ln σ ω K) : w_X1_tellOne (nI ln) t w K := by
  unfold w_X1_tellOne
  refine jn_in (fun J => ∀ t1, TR L b (hd1 ln σ ω) t1 → t1 0 7 = t 0 7 → t1 0 8 = t 0 8 → J t1 w) (fun t1 T1 g7 g8 => ?_) (fun J hJ => ?_)
  · have ok1 := hd1_OK (ln := ln) (ω := ω) ok
    refine cl_takeNumber (lo := 0) (hi := 99) B T1 ok1 (by omega) (by omega) (fun t2 x T2 a7 a8 hx => ?_)
    refine cl_takeNumber (lo := 0) (hi := 20) B T2 (num_OK ok1) (by omega) (by omega) (fun t3 y T3 b7 b8 hy => ?_)
    refine cl_addOne W.1 hP (fun w' hw' => k t3 w' ?_ ?_)
    · unfold hd2; rw [if_pos hl]; exact T3
    · unfold hd2; rw [if_pos hl]
      intro f0
      have f1 := (num_0 f0).1
      have f2 := (num_0 f1).1
      obtain ⟨e1, -, p5, -⟩ := hd1_0 f2
      have p5 := p5 hl
      rw [e1] at hx hy f0 f1
      have hx := hx f1
      have hy := hy f0
      obtain ⟨c0, c1, c2, c3, c4, c5⟩ := hw' p5
      obtain ⟨w0, w1, w2, w3, w4, w5, wp, wg⟩ := W
      unfold lnW
      rw [if_pos hl]
      refine ⟨(b7.trans (a7.trans g7)).trans t7, (b8.trans (a8.trans g8)).trans t8, ?_, ?_, ?_, ?_, ?_, ?_, ?_, ?_⟩
      · rw [c0]; exact z_upd_same _ _ _
      · rw [c0, z_upd_ne _ _ (by omega)]; exact w1
      · rw [c0, z_upd_ne _ _ (by omega), w2]; show _ = upd _ _ _ 21; rw [z_upd_ne _ _ (by omega), z_upd_ne _ _ (by omega), z_upd_ne _ _ (by omega)]
      · rw [c0, z_upd_ne _ _ (by omega), w3]; show _ = upd _ _ _ 22; rw [z_upd_ne _ _ (by omega), z_upd_ne _ _ (by omega), z_upd_ne _ _ (by omega)]
      · rw [c0, z_upd_ne _ _ (by omega)]; exact w4
      · rw [c0, z_upd_ne _ _ (by omega)]; exact w5
      · intro p hp
        have hp : p < ω.2.1 + 1 := hp
        rw [c1, c2, c3, c4]
        show _ = upd _ _ _ (4 * p) ∧ _ = upd _ _ _ (4 * p + 1) ∧ _ = upd _ _ _ (4 * p + 2) ∧ _ = upd _ _ _ (4 * p + 3)
        by_cases e : p = ω.2.1
        · subst e
          rw [z_upd_same, z_upd_same, z_upd_same, z_upd_same, z_upd_same, z_upd_ne _ _ (by omega), z_upd_ne _ _ (by omega), z_upd_same, z_upd_ne _ _ (by omega), z_upd_same, z_upd_ne _ _ (by omega), z_upd_ne _ _ (by omega), z_upd_ne _ _ (by omega), h3 _ p5, hx, hy]
          exact ⟨rfl, rfl, rfl, rfl⟩
        · have := wp p (by omega)
          rw [z_upd_ne _ _ e, z_upd_ne _ _ e, z_upd_ne _ _ e, z_upd_ne _ _ e]
          rw [z_upd_ne _ _ (by omega), z_upd_ne _ _ (by omega), z_upd_ne _ _ (by omega), z_upd_ne _ _ (by omega), z_upd_ne _ _ (by omega), z_upd_ne _ _ (by omega), z_upd_ne _ _ (by omega), z_upd_ne _ _ (by omega), z_upd_ne _ _ (by omega), z_upd_ne _ _ (by omega), z_upd_ne _ _ (by omega), z_upd_ne _ _ (by omega)]
          exact this
      · intro j hj
        rw [c5, wg j hj]
        show _ = upd _ _ _ (24 + j)
        rw [z_upd_ne _ _ (by omega), z_upd_ne _ _ (by omega), z_upd_ne _ _ (by omega)]
  · unfold hd1 at hJ
    rw [if_pos hl] at hJ
    rw [W.1]
    refine br_in (fun q => hJ t ?_ rfl rfl) (fun q => cl_refuse (c := 5) T ok.1 (fun t' T' g7 g8 => hJ t' ?_ g7 g8))
    · rw [if_pos ((nI_ltI (b := 5) (by omega) (by omega)).mp q)]; exact T
    · rw [if_neg (fun z => q ((nI_ltI (b := 5) (by omega) (by omega)).mpr z))]; exact T'
theorem cl_tellSlump {L : Nat} {b : Nat → Nat} {σ : SG} {ω : OM} {t w : S2} {K : S2 → S2 → Prop} (B : BB L b) (T : TR L b σ t) (ok : OK L σ) (W : WD ω w) (hP : ω.2.1 ≤ 5) (hs : ω.2.2.2.1 ≤ 1) (t7 : t 0 7 = nI ω.2.2.2.1) (t8 : t 0 8 = nI ω.2.2.2.2.1) (k : lnK L b 4 σ ω K) : w_X1_tellSlump t w K := by
  unfold w_X1_tellSlump
  refine jn_in (fun J => ∀ t1, TR L b (hd1 4 σ ω) t1 → t1 0 7 = t 0 7 → t1 0 8 = t 0 8 → J t1 w) (fun t1 T1 g7 g8 => nm_in ?_) (fun J hJ => ?_)
  · have ok1 := hd1_OK (ln := 4) (ω := ω) ok
    have T1' : TR L b (hd1 4 σ ω) (va_up t1 0 (upd (t1 0) 7 1)) := T1
    refine cl_takeNumber (lo := 0) (hi := 9) B T1' ok1 (by omega) (by omega) (fun t2 x T2 a7 a8 hx => nm_in (k t2 _ T2 (fun f0 => ?_)))
    have f0 : (num L b 0 9 (hd1 4 σ ω)).1 = 0 := f0
    have f2 := (num_0 f0).1
    obtain ⟨e1, -⟩ := hd1_0 f2
    rw [e1] at hx f0
    have hx := hx f0
    obtain ⟨w0, w1, w2, w3, w4, w5, wp, wg⟩ := W
    have el : lnW L b 4 σ ω = (upd ω.1 21 x, ω.2.1, ω.2.2.1, 1, ω.2.2.2.2) := by unfold lnW; rw [if_neg (by omega), if_pos rfl, hx]
    rw [el]
    refine ⟨a7, (a8.trans g8).trans t8, w0, w1, ?_, ?_, w4, w5, fun p hp => ?_, fun j hj => ?_⟩
    · show x = upd ω.1 21 x 21
      rw [z_upd_same]
    · show w 0 3 = upd ω.1 21 x 22
      rw [z_upd_ne _ _ (by omega)]; exact w3
    · have := wp p hp
      have hp : p < ω.2.1 := hp
      show _ = upd ω.1 21 x (4 * p) ∧ _ = upd ω.1 21 x (4 * p + 1) ∧ _ = upd ω.1 21 x (4 * p + 2) ∧ _ = upd ω.1 21 x (4 * p + 3)
      rw [z_upd_ne _ _ (by omega), z_upd_ne _ _ (by omega), z_upd_ne _ _ (by omega), z_upd_ne _ _ (by omega)]; exact this
    · have hj : j < 4 * ω.2.2.1 := hj
      show w 5 j = upd ω.1 21 x (24 + j)
      rw [z_upd_ne _ _ (by omega)]; exact wg j hj
  · unfold hd1 at hJ
    rw [if_neg (by omega), if_pos rfl] at hJ
    rw [t7]
    refine br_in (fun q => hJ t ?_ rfl rfl) (fun q => cl_refuse (c := 4) T ok.1 (fun t' T' g7 g8 => hJ t' ?_ g7 g8))
    · rw [if_pos ((nI_eq (b := 0) (by omega) (by omega)).mp q)]; exact T
    · rw [if_neg (fun z => q ((nI_eq (b := 0) (by omega) (by omega)).mpr z))]; exact T'
