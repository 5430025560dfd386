theorem hcd {P p r k : Nat} (hP : P ≤ 5) (hr : r < P) (hk : k < 20) : ((p * P + r) * 20 + k) / (P * 20) = p ∧ ((p * P + r) * 20 + k) / 20 % P = r ∧ ((p * P + r) * 20 + k) % 20 = k := by
  rcases (show P = 1 ∨ P = 2 ∨ P = 3 ∨ P = 4 ∨ P = 5 by omega) with rfl | rfl | rfl | rfl | rfl <;> omega
noncomputable def hgS (P : Nat) (n : S1) (g c : Nat) : S1 := ggS n g (n 20) (nI (c / (P * 20))) (nI (c / 20 % P)) (nI (1 + c % 20))
noncomputable def heS (P : Nat) (n : S1) (m g : Nat) : Nat → Int32 × Int32
  | 0 => (-4, rcS P (itS P n m))
  | c + 1 => if c / (P * 20) = c / 20 % P ∨ (heS P n m g c).2 ≤ rcS P (itS P (hgS P n g c) m) then heS P n m g c else (1000 * nI (c / (P * 20)) + 100 * nI (c / 20 % P) + nI (1 + c % 20), rcS P (itS P (hgS P n g c) m))
noncomputable def helS (P : Nat) (n : S1) (m g : Nat) (p : Int32) : Int32 := if (heS P n m g (P * P * 20)).1 = -4 then -4 else if p = 0 then (heS P n m g (P * P * 20)).1 else (heS P n m g (P * P * 20)).2
theorem he_skip {P : Nat} {n : S1} {m g p : Nat} (hP : P ≤ 5) (hp : p < P) : ∀ k, k ≤ 20 → heS P n m g ((p * P + p) * 20 + k) = heS P n m g ((p * P + p) * 20) := by
  intro k
  induction k with
  | zero => intro _; rfl
  | succ k ih =>
    intro hk
    obtain ⟨a, b, c⟩ := hcd (p := p) (k := k) hP hp (by omega)
    rw [show (p * P + p) * 20 + (k + 1) = ((p * P + p) * 20 + k) + 1 by omega, heS, if_pos (Or.inl (a.trans b.symm)), ih (by omega)]
theorem b_byGift {P m p r x g : Nat} {o : S3} {w' : S2} {n : S1} {K : Int32 → S3 → Prop} (w : WR P (o 1) n) (v : Vl P n) (hm : m < 2147483648) (hp : p < P) (hr : r < P) (hg : n 23 = nI g) (gl : g < 4) (k : ∀ w', K (rcS P (itS P (ggS n g (n 20) (nI p) (nI r) (nI x)) m)) (va_up o 2 w')) : w_X3_ruinedByGift (nI p) (nI r) (nI x) (nI m) (va_up o 2 w') K := by
  have hP := v.1
  unfold w_X3_ruinedByGift
  rw [up21]
  refine b_become w v (fun w1 hw1 => nm_in ?_)
  rw [up_tr2, up21, w.2.1, z_upS]
  refine b_addGift hw1 v hg (by omega) (fun z => absurd z (by omega)) (fun _ w2 hw2 => nm_in ?_)
  rw [z_upU, z_upS]
  refine b_pass hw2 (Vl_gg v hg gl hp hr _ _) hm (fun w3 hw3 => nm_in ?_)
  rw [z_upU, z_upS]
  refine b_ruinedCount hw3 hP (nm_in ?_)
  rw [z_upU]
  exact k w3
theorem L_help {P : Nat} {o : S3} {mo : S2} {lo : SL} (I : IVp P o mo) (p1 p2 : Int32) : w_X3_help p1 p2 o (fun r o' => w_X4_help p1 p2 mo lo (fun r2 mo' _ => r = r2 ∧ IV o' mo')) := by
  have hP := I.2.1.1.1
  have v := I.nV
  have w := I.nW
  obtain ⟨g, g4, hg0, -⟩ := I.2.1.1.2.2.2.1
  have hg : nnS mo 23 = nI g := (nn_lo mo (by omega)).trans hg0
  have bad : (¬ (0 ≤ p1 ∧ p1 ≤ 20) ∨ ¬ (0 ≤ p2 ∧ p2 ≤ 1)) → w_X4_help p1 p2 mo lo (fun r2 mo' _ => (-1 : Int32) = r2 ∧ IV o mo') := by
    intro hb
    unfold w_X4_help
    refine b_inz (b := 0) (c := 20) (fun _ => br_pos rfl ⟨rfl, P, I⟩) (fun h2 => br_neg n10 (b_isPart (br_zb (fun _ => ⟨rfl, P, I⟩) (fun h3 => ?_))))
    rcases hb with z | z
    · exact absurd h2 z
    · exact absurd h3 z
  unfold w_X3_help
  rw [w.2.2.2.2.2.1, hg]
  refine b_wz (fun hb => br_pos rfl (bad (Or.inl hb))) (fun h1 => br_neg n10 (b_wz (fun hb => br_pos rfl (bad (Or.inr hb))) (fun h2 => br_neg n10 (br_in (fun q => nm_in ?_) (fun q => ?_)))))
  · have gl : g < 4 := (nI_ltI (b := 4) (by omega) (by omega)).mp q
    obtain ⟨m, hm, rfl⟩ := r_of (hi := 20) (by omega) h1
    have md : ∀ (r : Int32) (w' : S2), r = helS P (nnS mo) m g p2 → w_X4_help (nI m) p2 mo lo (fun r2 mo' _ => r = r2 ∧ IV (va_up o 2 w') mo') := by
      intro r w' hr
      have fin : ∀ (r2 : Int32) (mo' : S2), helS P (nnS mo) m g p2 = r2 → eqM mo mo' → r = r2 ∧ IV (va_up o 2 w') mo' := fun r2 mo' h e => ⟨hr.trans h, P, IVp_q I (eqO_2 o w') e⟩
      unfold w_X4_help
      rw [tn_20, tn_23, hg0]
      refine b_inz (b := 0) (c := 20) (fun h => absurd h1 h) (fun _ => br_neg n10 (b_isPart (br_zb (fun h => absurd h2 h) (fun _ => br_neg ?_ (b_starts ?_)))))
      · exact fun z => absurd ((nI_eq (b := 4) (by omega) (by omega)).mp z) (by omega)
      · refine b_mruinedBehind (P := P) I.1 (by rw [z_upS]; exact v) (by omega) (fun mo0 h0 => nm_in ?_)
        rw [z_upS, show fil (mo 1) (mo 2) 57 = nnS mo from rfl]
        have hPP : P * P ≤ 5 * 5 := Nat.mul_le_mul hP hP
        refine lfp5_inv (P * P * 20) (fun c a b i d e => a = (heS P (nnS mo) m g c).2 ∧ b = (heS P (nnS mo) m g c).1 ∧ i = nI c ∧ eqM mo d ∧ e = lo) ?_ ?_ (k := 0) (Nat.zero_le _) ⟨by rw [heS], by rw [heS], rfl, (eqM_starts mo).tr h0, rfl⟩
        · rintro a b i d e ⟨rfl, rfl, rfl, h3, rfl⟩ G
          rw [h3.1 3 (by omega), I.1, z_mul, show (20 : Int32) = nI 20 from rfl, z_mul]
          refine br_pos (nI_le (Nat.le_refl _) (by omega)) (br_in (fun q => fin _ _ ?_ h3) (fun q => br_in (fun q2 => fin _ _ ?_ h3) (fun q2 => fin _ _ ?_ h3)))
          · rw [helS, if_pos q]
          · rw [helS, if_neg q, if_pos q2]
          · rw [helS, if_neg q, if_neg q2]
        · rintro c a b i d e hc ⟨rfl, rfl, rfl, h3, rfl⟩ G hG
          have P0 : 0 < P := by rcases Nat.eq_zero_or_pos P with z | z
                                · rw [z] at hc; omega
                                · exact z
          have hr : c / 20 % P < P := Nat.mod_lt _ P0
          have hp : c / (P * 20) < P := by
            rcases (show P = 1 ∨ P = 2 ∨ P = 3 ∨ P = 4 ∨ P = 5 by omega) with rfl | rfl | rfl | rfl | rfl <;> omega
          have e20 : (nI c / 20 : Int32) = nI (c / 20) := pk_div (d := 20) (by omega) (by omega) (by omega)
          have ex1 : nI c / nI (P * 20) = nI (c / (P * 20)) := pk_div (by omega) (by omega) (by omega)
          have ex2 : nI (c / 20) - nI (c / 20) / nI P * nI P = nI (c / 20 % P) := pk_rem (by omega) (by omega) (by omega)
          have ex3 : (1 : Int32) + (nI c - nI (c / 20) * 20) = nI (1 + c % 20) := by
            rw [← e20]
            have := pk_rem (a := c) (d := 20) (by omega) (by omega) (by omega)
            rw [show nI c - nI c / 20 * 20 = nI (c % 20) from this]
            exact z_add 1 _
          have m3 : d 0 3 = nI P := (h3.1 3 (by omega)).trans I.1
          rw [m3, e20, z_mul, show nI P * 20 = nI (P * 20) from z_mul P 20, show nI (P * P) * 20 = nI (P * P * 20) from z_mul _ 20]
          refine br_neg (nI_ge hc (by omega)) ⟨nI_ne0 (by omega) (by omega), nm_in ⟨nI_ne0 (by omega) (by omega), nm_in (nm_in ?_)⟩⟩
          rw [ex1, ex2, ex3]
          refine jn_in (fun J => ∀ d', eqM mo d' → J (heS P (nnS mo) m g (c + 1)).2 (heS P (nnS mo) m g (c + 1)).1 d' e) (fun d' hd' => nm_in (hG _ _ _ _ _ ⟨rfl, rfl, nI_1 c, hd', rfl⟩)) (fun J hJ => ?_)
          refine br_in (fun q => ?_) (fun q => b_starts ?_)
          · have q' : c / (P * 20) = c / 20 % P := (nI_eq (by omega) (by omega)).mp q
            have := hJ d h3
            rw [heS, if_pos (Or.inl q')] at this; exact this
          · have q' : ¬ c / (P * 20) = c / 20 % P := fun z => q (by rw [z])
            have en : fil (d 1) (d 2) 57 = nnS mo := h3.nn
            rw [en, z_upS, hg, show (24 : Int32) + 4 * nI g = nI (24 + 4 * g) by rw [show (4 : Int32) = nI 4 from rfl, z_mul]; exact z_add 24 (4 * g)]
            refine nm_in ?_
            rw [show nI (24 + 4 * g) + 1 = nI (25 + 4 * g) from (z_add _ 1).trans (by congr 1; omega), show nI (24 + 4 * g) + 2 = nI (26 + 4 * g) from (z_add _ 2).trans (by congr 1; omega), show nI (24 + 4 * g) + 3 = nI (27 + 4 * g) from (z_add _ 3).trans (by congr 1; omega), z_cl (n := 24 + 4 * g) (by omega), z_cl (n := 25 + 4 * g) (by omega), z_cl (n := 26 + 4 * g) (by omega), z_cl (n := 27 + 4 * g) (by omega)]
            refine ⟨z_in (by omega) (by omega), nm_in ⟨z_in (by omega) (by omega), nm_in ⟨z_in (by omega) (by omega), nm_in ⟨z_in (by omega) (by omega), nm_in (nm_in ?_)⟩⟩⟩⟩
            simp only [z_upS, z_upU]
            have e23 : upd (upd (upd (upd (nnS mo) (24 + 4 * g) (nnS mo 20)) (25 + 4 * g) (nI (c / (P * 20)))) (26 + 4 * g) (nI (c / 20 % P))) (27 + 4 * g) (nI (1 + c % 20)) 23 = nI g := by
              rw [z_upd_ne _ _ (by omega), z_upd_ne _ _ (by omega), z_upd_ne _ _ (by omega), z_upd_ne _ _ (by omega), hg]
            rw [e23, nI_1]
            have eH : upd (upd (upd (upd (upd (nnS mo) (24 + 4 * g) (nnS mo 20)) (25 + 4 * g) (nI (c / (P * 20)))) (26 + 4 * g) (nI (c / 20 % P))) (27 + 4 * g) (nI (1 + c % 20))) 23 (nI (g + 1)) = hgS P (nnS mo) g c := rfl
            rw [eH]
            have vg : Vl P (hgS P (nnS mo) g c) := Vl_gg v hg gl hp hr _ _
            refine b_mruinedBehind (P := P) m3 (by rw [z_upS]; exact vg) (by omega) (fun mo' h => ?_)
            rw [z_upS]
            have h5 : eqM mo mo' := (h3.tr (eqM_up2 d _ (fun x hx => by rw [hgS, gg_out (by omega), ← en]; exact fil_hi _ _ hx))).tr h
            have hJ5 := hJ mo' h5
            refine jn_in (fun J1 => J1 (heS P (nnS mo) m g (c + 1)).1) (jn_in (fun J2 => J2 (heS P (nnS mo) m g (c + 1)).2) hJ5 (fun J2 hJ2 => br_in (fun y => ?_) (fun y => ?_))) (fun J1 hJ1 => br_in (fun y => ?_) (fun y => ?_))
            · rw [heS, if_pos (Or.inr y)] at hJ2; exact hJ2
            · rw [heS, if_neg (fun z => z.elim q' y)] at hJ2; exact hJ2
            · rw [heS, if_pos (Or.inr y)] at hJ1; exact hJ1
            · rw [heS, if_neg (fun z => z.elim q' y)] at hJ1; exact hJ1
    refine b_ruinedBehind0 w v (by omega) (fun w0 => ?_)
    refine lfp4_inv P (fun p a b c d => a = (heS P (nnS mo) m g (p * P * 20)).1 ∧ b = (heS P (nnS mo) m g (p * P * 20)).2 ∧ c = nI p ∧ ∃ w', d = va_up o 2 w') ?_ ?_ (k := 0) (by omega) ⟨by rw [Nat.zero_mul, Nat.zero_mul, heS], by rw [Nat.zero_mul, Nat.zero_mul, heS], rfl, w0, rfl⟩
    · rintro a b c d ⟨rfl, rfl, rfl, w', rfl⟩ G
      refine br_pos (by rw [up21, w.1]; exact nI_le (Nat.le_refl _) (by omega)) (br_in (fun q => md _ _ ?_) (fun q => br_in (fun q2 => md _ _ ?_) (fun q2 => md _ _ ?_)))
      · rw [helS, if_pos q]; exact q
      · rw [helS, if_neg q, if_pos q2]
      · rw [helS, if_neg q, if_neg q2]
    · rintro p a b c d hp ⟨rfl, rfl, rfl, w', rfl⟩ G hG
      refine br_neg (by rw [up21, w.1]; exact nI_ge hp (by omega)) ?_
      refine lfp4_inv P (fun r a b c d => a = (heS P (nnS mo) m g ((p * P + r) * 20)).1 ∧ b = (heS P (nnS mo) m g ((p * P + r) * 20)).2 ∧ c = nI r ∧ ∃ w', d = va_up o 2 w') ?_ ?_ (k := 0) (by omega) ⟨rfl, rfl, rfl, w', rfl⟩
      · rintro a b c d ⟨rfl, rfl, rfl, w', rfl⟩ G2
        refine br_pos (by rw [up21, w.1]; exact nI_le (Nat.le_refl _) (by omega)) (nm_in (hG _ _ _ _ ⟨?_, ?_, nI_1 p, w', rfl⟩))
        · rw [Nat.add_mul p 1 P, Nat.one_mul]
        · rw [Nat.add_mul p 1 P, Nat.one_mul]
      · rintro r a b c d hr ⟨rfl, rfl, rfl, w', rfl⟩ G2 hG2
        refine br_neg (by rw [up21, w.1]; exact nI_ge hr (by omega)) ?_
        refine lfp4_inv 20 (fun k a b c d => a = (heS P (nnS mo) m g ((p * P + r) * 20 + k)).1 ∧ b = (heS P (nnS mo) m g ((p * P + r) * 20 + k)).2 ∧ c = nI (k + 1) ∧ ∃ w', d = va_up o 2 w') ?_ ?_ (k := 0) (by omega) ⟨rfl, rfl, rfl, w', rfl⟩
        · rintro a b c d ⟨rfl, rfl, rfl, w', rfl⟩ G3
          have e : (p * P + r) * 20 + 20 = (p * P + (r + 1)) * 20 := by omega
          refine jn_in (fun J => J ()) (nm_in (hG2 _ _ _ _ ⟨by rw [e], by rw [e], nI_1 r, w', rfl⟩)) (fun J hJ => br_pos (nI_lt (a := 20) (by omega) (by omega)) hJ)
        · rintro k a b c d hk ⟨rfl, rfl, rfl, w', rfl⟩ G3 hG3
          obtain ⟨c1, c2, c3⟩ := hcd (p := p) (k := k) hP hr hk
          refine jn_in (fun J => r = p → J ()) (fun z => nm_in (hG2 _ _ _ _ ⟨?_, ?_, nI_1 r, w', rfl⟩)) (fun J hJ => br_neg (nI_nlt (a := 20) (by omega) (by omega)) (br_in (fun q => hJ ((nI_eq (by omega) (by omega)).mp q)) (fun q => ?_)))
          · subst z
            rw [he_skip hP hr k (by omega), show (r * P + (r + 1)) * 20 = (r * P + r) * 20 + 20 by omega, he_skip hP hr 20 (by omega)]
          · subst z
            rw [he_skip hP hr k (by omega), show (r * P + (r + 1)) * 20 = (r * P + r) * 20 + 20 by omega, he_skip hP hr 20 (by omega)]
          · have hne : ¬ p = r := fun z => q (by rw [z])
            refine b_byGift (x := k + 1) w v (by omega) hp hr hg gl (fun w2 => ?_)
            have eG : ggS (nnS mo) g (nnS mo 20) (nI p) (nI r) (nI (k + 1)) = hgS P (nnS mo) g ((p * P + r) * 20 + k) := by
              rw [hgS, c1, c2, c3, Nat.add_comm 1 k]
            rw [eG]
            have hd : ¬ (((p * P + r) * 20 + k) / (P * 20) = ((p * P + r) * 20 + k) / 20 % P) := by rw [c1, c2]; exact hne
            refine jn_in (fun J => J (heS P (nnS mo) m g ((p * P + r) * 20 + (k + 1))).1 (heS P (nnS mo) m g ((p * P + r) * 20 + (k + 1))).2) (nm_in (hG3 _ _ _ _ ⟨rfl, rfl, nI_1 (k + 1), w2, rfl⟩)) (fun J hJ => br_in (fun y => ?_) (fun y => nm_in ?_))
            · rw [show (p * P + r) * 20 + (k + 1) = ((p * P + r) * 20 + k) + 1 by omega, heS, if_pos (Or.inr y)] at hJ; exact hJ
            · rw [show (p * P + r) * 20 + (k + 1) = ((p * P + r) * 20 + k) + 1 by omega, heS, if_neg (fun z => z.elim hd y), c1, c2, c3, Nat.add_comm 1 k] at hJ; exact hJ
  · unfold w_X4_help
    rw [tn_23]
    refine b_inz (b := 0) (c := 20) (fun h => absurd h1 h) (fun _ => br_neg n10 (b_isPart (br_zb (fun h => absurd h2 h) (fun _ => br_pos ?_ ⟨rfl, P, I⟩))))
    rw [hg0, show g = 4 by rcases Nat.lt_or_ge g 4 with z | z
                           · exact absurd (nI_lt (b := 4) z (by omega)) q
                           · omega]; rfl
