def DV (ω : OM) : Prop := ω.2.1 ≤ 5 ∧ ω.2.2.1 ≤ 4 ∧ ω.2.2.2.1 ≤ 1 ∧ ω.2.2.2.2.1 ≤ 1 ∧ ω.2.2.2.2.2 ≤ 5 ∧ ω.1 20 = 0 ∧ ω.1 23 = nI ω.2.2.1 ∧ ω.1 44 = 0 ∧ (∀ p, p < 5 → ω.1 (4 * p + 3) = 0) ∧ (∀ p, p < ω.2.1 → ∃ v, v ≤ 99 ∧ ω.1 (4 * p + 1) = nI v) ∧ (∃ c, c ≤ 4 ∧ ω.1 22 = nI c ∧ (ω.2.2.2.2.1 = 0 → c = 0) ∧ (ω.2.2.2.2.1 = 1 → c < ω.2.2.2.2.2)) ∧ (∀ i, i < ω.2.2.1 → ∃ x y, ω.1 (25 + 4 * i) = nI x ∧ ω.1 (26 + 4 * i) = nI y ∧ x < ω.2.2.2.2.2 ∧ y < ω.2.2.2.2.2) ∧ (0 < ω.2.2.2.2.2 → (ω.2.2.2.2.1 = 1 ∧ ω.1 22 = nI (ω.2.2.2.2.2 - 1)) ∨ ∃ i, i < ω.2.2.1 ∧ (ω.1 (25 + 4 * i) = nI (ω.2.2.2.2.2 - 1) ∨ ω.1 (26 + 4 * i) = nI (ω.2.2.2.2.2 - 1)))
theorem DV_ln {L ln : Nat} {b : Nat → Nat} {σ : SG} {ω : OM} (D : DV ω) (h : (hd2 L b ln (hd1 ln σ ω)).1 = 0) : DV (lnW L b ln σ ω) := by
  obtain ⟨n, P, g, hs, hc, H⟩ := ω
  obtain ⟨d1, d2, d3, d4, d5, d20, d23, d44, dk, dm, ⟨c, c4, dc, dc0, dc1⟩, dg, da⟩ := D
  have d1 : P ≤ 5 := d1
  have d2 : g ≤ 4 := d2
  have d5 : H ≤ 5 := d5
  have d20 : n 20 = 0 := d20
  have d23 : n 23 = nI g := d23
  have d44 : n 44 = 0 := d44
  have dk : ∀ p, p < 5 → n (4 * p + 3) = 0 := dk
  have dm : ∀ p, p < P → ∃ v, v ≤ 99 ∧ n (4 * p + 1) = nI v := dm
  have dc : n 22 = nI c := dc
  have dc0 : hc = 0 → c = 0 := dc0
  have dc1 : hc = 1 → c < H := dc1
  have dg : ∀ i, i < g → ∃ x y, n (25 + 4 * i) = nI x ∧ n (26 + 4 * i) = nI y ∧ x < H ∧ y < H := dg
  have da : 0 < H → (hc = 1 ∧ n 22 = nI (H - 1)) ∨ ∃ i, i < g ∧ (n (25 + 4 * i) = nI (H - 1) ∨ n (26 + 4 * i) = nI (H - 1)) := da
  by_cases q : ln < 4
  · unfold hd2 at h
    rw [if_pos q] at h
    have f1 := (num_0 h).1
    have f2 := (num_0 f1).1
    obtain ⟨e1, -, p5, -⟩ := hd1_0 f2
    have p5 : P < 5 := p5 q
    rw [e1] at h f1
    have v1 := (num_0 f1).2.2.2.1
    unfold lnW
    rw [if_pos q]
    generalize vl b (num L b 0 99 σ) = v at *
    generalize vl b (num L b 0 20 (num L b 0 99 σ)) = u at *
    have key : ∀ j, 19 ≤ j → upd (upd (upd n (4 * P) (nI ln)) (4 * P + 1) (nI v)) (4 * P + 2) (nI u) j = n j := fun j hj => by
      rw [z_upd_ne _ _ (by omega), z_upd_ne _ _ (by omega), z_upd_ne _ _ (by omega)]
    refine ⟨p5, d2, d3, d4, d5, (key 20 (by omega)).trans d20, (key 23 (by omega)).trans d23, (key 44 (by omega)).trans d44, fun p hp => ?_, fun p hp => ?_, ⟨c, c4, (key 22 (by omega)).trans dc, dc0, dc1⟩, fun i hi => ?_, fun h0 => ?_⟩
    · show upd (upd (upd n (4 * P) (nI ln)) (4 * P + 1) (nI v)) (4 * P + 2) (nI u) (4 * p + 3) = 0
      rw [z_upd_ne _ _ (by omega), z_upd_ne _ _ (by omega), z_upd_ne _ _ (by omega)]; exact dk p hp
    · show ∃ v', v' ≤ 99 ∧ upd (upd (upd n (4 * P) (nI ln)) (4 * P + 1) (nI v)) (4 * P + 2) (nI u) (4 * p + 1) = nI v'
      have hp : p < P + 1 := hp
      by_cases e : p = P
      · subst e; exact ⟨v, v1, by rw [z_upd_ne _ _ (by omega), z_upd_same]⟩
      · obtain ⟨v', h1, h2⟩ := dm p (by omega)
        exact ⟨v', h1, by rw [z_upd_ne _ _ (by omega), z_upd_ne _ _ (by omega), z_upd_ne _ _ (by omega)]; exact h2⟩
    · obtain ⟨x, y, a1, a2, a3, a4⟩ := dg i hi
      exact ⟨x, y, (key _ (by omega)).trans a1, (key _ (by omega)).trans a2, a3, a4⟩
    · rcases da h0 with ⟨a1, a2⟩ | ⟨i, hi, a⟩
      · exact Or.inl ⟨a1, (key 22 (by omega)).trans a2⟩
      · refine Or.inr ⟨i, hi, ?_⟩
        rcases a with a | a
        · exact Or.inl ((key _ (by omega)).trans a)
        · exact Or.inr ((key _ (by omega)).trans a)
  · by_cases q4 : ln = 4
    · subst q4
      unfold lnW
      rw [if_neg (by omega), if_pos rfl]
      generalize nI (vl b (num L b 0 9 σ)) = v
      have key : ∀ j, j ≠ 21 → upd n 21 v j = n j := fun j hj => z_upd_ne _ _ hj
      refine ⟨d1, d2, Nat.le_refl 1, d4, d5, (key 20 (by omega)).trans d20, (key 23 (by omega)).trans d23, (key 44 (by omega)).trans d44, fun p hp => (key _ (by omega)).trans (dk p hp), fun p hp => ?_, ⟨c, c4, (key 22 (by omega)).trans dc, dc0, dc1⟩, fun i hi => ?_, fun h0 => ?_⟩
      · have hp : p < P := hp
        obtain ⟨v', h1, h2⟩ := dm p hp
        exact ⟨v', h1, (key _ (by omega)).trans h2⟩
      · obtain ⟨x, y, a1, a2, a3, a4⟩ := dg i hi
        exact ⟨x, y, (key _ (by omega)).trans a1, (key _ (by omega)).trans a2, a3, a4⟩
      · rcases da h0 with ⟨a1, a2⟩ | ⟨i, hi, a⟩
        · exact Or.inl ⟨a1, (key 22 (by omega)).trans a2⟩
        · refine Or.inr ⟨i, hi, ?_⟩
          rcases a with a | a
          · exact Or.inl ((key _ (by omega)).trans a)
          · exact Or.inr ((key _ (by omega)).trans a)
    · by_cases q5 : ln = 5
      · subst q5
        have h : (num L b 0 4 (hd1 5 σ (n, P, g, hs, hc, H))).1 = 0 := h
        obtain ⟨e1, -, -, -, hc0, -⟩ := hd1_0 (num_0 h).1
        have hc0 : hc = 0 := hc0 rfl
        rw [e1] at h
        have v4 := (num_0 h).2.2.2.1
        unfold lnW
        rw [if_neg (by omega), if_neg (by omega), if_pos rfl]
        generalize vl b (num L b 0 4 σ) = v at *
        have key : ∀ j, j ≠ 22 → upd n 22 (nI v) j = n j := fun j hj => z_upd_ne _ _ hj
        refine ⟨d1, d2, d3, Nat.le_refl 1, by show max H (v + 1) ≤ 5; omega, (key 20 (by omega)).trans d20, (key 23 (by omega)).trans d23, (key 44 (by omega)).trans d44, fun p hp => (key _ (by omega)).trans (dk p hp), fun p hp => ?_, ⟨v, v4, z_upd_same n 22 (nI v), fun z => absurd z (by simp), fun _ => by show v < max H (v + 1); omega⟩, fun i hi => ?_, fun h0 => ?_⟩
        · have hp : p < P := hp
          obtain ⟨v', h1, h2⟩ := dm p hp
          exact ⟨v', h1, (key _ (by omega)).trans h2⟩
        · obtain ⟨x, y, a1, a2, a3, a4⟩ := dg i hi
          exact ⟨x, y, (key _ (by omega)).trans a1, (key _ (by omega)).trans a2, by show x < max H (v + 1); omega, by show y < max H (v + 1); omega⟩
        · show (1 = 1 ∧ upd n 22 (nI v) 22 = nI (max H (v + 1) - 1)) ∨ ∃ i, i < g ∧ (upd n 22 (nI v) (25 + 4 * i) = nI (max H (v + 1) - 1) ∨ upd n 22 (nI v) (26 + 4 * i) = nI (max H (v + 1) - 1))
          by_cases e : H ≤ v + 1
          · left
            rw [z_upd_same, show max H (v + 1) - 1 = v by omega]; exact ⟨rfl, rfl⟩
          · right
            rw [show max H (v + 1) = H by omega]
            rcases da (by omega) with ⟨a1, a2⟩ | ⟨i, hi, a⟩
            · omega
            · refine ⟨i, hi, ?_⟩
              rcases a with a | a
              · exact Or.inl ((key _ (by omega)).trans a)
              · exact Or.inr ((key _ (by omega)).trans a)
      · by_cases q6 : ln = 6
        · subst q6
          rw [hd2_6] at h
          have f1 := (num_0 h).1
          have f2 : (num L b 0 4 (num L b 0 4 (num L b 0 20 (hd1 6 σ (n, P, g, hs, hc, H))))).1 = 0 := by rw [← (gf3_0 f1).1]; exact f1
          have f3 := (num_0 f2).1
          obtain ⟨e1, -, -, -, -, g4, -⟩ := hd1_0 (num_0 (num_0 f3).1).1
          have g4 : g < 4 := g4 rfl
          rw [e1] at f2 f3
          have y4 := (num_0 f2).2.2.2.1
          have x4 := (num_0 f3).2.2.2.1
          unfold lnW
          rw [if_neg (by omega), if_neg (by omega), if_neg (by omega)]
          generalize vl b (num L b 0 4 (num L b 0 4 (num L b 0 20 σ))) = y at *
          generalize vl b (num L b 0 4 (num L b 0 20 σ)) = x at *
          generalize nI (vl b (num L b 0 20 σ)) = u
          generalize nI (vl b (num L b 1 20 (gf3 L b σ))) = w
          show DV (upd (upd (upd (upd (upd n (24 + 4 * g) u) (25 + 4 * g) (nI x)) (26 + 4 * g) (nI y)) (27 + 4 * g) w) 23 (nI (g + 1)), P, g + 1, hs, hc, max (max H (x + 1)) (y + 1))
          have key : ∀ j, j ≠ 23 → j < 24 + 4 * g ∨ 27 + 4 * g < j → upd (upd (upd (upd (upd n (24 + 4 * g) u) (25 + 4 * g) (nI x)) (26 + 4 * g) (nI y)) (27 + 4 * g) w) 23 (nI (g + 1)) j = n j := fun j h1 h2 => by
            rw [z_upd_ne _ _ (by omega), z_upd_ne _ _ (by omega), z_upd_ne _ _ (by omega), z_upd_ne _ _ (by omega), z_upd_ne _ _ (by omega)]
          have k5 : upd (upd (upd (upd (upd n (24 + 4 * g) u) (25 + 4 * g) (nI x)) (26 + 4 * g) (nI y)) (27 + 4 * g) w) 23 (nI (g + 1)) (25 + 4 * g) = nI x := by
            rw [z_upd_ne _ _ (by omega), z_upd_ne _ _ (by omega), z_upd_ne _ _ (by omega), z_upd_same]
          have k6 : upd (upd (upd (upd (upd n (24 + 4 * g) u) (25 + 4 * g) (nI x)) (26 + 4 * g) (nI y)) (27 + 4 * g) w) 23 (nI (g + 1)) (26 + 4 * g) = nI y := by
            rw [z_upd_ne _ _ (by omega), z_upd_ne _ _ (by omega), z_upd_same]
          have k23 : upd (upd (upd (upd (upd n (24 + 4 * g) u) (25 + 4 * g) (nI x)) (26 + 4 * g) (nI y)) (27 + 4 * g) w) 23 (nI (g + 1)) 23 = nI (g + 1) := z_upd_same _ _ _
          generalize upd (upd (upd (upd (upd n (24 + 4 * g) u) (25 + 4 * g) (nI x)) (26 + 4 * g) (nI y)) (27 + 4 * g) w) 23 (nI (g + 1)) = n' at *
          refine ⟨d1, g4, d3, d4, by show max (max H (x + 1)) (y + 1) ≤ 5; omega, (key 20 (by omega) (by omega)).trans d20, k23, (key 44 (by omega) (by omega)).trans d44, fun p hp => (key _ (by omega) (by omega)).trans (dk p hp), fun p hp => ?_, ⟨c, c4, (key 22 (by omega) (by omega)).trans dc, dc0, fun z => ?_⟩, fun i hi => ?_, fun h0 => ?_⟩
          · have hp : p < P := hp
            obtain ⟨v', h1, h2⟩ := dm p hp
            exact ⟨v', h1, (key _ (by omega) (by omega)).trans h2⟩
          · have := dc1 z
            show c < max (max H (x + 1)) (y + 1)
            omega
          · have hi : i < g + 1 := hi
            show ∃ x' y', n' (25 + 4 * i) = nI x' ∧ n' (26 + 4 * i) = nI y' ∧ x' < max (max H (x + 1)) (y + 1) ∧ y' < max (max H (x + 1)) (y + 1)
            by_cases e : i = g
            · subst e; exact ⟨x, y, k5, k6, by omega, by omega⟩
            · obtain ⟨x', y', a1, a2, a3, a4⟩ := dg i (by omega)
              exact ⟨x', y', (key _ (by omega) (by omega)).trans a1, (key _ (by omega) (by omega)).trans a2, by omega, by omega⟩
          · show (hc = 1 ∧ n' 22 = nI (max (max H (x + 1)) (y + 1) - 1)) ∨ ∃ i, i < g + 1 ∧ (n' (25 + 4 * i) = nI (max (max H (x + 1)) (y + 1) - 1) ∨ n' (26 + 4 * i) = nI (max (max H (x + 1)) (y + 1) - 1))
            by_cases ey : max H (x + 1) ≤ y + 1
            · refine Or.inr ⟨g, by omega, Or.inr ?_⟩
              rw [k6, show max (max H (x + 1)) (y + 1) - 1 = y by omega]
            · by_cases ex : H ≤ x + 1
              · refine Or.inr ⟨g, by omega, Or.inl ?_⟩
                rw [k5, show max (max H (x + 1)) (y + 1) - 1 = x by omega]
              · rw [show max (max H (x + 1)) (y + 1) = H by omega]
                rcases da (by omega) with ⟨a1, a2⟩ | ⟨i, hi, a⟩
                · exact Or.inl ⟨a1, (key 22 (by omega) (by omega)).trans a2⟩
                · refine Or.inr ⟨i, by omega, ?_⟩
                  rcases a with a | a
                  · exact Or.inl ((key _ (by omega) (by omega)).trans a)
                  · exact Or.inr ((key _ (by omega) (by omega)).trans a)
        · exfalso
          have e : hd2 L b ln (hd1 ln σ (n, P, g, hs, hc, H)) = rf 2 σ := by
            unfold hd2 hd1
            rw [if_neg q, if_neg q4, if_neg q5, if_neg q6, if_neg q, if_neg q4, if_neg q5, if_neg q6]
          rw [e] at h
          exact absurd h (rf_f (by omega))
theorem cl_isWhole {ω : OM} {w : S2} {K : Int32 → S2 → Prop} (W : WD ω w) (D : DV ω) (k1 : ω.2.2.2.2.2 ≤ ω.2.1 → K 1 w) (k0 : ¬ ω.2.2.2.2.2 ≤ ω.2.1 → K 0 w) : w_X2_isWhole (nI ω.2.2.2.2.1) w K := by
  obtain ⟨n, P, g, hs, hc, H⟩ := ω
  obtain ⟨d1, d2, d3, d4, d5, d20, d23, d44, dk, dm, ⟨c, c4, dc, dc0, dc1⟩, dg, da⟩ := D
  obtain ⟨w0, w1, w2, w3, w4, w5, wp, wg⟩ := W
  have d1 : P ≤ 5 := d1
  have d2 : g ≤ 4 := d2
  have d5 : H ≤ 5 := d5
  have d4 : hc ≤ 1 := d4
  have dc : n 22 = nI c := dc
  have dc1 : hc = 1 → c < H := dc1
  have dg : ∀ i, i < g → ∃ x y, n (25 + 4 * i) = nI x ∧ n (26 + 4 * i) = nI y ∧ x < H ∧ y < H := dg
  have da : 0 < H → (hc = 1 ∧ n 22 = nI (H - 1)) ∨ ∃ i, i < g ∧ (n (25 + 4 * i) = nI (H - 1) ∨ n (26 + 4 * i) = nI (H - 1)) := da
  have k1 : H ≤ P → K 1 w := k1
  have k0 : ¬ H ≤ P → K 0 w := k0
  have w0 : w 0 0 = nI P := w0
  have w3 : w 0 3 = n 22 := w3
  have w4 : w 0 4 = nI g := w4
  have wg : ∀ j, j < 4 * g → w 5 j = n (24 + j) := wg
  show w_X2_isWhole (nI hc) w K
  unfold w_X2_isWhole
  refine jn_in (fun J => (hc = 1 → ∃ x, x < P ∧ n 22 = nI x) → J w) (fun hcoin => ?_) (fun J hJ => ?_)
  · refine lfp2_inv g (fun i a b' => a = nI i ∧ b' = w ∧ ∀ i', i' < i → (∃ x, x < P ∧ n (25 + 4 * i') = nI x) ∧ ∃ y, y < P ∧ n (26 + 4 * i') = nI y) ?_ ?_ (k := 0) (by omega) ⟨rfl, rfl, fun i' h => absurd h (by omega)⟩
    · rintro a b' ⟨rfl, rfl, hall⟩ G
      refine br_pos (by rw [w4]; exact nI_le (Nat.le_refl _) (by omega)) (k1 (Classical.byContradiction (fun hn => ?_)))
      rcases da (by omega) with ⟨a1, a2⟩ | ⟨i, hi, a⟩
      · obtain ⟨x, hx, ex⟩ := hcoin a1
        rw [ex] at a2
        have := (nI_eq (by omega) (by omega)).mp a2
        omega
      · obtain ⟨⟨x, hx, ex⟩, y, hy, ey⟩ := hall i hi
        rcases a with a | a
        · rw [ex] at a
          have := (nI_eq (by omega) (by omega)).mp a
          omega
        · rw [ey] at a
          have := (nI_eq (by omega) (by omega)).mp a
          omega
    · rintro i a b' hi ⟨rfl, rfl, hall⟩ G hG
      obtain ⟨x, y, ex, ey, hx, hy⟩ := dg i hi
      have e1 : nI i * 4 + 1 = nI (4 * i + 1) := by rw [show (4 : Int32) = nI 4 from rfl, z_mul, nI_1, Nat.mul_comm]
      have e2 : nI i * 4 + 2 = nI (4 * i + 2) := by rw [show (4 : Int32) = nI 4 from rfl, z_mul, Nat.mul_comm]; exact z_add _ 2
      refine br_neg (by rw [w4]; exact nI_ge hi (by omega)) ⟨by rw [e1]; exact z_in (by omega) (by omega), ?_⟩
      have g1 : b' 5 (nI i * 4 + 1).toNatClampNeg = n (25 + 4 * i) := by rw [e1, z_cl (by omega), wg _ (by omega)]; congr 1; omega
      have g2 : b' 5 (nI i * 4 + 2).toNatClampNeg = n (26 + 4 * i) := by rw [e2, z_cl (by omega), wg _ (by omega)]; congr 1; omega
      rw [g1]
      refine b_hz d1 w0 (fun hb => br_pos rfl (k0 (fun z => hb x (by omega) ex))) (fun x' hx' ex' => br_neg n10 ⟨by rw [e2]; exact z_in (by omega) (by omega), ?_⟩)
      rw [g2]
      refine b_hz d1 w0 (fun hb => br_pos rfl (k0 (fun z => hb y (by omega) ey))) (fun y' hy' ey' => br_neg n10 (nm_in (hG _ _ ⟨nI_1 i, rfl, fun i' hi' => ?_⟩)))
      by_cases e : i' = i
      · subst e; exact ⟨⟨x', hx', ex'⟩, y', hy', ey'⟩
      · exact hall i' (by omega)
  · refine br_in (fun q => hJ (fun z => ?_)) (fun q => ?_)
    · rw [z] at q; exact absurd q (by decide)
    · have h1 : hc = 1 := by
        rcases (show hc = 0 ∨ hc = 1 by omega) with u | u
        · exact absurd (by rw [u]; rfl) q
        · exact u
      rw [w3]
      exact b_hz d1 w0 (fun hb => br_pos rfl (k0 (fun z => hb c (by have := dc1 h1; omega) dc))) (fun x hx ex => br_neg n10 (hJ (fun _ => ⟨x, hx, ex⟩)))
