theorem DV_f {L m : Nat} {P : Nat} {ω : OM} {w : S2} {f : S1} (D : DV ω) (W : WD ω w) (hH : ω.2.2.2.2.2 ≤ ω.2.1) (e : ∀ j, j < 57 → j ≠ 22 → f j = ω.1 j) (e22 : f 22 = if nI ω.2.1 = 0 then -4 else ω.1 22) : IW ω.2.1 w f := by
  obtain ⟨n, P, g, hs, hc, H⟩ := ω
  obtain ⟨d1, d2, d3, d4, d5, d20, d23, d44, dk, dm, ⟨c, c4, dc, dc0, dc1⟩, dg, da⟩ := D
  obtain ⟨w0, w1, w2, w3, w4, w5, wp, wg⟩ := W
  have d1 : P ≤ 5 := d1
  have d2 : g ≤ 4 := d2
  have d4 : hc ≤ 1 := d4
  have d5 : H ≤ 5 := d5
  have hH : H ≤ P := hH
  have d20 : n 20 = 0 := d20
  have d23 : n 23 = nI g := d23
  have d44 : n 44 = 0 := d44
  have dm : ∀ p, p < P → ∃ v, v ≤ 99 ∧ n (4 * p + 1) = nI v := dm
  have dc : n 22 = nI c := dc
  have dc0 : hc = 0 → c = 0 := dc0
  have dc1 : hc = 1 → c < H := dc1
  have dg : ∀ i, i < g → ∃ x y, n (25 + 4 * i) = nI x ∧ n (26 + 4 * i) = nI y ∧ x < H ∧ y < H := dg
  have w3 : w 0 3 = n 22 := w3
  have e : ∀ j, j < 57 → j ≠ 22 → f j = n j := e
  have e22 : f 22 = if nI P = 0 then -4 else n 22 := e22
  have g23 : (f 23).toNatClampNeg = g := by rw [e 23 (by omega) (by omega), d23, z_cl (by omega)]
  have g44 : (f 44).toNatClampNeg = 0 := by rw [e 44 (by omega) (by omega), d44]; rfl
  have e22p : 0 < P → f 22 = n 22 := fun h => by rw [e22, if_neg (nI_ne0 h (by omega))]
  have hc01 : hc = 0 ∨ hc = 1 := by omega
  refine ⟨⟨d1, fun p0 => ?_, fun p0 => ⟨c, ?_, (e22p p0).trans dc⟩, ⟨g, d2, (e 23 (by omega) (by omega)).trans d23, fun i hi => ?_⟩, ⟨0, by omega, (e 44 (by omega) (by omega)).trans d44, fun i hi => absurd hi (by omega)⟩, fun p hp => ?_⟩, ⟨w0, w1.trans (d20.symm.trans (e 20 (by omega) (by omega)).symm), w2.trans (e 21 (by omega) (by omega)).symm, fun p0 => w3.trans (e22p p0).symm, fun p0 => ?_, ?_, ?_, fun p hp => ?_, fun j hj => ?_, fun i hi => ?_⟩, ?_, ?_⟩
  · rw [e22]
    have p0 : P = 0 := p0
    rw [if_pos (by rw [p0]; rfl)]
  · have p0 : 0 < P := p0
    show c < P
    rcases hc01 with z | z
    · have := dc0 z; omega
    · have := dc1 z; omega
  · obtain ⟨x, y, a1, a2, a3, a4⟩ := dg i hi
    exact ⟨⟨x, by show x < P; omega, (e _ (by omega) (by omega)).trans a1⟩, y, by show y < P; omega, (e _ (by omega) (by omega)).trans a2⟩
  · have hp : p < P := hp
    obtain ⟨v, v1, v2⟩ := dm p hp
    rw [e _ (by omega) (by omega), v2]
    exact ⟨nI_le (by omega) (by omega), nI_le (by omega) (by omega)⟩
  · have p0 : P = 0 := p0
    rw [w3, dc]
    rcases hc01 with z | z
    · rw [dc0 z]; rfl
    · have := dc1 z; omega
  · exact w4.trans (d23.symm.trans (e 23 (by omega) (by omega)).symm)
  · exact w5.trans (d44.symm.trans (e 44 (by omega) (by omega)).symm)
  · have hp : p < P := hp
    have := wp p hp
    rw [e _ (by omega) (by omega), e _ (by omega) (by omega), e _ (by omega) (by omega), e _ (by omega) (by omega)]
    exact this
  · rw [g23] at hj
    rw [e _ (by omega) (by omega)]; exact wg j hj
  · rw [g44] at hi; omega
  · rw [e 20 (by omega) (by omega), d20]; decide
  · rw [e 20 (by omega) (by omega), d20]; decide
theorem b_clear {w : S2} {K : S2 → Prop} (k : ∀ w', w' 0 0 = 0 → w' 0 1 = 0 → w' 0 2 = 0 → w' 0 3 = 0 → w' 0 4 = 0 → w' 0 5 = 0 → K w') : w_X2_clear w K := nm_in (nm_in (nm_in (nm_in (nm_in (nm_in (k _ rfl rfl rfl rfl rfl rfl))))))
theorem L_text {P : Nat} {o : S3} {mo : S2} {lo : SL} (I : IVp P o mo) : w_X3_text o (fun r o' => w_X4_text mo lo (fun r2 mo' _ => r = r2 ∧ IV o' mo')) := by
  obtain ⟨L, hL, t1, m10, ht⟩ := I.2.2.2.1
  obtain ⟨b, eb⟩ : ∃ b : Nat → Nat, b = fun j => (o 6 1 j).toNatClampNeg := ⟨_, rfl⟩
  have hbj : ∀ j, j < L → b j < 128 ∧ o 6 1 j = nI (b j) ∧ mo 5 j = nI (b j) := fun j hj => by
    obtain ⟨c, hc, e1, e2⟩ := ht j hj
    have : b j = c := by rw [eb]; show (o 6 1 j).toNatClampNeg = c; rw [e1, z_cl (by omega)]
    rw [this]; exact ⟨hc, e1, e2⟩
  have B : BB L b := ⟨hL, fun j hj => (hbj j hj).1⟩
  have z57 : ∀ j, j < 57 → fil (fun _ => (0 : Int32)) (mo 4) 57 j = 0 := fun j hj => fil_lo _ _ hj
  have D0 : DV (fil (fun _ => 0) (mo 4) 57, 0, 0, 0, 0, 0) := by
    refine ⟨by simp, by simp, by simp, by simp, by simp, z57 20 (by omega), z57 23 (by omega), z57 44 (by omega), fun p hp => z57 _ (by omega), fun p hp => absurd hp (by simp), ⟨0, by omega, z57 22 (by omega), fun _ => rfl, fun z => absurd z (by simp)⟩, fun i hi => absurd hi (by simp), fun h => absurd h (by simp)⟩
  unfold w_X3_text
  refine b_clear (fun w1 y0 y1 y2 y3 y4 y5 => nm_in ?_)
  refine cl_tell (ω0 := (fil (fun _ => 0) (mo 4) 57, 0, 0, 0, 0, 0)) B t1 (fun j hj => (hbj j hj).2.1) ?_ D0 rfl rfl (fun m σf ωf R ok V t' w' T hw => nm_in (nm_in ?_))
  · exact ⟨y0, y1, y2.trans (z57 21 (by omega)).symm, y3.trans (z57 22 (by omega)).symm, y4, y5, fun p hp => absurd hp (by simp), fun j hj => absurd hj (by simp)⟩
  · obtain ⟨o9, e9⟩ : ∃ z : S3, z = va_up (va_up (va_up (va_up o 3 w1) 6 t') 3 w') 6 (va_up ((va_up (va_up (va_up o 3 w1) 6 t') 3 w') 6) 0 (upd (((va_up (va_up (va_up o 3 w1) 6 t') 3 w') 6) 0) 1 0)) := ⟨_, rfl⟩
    rw [← e9]
    have o6 : o9 6 = va_up t' 0 (upd (t' 0) 1 0) := by rw [e9]; rfl
    have o3 : o9 3 = w' := by rw [e9]; rfl
    have og : ∀ g, g ≠ 3 → g ≠ 6 → o9 g = o g := fun g h3 h6 => by rw [e9, z_upN _ _ h6, z_upN _ _ h3, z_upN _ _ h6, z_upN _ _ h3]
    clear e9
    have o62 : o9 6 0 2 = nI (fn σf ωf).1 := by rw [o6]; exact T.2.2.1
    by_cases f0 : (fn σf ωf).1 = 0
    · refine br_pos (by rw [o62, f0]; rfl) ?_
      have s0 : σf.1 = 0 := by
        unfold fn at f0
        split at f0
        · rename_i q; exact q.1
        · exact f0
      have hH : ωf.2.2.2.2.2 ≤ ωf.2.1 := by
        unfold fn at f0
        split at f0
        · exact absurd f0 (rf_f (by omega))
        · rename_i q
          exact Nat.not_lt.mp (fun z => q ⟨s0, z⟩)
      have IWw := DV_f (f := upd (fil ωf.1 (mo 1) 57) 22 (if nI ωf.2.1 = 0 then -4 else ωf.1 22)) (L := 0) (m := 0) (P := 0) (V s0) (hw f0) hH (fun j hj h22 => by rw [z_upd_ne _ _ h22, fil_lo _ _ hj]) (z_upd_same _ _ _)
      rw [o3]
      refine b_become IWw.2.1 IWw.1 (fun w2 hw2 => nm_in (b_flags (fun f2 fa fb => ?_)))
      refine md_text B m10 (fun j hj => (hbj j hj).2.2) D0 R (fun z => absurd f0 z) (fun _ mo' x1 x3 x30 x31 x15 x10 xc xk => ⟨rfl, ωf.2.1, ?_⟩)
      have c0 : (va_up (va_up o9 1 w2) 3 w') 0 = o 0 := by rw [z_upN _ _ (by omega), z_upN _ _ (by omega)]; exact og 0 (by omega) (by omega)
      rw [c0]
      refine ⟨x3, ?_, fun k hk => ⟨?_, Or.inl ?_⟩, ⟨0, by omega, ?_, x10, fun j hj => absurd hj (by omega)⟩, ?_, ?_, fun k hk => ?_⟩
      · rw [z_upN _ _ (by omega), z_upN _ _ (by omega), z_upS, x1]
        exact ⟨IWw.1, hw2, IWw.2.2⟩
      · rw [z_upS, z_upS]
        rcases (show k = 0 ∨ k = 1 by omega) with e | e
        · subst e; rw [fa, x30]
        · subst e; rw [fb, x31]
      · rcases (show k = 0 ∨ k = 1 by omega) with e | e
        · subst e; exact x30
        · subst e; exact x31
      · rw [z_upN _ _ (by omega), z_upN _ _ (by omega), z_upN _ _ (by omega), o6]; rfl
      · rw [z_upN _ _ (by omega), z_upN _ _ (by omega), z_upN _ _ (by omega), o62, f0, x15]; rfl
      · rw [z_upS, z_upN _ _ (by omega), xk 27 (by omega)]; exact I.2.2.2.2.2.1
      · have := I.2.2.2.2.2.2 k hk
        unfold IS1 at this ⊢
        rw [z_upN _ _ (by omega), z_upN _ _ (by omega), z_upN _ _ (by omega), og _ (by omega) (by omega), xc 9 (by omega) (by omega) (by omega) (by omega), xc 10 (by omega) (by omega) (by omega) (by omega), xc 11 (by omega) (by omega) (by omega) (by omega)]
        exact this
    · have f6 : (fn σf ωf).1 ≤ 6 := by
        unfold fn
        split
        · exact (rf_OK (by omega) (by omega) ok).1
        · exact ok.1
      refine br_neg (by rw [o62]; exact nI_ne0 (by omega) (by omega)) ?_
      refine md_text B m10 (fun j hj => (hbj j hj).2.2) D0 R (fun _ mo' x15 x10 xc xk => ⟨?_, P, ?_⟩) (fun z => absurd z f0)
      · rw [o6]
        show (-10 : Int32) - t' 0 3 = _
        rw [T.2.2.2.1 f0]
      · have J : IVp P (va_up o 6 (va_up t' 0 (upd (t' 0) 1 0))) mo' := by
          refine IVp_tape I ⟨0, by omega, rfl, x10, fun j hj => absurd hj (by omega)⟩ ?_ (fun k hk => xk k (by omega)) (fun c hc => xc c (by omega) (by omega))
          rw [x15]; exact T.2.2.1
        refine IVp_q J ⟨fun g h0 h2 h3 => ?_, ?_, ?_⟩ (eqM.rf mo')
        · by_cases g6 : g = 6
          · subst g6; rw [o6, z_upS]
          · rw [og g h3 g6, z_upN _ _ g6]
        · rw [og 0 (by omega) (by omega)]; rfl
        · rw [og 0 (by omega) (by omega)]; rfl
