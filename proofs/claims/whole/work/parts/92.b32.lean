theorem any_nI (x : Int32) : ∃ n, x = nI n := ⟨x.toBitVec.toNat, by
  apply Int32.toBitVec_inj.mp
  show x.toBitVec = BitVec.ofNat 32 x.toBitVec.toNat
  simp⟩
/-- a text read from a state on -/
def txR (L : Nat) (b : Nat → Nat) : Nat → SG → OM → SG → OM → Prop
  | 0, σ, ω, σf, ωf => (σ.1 ≠ 0 ∨ σ.2.2.2.2 = 0) ∧ σf = σ ∧ ωf = ω
  | m + 1, σ, ω, σf, ωf => σ.1 = 0 ∧ σ.2.2.2.2 ≠ 0 ∧ ∃ ln, LN b σ ln ∧ txR L b m (lnS L b ln σ ω) (lnW L b ln σ ω) σf ωf
def fn (σ : SG) (ω : OM) : SG := if σ.1 = 0 ∧ ω.2.1 < ω.2.2.2.2.2 then rf 6 σ else σ
theorem nx_00 {L : Nat} {b : Nat → Nat} {q s k : Nat} : nx L b (0, q, 0, s, k) = nx L b (0, 0, 0, 0, 0) := by
  unfold nx; rw [if_pos rfl, if_pos rfl]
theorem lnS_0 {L ln : Nat} {b : Nat → Nat} {σ : SG} {ω : OM} (ok : OK L σ) (h : (lnS L b ln σ ω).1 = 0) : σ.2.2.1 ≤ (lnS L b ln σ ω).2.2.2.1 ∧ ((lnS L b ln σ ω).2.2.2.2 = 0 → L ≤ (lnS L b ln σ ω).2.2.2.1) ∧ (hd2 L b ln (hd1 ln σ ω)).1 = 0 := by
  unfold lnS at h ⊢
  have m := nx_mono h
  have s := st_0 m.1
  refine ⟨?_, m.2.2, s.1⟩
  have n1 : (st L b (hd2 L b ln (hd1 ln σ ω))).2.2.2.1 ≤ (st L b (hd2 L b ln (hd1 ln σ ω))).2.2.1 := (st_OK (hd2_OK (hd1_OK ok))).2.1
  have n2 : (hd2 L b ln (hd1 ln σ ω)).2.2.1 ≤ (st L b (hd2 L b ln (hd1 ln σ ω))).2.2.2.1 := by
    rw [s.2.1]; exact (nx_mono (by rw [← s.2.1]; exact m.1)).2.1
  have n3 : (hd1 ln σ ω).2.2.1 ≤ (hd2 L b ln (hd1 ln σ ω)).2.2.1 := by
    have s1 := s.1
    unfold hd2 at s1 ⊢
    split at s1
    · rename_i q
      have := num_0 s1
      have := num_0 this.1
      rw [if_pos q]; omega
    · rename_i q
      rw [if_neg q]
      split at s1
      · rename_i q1
        rw [if_pos q1]
        have := num_0 s1; omega
      · rename_i q1
        rw [if_neg q1]
        split at s1
        · rename_i q2
          rw [if_pos q2]
          have := num_0 s1; omega
        · rename_i q2
          rw [if_neg q2]
          split at s1
          · rename_i q3
            rw [if_pos q3]
            have a := num_0 s1
            have g := gf3_0 a.1
            have a1 := a.1
            rw [g.1] at a1
            have c := num_0 a1
            have d := num_0 c.1
            have e := num_0 d.1
            have a2 := a.2.2.2.2
            rw [g.1] at a2
            rw [g.1]
            omega
          · rename_i q3
            rw [if_neg q3]; exact Nat.le_refl _
  have n4 : (hd1 ln σ ω).2.2.1 = σ.2.2.1 := by
    have : (hd1 ln σ ω).1 = 0 := by
      have s1 := s.1
      unfold hd2 at s1
      split at s1
      · exact (num_0 (num_0 s1).1).1
      · split at s1
        · exact (num_0 s1).1
        · split at s1
          · exact (num_0 s1).1
          · split at s1
            · have a := num_0 s1
              have g := gf3_0 a.1
              have a1 := a.1
              rw [g.1] at a1
              exact (num_0 (num_0 (num_0 a1).1).1).1
            · exact s1
    rw [(hd1_0 this).1]
  have n5 := m.2.1
  omega
theorem lnS_OK {L ln : Nat} {b : Nat → Nat} {σ : SG} {ω : OM} (ok : OK L σ) : OK L (lnS L b ln σ ω) := nx_OK (st_OK (hd2_OK (hd1_OK ok)))
theorem cl_tell {L : Nat} {b : Nat → Nat} {ω0 : OM} {t w : S2} {K : Int32 → S2 → S2 → Prop} (B : BB L b) (h1 : t 0 1 = nI L) (hb : ∀ j, j < L → t 1 j = nI (b j)) (W : WD ω0 w) (D : DV ω0) (o7 : ω0.2.2.2.1 = 0) (o8 : ω0.2.2.2.2.1 = 0) (k : ∀ m σf ωf, txR L b m (nx L b (0, 0, 0, 0, 0)) ω0 σf ωf → OK L σf → (σf.1 = 0 → DV ωf) → ∀ t' w', TR L b (fn σf ωf) t' → ((fn σf ωf).1 = 0 → WD ωf w') → K (nI m) t' w') : w_X1_tell t w K := by
  have hL := B.1
  unfold w_X1_tell
  refine nm_in (nm_in (nm_in (nm_in (nm_in ?_))))
  obtain ⟨s6, e6⟩ := any_nI (t 0 6)
  obtain ⟨s5, e5⟩ := any_nI (t 0 5)
  have OK0 : OK L (0, 0, 0, 0, 0) := ⟨by simp, by simp, by simp, by simp, fun _ z => absurd rfl z, fun _ z => absurd z (by simp)⟩
  refine cl_nextW (σ := (0, 0, 0, s6, s5)) B ⟨h1, hb, rfl, fun z => absurd rfl z, rfl, e5, e6⟩ ⟨by simp, trivial, by simp, trivial⟩ (fun t1 T1 g7 g8 => ?_)
  rw [nx_00] at T1
  have g7 : t1 0 7 = nI 0 := g7
  have g8 : t1 0 8 = nI 0 := g8
  intro G hG
  have main : ∀ d i σ ω t w, TR L b σ t → OK L σ → (σ.1 = 0 → L - σ.2.2.2.1 ≤ d ∧ i ≤ σ.2.2.2.1 ∧ (σ.2.2.2.2 = 0 → L ≤ σ.2.2.2.1) ∧ WD ω w ∧ DV ω ∧ t 0 7 = nI ω.2.2.2.1 ∧ t 0 8 = nI ω.2.2.2.2.1) → i ≤ 160 → (∀ m σf ωf, txR L b m σ ω σf ωf → OK L σf → (σf.1 = 0 → DV ωf) → ∀ t' w', TR L b (fn σf ωf) t' → ((fn σf ωf).1 = 0 → WD ωf w') → K (nI (i + m)) t' w') → G (nI i) (nI i) t w := by
    intro d
    induction d with
    | zero => ?_
    | succ d ih => ?_
    all_goals
      intro i σ ω t w T ok hh hi k
      by_cases en : σ.1 ≠ 0 ∨ σ.2.2.2.2 = 0
      · have k0 := k 0 σ ω ⟨en, rfl, rfl⟩ ok (fun z => (hh z).2.2.2.2.1)
        by_cases f0 : σ.1 = 0
        · have t2 : t 0 2 = 0 := by rw [T.2.2.1, f0]; rfl
          have z5 := en.resolve_left (fun z => z f0)
          obtain ⟨-, -, hs, hW, hD, -, h8⟩ := hh f0
          have hs := hs z5
          have sL : σ.2.2.2.1 = L := by have := ok.2.1; have := ok.2.2.1; omega
          refine hG _ _ _ _ (jn_in (fun J => J ()) (br_pos t2 ?_) (fun J hJ => br_in (fun _ => hJ) (fun _ => br_pos t2 (br_pos (by rw [T.2.2.2.2.2.1, z5]; rfl) hJ))))
          rw [h8]
          refine cl_isWhole hW hD (fun q => br_neg n10 (k0 t w ?_ (fun _ => hW))) (fun q => br_pos rfl ?_)
          · unfold fn; rw [if_neg (by omega)]; exact T
          · have e16 : t 0 1 = t 0 6 := by rw [T.1, T.2.2.2.2.2.2, sL]
            rw [e16]
            refine cl_refuse (c := 6) T ok.1 (fun t' T' _ _ => k0 t' w ?_ (fun z => ?_))
            · unfold fn; rw [if_pos ⟨f0, by omega⟩]; exact T'
            · exfalso
              unfold fn at z
              rw [if_pos ⟨f0, by omega⟩] at z
              exact absurd z (rf_f (by omega))
        · have t2 : ¬ t 0 2 = 0 := by rw [T.2.2.1]; exact nI_ne0 (by omega) (by have := ok.1; omega)
          have ef : fn σ ω = σ := by unfold fn; rw [if_neg (fun z => f0 z.1)]
          rw [ef] at k0
          exact hG _ _ _ _ (jn_in (fun J => J ()) (br_neg t2 (k0 t w T (fun z => absurd z f0))) (fun J hJ => br_in (fun _ => hJ) (fun _ => br_neg t2 hJ)))
      · have f0 : σ.1 = 0 := Classical.byContradiction (fun z => en (Or.inl z))
        have z5 : σ.2.2.2.2 ≠ 0 := fun z => en (Or.inr z)
        have o1 := ok.2.2.2.2.1 f0 z5
        have o2 := ok.2.2.1
        obtain ⟨hd, hi2, hs, hW, hD, h7, h8⟩ := hh f0
        have t2 : t 0 2 = 0 := by rw [T.2.2.1, f0]; rfl
        have t5 : ¬ t 0 5 = 0 := by rw [T.2.2.2.2.2.1]; exact nI_ne0 (by omega) (by have := ok.2.2.2.1; omega)
        first
        | (exfalso; omega)
        | (refine hG _ _ _ _ (jn_in (fun _ => True) trivial (fun J _ => br_neg (nI_ge (b := 160) (by omega) (by omega)) (br_pos t2 (br_neg t5 (cl_tellLine B T ok hW hD.1 hD.2.1 hD.2.2.1 hD.2.2.2.1 hD.2.2.2.2.2.2.2.2.1 h7 h8 (fun ln hln t3 w3 T3 h3 => nm_in (cl_next B T3 (st_OK (hd2_OK (hd1_OK ok))) (fun t4 T4 a7 a8 => nm_in ?_))))))))
           have T4 : TR L b (lnS L b ln σ ω) t4 := T4
           rw [nI_1]
           refine ih (i + 1) (lnS L b ln σ ω) (lnW L b ln σ ω) t4 w3 T4 (lnS_OK ok) (fun f1 => ?_) (by omega) (fun m σf ωf R o v t' w' T' hw' => ?_)
           · have l0 := lnS_0 ok f1
             have s0 : (st L b (hd2 L b ln (hd1 ln σ ω))).1 = 0 := (nx_mono f1).1
             obtain ⟨c7, c8, cW⟩ := h3 s0
             exact ⟨by omega, by omega, l0.2.1, cW, DV_ln hD l0.2.2, a7.trans c7, a8.trans c8⟩
           · have := k (m + 1) σf ωf ⟨f0, z5, ln, hln, R⟩ o v t' w' T' hw'
             rw [show i + (m + 1) = i + 1 + m by omega] at this
             exact this)
  refine main (L + 1) 0 (nx L b (0, 0, 0, 0, 0)) ω0 t1 w T1 (nx_OK OK0) (fun f0 => ⟨by omega, by omega, (nx_mono f0).2.2, W, D, by rw [o7]; exact g7, by rw [o8]; exact g8⟩) (by omega) (fun m σf ωf R o v t' w' T' hw' => ?_)
  have := k m σf ωf R o v t' w' T' hw'
  rw [Nat.zero_add]; exact this
