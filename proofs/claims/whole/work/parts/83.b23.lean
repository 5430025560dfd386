/-- a text's reader: fault, its place, where it is, where the token began, the token -/
abbrev SG : Type := Nat × Nat × Nat × Nat × Nat
def er (b : Nat → Nat) (lo hi : Nat) : Nat → Nat → Nat
  | 0, p => p
  | k + 1, p => if lo ≤ b p ∧ b p ≤ hi then er b lo hi k (p + 1) else p
def ern (L : Nat) (b : Nat → Nat) (lo hi p : Nat) : Nat := er b lo hi (L - p) p
theorem ern_hi {L : Nat} {b : Nat → Nat} {lo hi p : Nat} (h : L ≤ p) : ern L b lo hi p = p := by
  unfold ern; rw [show L - p = 0 by omega]; rfl
theorem ern_lo {L : Nat} {b : Nat → Nat} {lo hi p : Nat} (h : p < L) : ern L b lo hi p = if lo ≤ b p ∧ b p ≤ hi then ern L b lo hi (p + 1) else p := by
  unfold ern; rw [show L - p = (L - (p + 1)) + 1 by omega]; rfl
theorem ern_ge (L : Nat) (b : Nat → Nat) (lo hi : Nat) : ∀ d p, L - p = d → p ≤ ern L b lo hi p := by
  intro d
  induction d with
  | zero => intro p h; rw [ern_hi (by omega)]; omega
  | succ d ih =>
    intro p h
    rw [ern_lo (by omega)]
    split
    · have := ih (p + 1) (by omega); omega
    · omega
theorem ern_le (L : Nat) (b : Nat → Nat) (lo hi : Nat) : ∀ d p, p + d = L → ern L b lo hi p ≤ L := by
  intro d
  induction d with
  | zero => intro p h; rw [ern_hi (by omega)]; omega
  | succ d ih =>
    intro p h
    rw [ern_lo (by omega)]
    split
    · exact ih (p + 1) (by omega)
    · omega
theorem ern_in {L : Nat} {b : Nat → Nat} {lo hi p : Nat} (h : p < L) : p < ern L b lo hi p ↔ lo ≤ b p ∧ b p ≤ hi := by
  rw [ern_lo h]
  constructor
  · intro q
    split at q
    · assumption
    · omega
  · intro q
    rw [if_pos q]
    have := ern_ge L b lo hi _ (p + 1) rfl
    omega
def rf (c : Nat) (σ : SG) : SG := if σ.1 = 0 then (c, σ.2.2.2.1, σ.2.2) else σ
def nx (L : Nat) (b : Nat → Nat) (σ : SG) : SG := if σ.1 = 0 then (if L ≤ ern L b 32 32 σ.2.2.1 then (0, ern L b 32 32 σ.2.2.1, ern L b 32 32 σ.2.2.1, ern L b 32 32 σ.2.2.1, 0) else if ern L b 32 32 σ.2.2.1 < ern L b 97 122 (ern L b 32 32 σ.2.2.1) then (0, ern L b 32 32 σ.2.2.1, ern L b 97 122 (ern L b 32 32 σ.2.2.1), ern L b 32 32 σ.2.2.1, 1) else if ern L b 32 32 σ.2.2.1 < ern L b 48 57 (ern L b 32 32 σ.2.2.1) then (if 2 < ern L b 48 57 (ern L b 32 32 σ.2.2.1) - ern L b 32 32 σ.2.2.1 then rf 1 (0, ern L b 32 32 σ.2.2.1, ern L b 48 57 (ern L b 32 32 σ.2.2.1), ern L b 32 32 σ.2.2.1, 2) else (0, ern L b 32 32 σ.2.2.1, ern L b 48 57 (ern L b 32 32 σ.2.2.1), ern L b 32 32 σ.2.2.1, 2)) else if b (ern L b 32 32 σ.2.2.1) = 59 then (0, ern L b 32 32 σ.2.2.1, ern L b 32 32 σ.2.2.1 + 1, ern L b 32 32 σ.2.2.1, 3) else rf 1 (0, ern L b 32 32 σ.2.2.1, ern L b 32 32 σ.2.2.1 + 1, ern L b 32 32 σ.2.2.1, 3)) else σ
/-- the class's reader -/
def TR (L : Nat) (b : Nat → Nat) (σ : SG) (t : S2) : Prop := t 0 1 = nI L ∧ (∀ j, j < L → t 1 j = nI (b j)) ∧ t 0 2 = nI σ.1 ∧ (σ.1 ≠ 0 → t 0 3 = nI σ.2.1) ∧ t 0 4 = nI σ.2.2.1 ∧ t 0 5 = nI σ.2.2.2.2 ∧ t 0 6 = nI σ.2.2.2.1
def BB (L : Nat) (b : Nat → Nat) : Prop := L ≤ 160 ∧ ∀ j, j < L → b j < 128
def OK (L : Nat) (σ : SG) : Prop := σ.1 ≤ 6 ∧ σ.2.2.2.1 ≤ σ.2.2.1 ∧ σ.2.2.1 ≤ L ∧ σ.2.2.2.2 ≤ 3 ∧ (σ.1 = 0 → σ.2.2.2.2 ≠ 0 → σ.2.2.2.1 < σ.2.2.1) ∧ (σ.1 = 0 → σ.2.2.2.2 = 2 → σ.2.2.1 ≤ σ.2.2.2.1 + 2)
theorem rf_OK {L c : Nat} {σ : SG} (hc : c ≤ 6) (h0 : c ≠ 0) (h : OK L σ) : OK L (rf c σ) := by
  unfold rf
  split
  · exact ⟨hc, h.2.1, h.2.2.1, h.2.2.2.1, fun z => absurd z h0, fun z => absurd z h0⟩
  · exact h
theorem rf_f {c : Nat} {σ : SG} (h0 : c ≠ 0) : (rf c σ).1 ≠ 0 := by
  unfold rf
  split
  · exact h0
  · assumption
theorem nx_f {L : Nat} {b : Nat → Nat} {σ : SG} (h : σ.1 ≠ 0) : nx L b σ = σ := by unfold nx; rw [if_neg h]
theorem rf_F {c : Nat} {σ : SG} (h : σ.1 ≠ 0) : rf c σ = σ := by unfold rf; rw [if_neg h]
theorem nx_OK {L : Nat} {b : Nat → Nat} {σ : SG} (h : OK L σ) : OK L (nx L b σ) := by
  by_cases q : σ.1 = 0
  · have h1 : ern L b 32 32 σ.2.2.1 ≤ L := ern_le L b 32 32 (L - σ.2.2.1) σ.2.2.1 (by have := h.2.2.1; omega)
    unfold nx
    rw [if_pos q]
    generalize ern L b 32 32 σ.2.2.1 = s at *
    have h2 : ern L b 97 122 s ≤ L := ern_le L b _ _ (L - s) s (by omega)
    have h3 : ern L b 48 57 s ≤ L := ern_le L b _ _ (L - s) s (by omega)
    split
    · exact ⟨by simp, by simp, by simpa using h1, by simp, fun _ z => absurd rfl z, fun _ z => absurd z (by simp)⟩
    · split
      · rename_i g1 g2
        exact ⟨by simp, by simpa using Nat.le_of_lt g2, by simpa using h2, by simp, fun _ _ => g2, fun _ z => absurd z (by simp)⟩
      · split
        · rename_i g1 g2 g3
          split
          · rename_i g4
            exact ⟨by simp [rf], by simpa [rf] using Nat.le_of_lt g3, by simpa [rf] using h3, by simp [rf], fun z => absurd z (by simp [rf]), fun z => absurd z (by simp [rf])⟩
          · rename_i g4
            exact ⟨by simp, by simpa using Nat.le_of_lt g3, by simpa using h3, by simp, fun _ _ => g3, fun _ _ => by show ern L b 48 57 s ≤ s + 2; omega⟩
        · split
          · exact ⟨by simp, by simp, by show s + 1 ≤ L; omega, by simp, fun _ _ => by simp, fun _ z => absurd z (by simp)⟩
          · exact ⟨by simp [rf], by simp [rf], by show (rf 1 _).2.2.1 ≤ L; simp [rf]; omega, by simp [rf], fun z => absurd z (by simp [rf]), fun z => absurd z (by simp [rf])⟩
  · rw [nx_f q]; exact h
/-- a token behind the last one -/
theorem nx_mono {L : Nat} {b : Nat → Nat} {σ : SG} (h : (nx L b σ).1 = 0) : σ.1 = 0 ∧ σ.2.2.1 ≤ (nx L b σ).2.2.2.1 ∧ ((nx L b σ).2.2.2.2 = 0 → L ≤ (nx L b σ).2.2.2.1) := by
  by_cases q : σ.1 = 0
  · have h0 : σ.2.2.1 ≤ ern L b 32 32 σ.2.2.1 := ern_ge L b 32 32 _ _ rfl
    refine ⟨q, ?_⟩
    unfold nx at h ⊢
    rw [if_pos q] at h ⊢
    generalize ern L b 32 32 σ.2.2.1 = s at *
    split
    · rename_i g; exact ⟨h0, fun _ => g⟩
    · split
      · exact ⟨h0, fun z => absurd z (by simp)⟩
      · split
        · split
          · rename_i g1 g2 g3 g4
            rw [if_neg g1, if_neg g2, if_pos g3, if_pos g4] at h
            exact absurd h (by simp [rf])
          · exact ⟨h0, fun z => absurd z (by simp)⟩
        · split
          · exact ⟨h0, fun z => absurd z (by simp)⟩
          · rename_i g1 g2 g3 g4
            rw [if_neg g1, if_neg g2, if_neg g3, if_neg g4] at h
            exact absurd h (by simp [rf])
  · rw [nx_f q] at h; exact absurd h q
theorem b_endOfRun {L lo hi : Nat} {b : Nat → Nat} {p : Nat} {t : S2} {K : Int32 → S2 → Prop} (B : BB L b) (h1 : t 0 1 = nI L) (hb : ∀ j, j < L → t 1 j = nI (b j)) (hp : p ≤ L) (hlo : lo < 128) (hhi : hi < 128) (k : K (nI (ern L b lo hi p)) t) : w_X1_endOfRun (nI p) (nI lo) (nI hi) t K := by
  unfold w_X1_endOfRun
  intro G hG
  have hL := B.1
  have main : ∀ d p, p + d = L → (∀ q, ern L b lo hi p = q → K (nI q) t) → G (nI p) := by
    intro d
    induction d with
    | zero =>
      intro p hp k
      refine hG _ (br_pos ?_ (k p (ern_hi (by omega))))
      rw [h1]; exact nI_le (by omega) (by omega)
    | succ d ih =>
      intro p hp k
      have bp := B.2 p (by omega)
      refine hG _ (br_neg (by rw [h1]; exact nI_ge (by omega) (by omega)) ⟨z_in (by omega) (by omega), ?_⟩)
      rw [z_cl (by omega), hb p (by omega)]
      refine br_in (fun q => k p ?_) (fun q => ⟨z_in (by omega) (by omega), br_in (fun q2 => k p ?_) (fun q2 => nm_in ?_)⟩)
      · have := (nI_ltI (by omega) (by omega)).mp q
        rw [ern_lo (by omega), if_neg (by omega)]
      · have := (nI_ltI (by omega) (by omega)).mp q2
        rw [ern_lo (by omega), if_neg (by omega)]
      · rw [nI_ltI (by omega) (by omega)] at q q2
        rw [nI_1]
        refine ih (p + 1) (by omega) (fun y hy => k y ?_)
        rw [ern_lo (by omega), if_pos (by omega)]; exact hy
  exact main (L - p) p (by omega) (fun q hq => by rw [← hq]; exact k)
theorem cl_refuse {L c : Nat} {b : Nat → Nat} {σ : SG} {t : S2} {K : S2 → Prop} (T : TR L b σ t) (hf : σ.1 ≤ 6) (k : ∀ t', TR L b (rf c σ) t' → t' 0 7 = t 0 7 → t' 0 8 = t 0 8 → K t') : w_X1_refuse (nI c) (t 0 6) t K := by
  obtain ⟨t1, tb, t2, t3, t4, t5, t6⟩ := T
  unfold w_X1_refuse
  by_cases q : σ.1 = 0
  · refine br_pos (by rw [t2, q]; rfl) (nm_in (nm_in (k _ ?_ rfl rfl)))
    unfold rf
    rw [if_pos q]
    exact ⟨t1, tb, rfl, fun _ => t6, t4, t5, t6⟩
  · refine br_neg (by rw [t2]; exact nI_ne0 (by omega) (by omega)) (k _ ?_ rfl rfl)
    rw [rf_F q]
    exact ⟨t1, tb, t2, t3, t4, t5, t6⟩
def OKw (L : Nat) (σ : SG) : Prop := σ.1 ≤ 6 ∧ True ∧ σ.2.2.1 ≤ L ∧ True
theorem OK.w {L : Nat} {σ : SG} (h : OK L σ) : OKw L σ := ⟨h.1, trivial, h.2.2.1, trivial⟩
theorem cl_nextW {L : Nat} {b : Nat → Nat} {σ : SG} {t : S2} {K : S2 → Prop} (B : BB L b) (T : TR L b σ t) (ok : OKw L σ) (k : ∀ t', TR L b (nx L b σ) t' → t' 0 7 = t 0 7 → t' 0 8 = t 0 8 → K t') : w_X1_next t K := by
  have hL := B.1
  obtain ⟨t1, tb, t2, t3, t4, t5, t6⟩ := id T
  unfold w_X1_next
  by_cases q : σ.1 = 0
  · refine br_pos (by rw [t2, q]; rfl) ?_
    rw [t4]
    refine b_endOfRun (lo := 32) (hi := 32) B t1 tb ok.2.2.1 (by omega) (by omega) (nm_in ?_)
    have h1 : ern L b 32 32 σ.2.2.1 ≤ L := ern_le L b 32 32 (L - σ.2.2.1) σ.2.2.1 (by have := ok.2.2.1; omega)
    unfold nx at k
    rw [if_pos q] at k
    generalize ern L b 32 32 σ.2.2.1 = s at *
    have h2 : ern L b 97 122 s ≤ L := ern_le L b _ _ (L - s) s (by omega)
    have h3 : ern L b 48 57 s ≤ L := ern_le L b _ _ (L - s) s (by omega)
    obtain ⟨t5, e5⟩ : ∃ z, z = va_up t 0 (upd (t 0) 6 (nI s)) := ⟨_, rfl⟩
    rw [← e5]
    have f6 : t5 0 6 = nI s := by rw [e5]; rfl
    have f1 : t5 0 1 = nI L := by rw [e5]; exact t1
    have fb : ∀ j, j < L → t5 1 j = nI (b j) := by rw [e5]; exact tb
    have f2 : t5 0 2 = nI 0 := by rw [e5]; exact t2.trans (by rw [q])
    have f7 : t5 0 7 = t 0 7 := by rw [e5]; rfl
    have f8 : t5 0 8 = t 0 8 := by rw [e5]; rfl
    -- two numbers set
    have set2 : ∀ x y : Nat, TR L b (0, s, y, s, x) (va_up (va_up t5 0 (upd (t5 0) 5 (nI x))) 0 (upd ((va_up t5 0 (upd (t5 0) 5 (nI x))) 0) 4 (nI y))) := fun x y => ⟨f1, fb, f2, fun z => absurd rfl z, rfl, rfl, f6⟩
    rw [f6]
    refine b_endOfRun (lo := 97) (hi := 122) B f1 fb h1 (by omega) (by omega) ?_
    rw [f6]
    refine b_endOfRun (lo := 48) (hi := 57) B f1 fb h1 (by omega) (by omega) ?_
    rw [f6, f1]
    refine br_in (fun q1 => ?_) (fun q1 => ?_)
    · rw [nI_ltI (by omega) (by omega)] at q1
      rw [if_neg (by omega)] at k
      refine br_in (fun q2 => ?_) (fun q2 => ?_)
      · rw [nI_leI (by omega) (by omega)] at q2
        rw [if_neg (by omega)] at k
        refine br_in (fun q3 => nm_in (nm_in ?_)) (fun q3 => nm_in (nm_in ?_))
        · rw [nI_leI (by omega) (by omega)] at q3
          rw [if_neg (by omega)] at k
          have hs := set2 3 (s + 1)
          rw [show ((va_up t5 0 (upd (t5 0) 5 3)) 0 6 + 1 : Int32) = nI (s + 1) by rw [← nI_1, ← f6]; rfl]
          generalize ev : va_up (va_up t5 0 (upd (t5 0) 5 3)) 0 (upd ((va_up t5 0 (upd (t5 0) 5 3)) 0) 4 (nI (s + 1))) = v
          have hs : TR L b (0, s, s + 1, s, 3) v := by rw [← ev]; exact hs
          have v6 : v 0 6 = nI s := hs.2.2.2.2.2.2
          have v7 : v 0 7 = t 0 7 := by rw [← ev]; exact f7
          have v8 : v 0 8 = t 0 8 := by rw [← ev]; exact f8
          have bs := B.2 s (by omega)
          refine ⟨by rw [v6]; exact z_in (by omega) (by omega), ?_⟩
          refine br_in (fun q4 => k v ?_ v7 v8) (fun q4 => cl_refuse (c := 1) hs (by simp) (fun t' h7 g7 g8 => k t' ?_ (g7.trans v7) (g8.trans v8)))
          · rw [v6, z_cl (by omega), hs.2.1 s (by omega)] at q4
            rw [if_pos ((nI_eq (b := 59) (by omega) (by omega)).mp q4)]; exact hs
          · rw [v6, z_cl (by omega), hs.2.1 s (by omega)] at q4
            rw [if_neg (fun z => q4 (by rw [z]; rfl))]; exact h7
        · rw [nI_leI (by omega) (by omega)] at q3
          rw [if_pos (by omega)] at k
          have hs := set2 2 (ern L b 48 57 s)
          generalize ev : va_up (va_up t5 0 (upd (t5 0) 5 2)) 0 (upd ((va_up t5 0 (upd (t5 0) 5 2)) 0) 4 (nI (ern L b 48 57 s))) = v
          have hs : TR L b (0, s, ern L b 48 57 s, s, 2) v := by rw [← ev]; exact hs
          have v6 : v 0 6 = nI s := hs.2.2.2.2.2.2
          have v4 : v 0 4 = nI (ern L b 48 57 s) := hs.2.2.2.2.1
          have v7 : v 0 7 = t 0 7 := by rw [← ev]; exact f7
          have v8 : v 0 8 = t 0 8 := by rw [← ev]; exact f8
          refine br_in (fun q4 => k v ?_ v7 v8) (fun q4 => cl_refuse (c := 1) hs (by simp) (fun t' h7 g7 g8 => k t' ?_ (g7.trans v7) (g8.trans v8)))
          · rw [v6, v4, pk_sub (by omega), show (2 : Int32) = nI 2 from rfl, nI_leI (by omega) (by omega)] at q4
            rw [if_neg (by omega)]; exact hs
          · rw [v6, v4, pk_sub (by omega), show (2 : Int32) = nI 2 from rfl, nI_leI (by omega) (by omega)] at q4
            rw [if_pos (by omega)]; exact h7
      · rw [nI_leI (by omega) (by omega)] at q2
        rw [if_pos (by omega)] at k
        exact nm_in (nm_in (k _ (set2 1 _) f7 f8))
    · rw [nI_ltI (by omega) (by omega)] at q1
      rw [if_pos (by omega)] at k
      refine nm_in (nm_in (k _ ?_ f7 f8))
      have := set2 0 s
      rw [show ((va_up t5 0 (upd (t5 0) 5 0)) 0 6 : Int32) = nI s from f6]
      exact this
  · refine br_neg (by rw [t2]; exact nI_ne0 (by omega) (by have := ok.1; omega)) (k _ ?_ rfl rfl)
    rw [nx_f q]; exact T
theorem cl_next {L : Nat} {b : Nat → Nat} {σ : SG} {t : S2} {K : S2 → Prop} (B : BB L b) (T : TR L b σ t) (ok : OK L σ) (k : ∀ t', TR L b (nx L b σ) t' → t' 0 7 = t 0 7 → t' 0 8 = t 0 8 → K t') : w_X1_next t K := cl_nextW B T ok.w k
