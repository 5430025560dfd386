/-! THE COUNTY, told by the reference's row of 57 numbers n and the number P of people -/
def plS (n : S1) (p : Nat) : Int32 := n (4 * p + 2) - 10 - n 21
def tbS (n : S1) (p : Nat) : Int32 := if n (4 * p) = 1 then plS n p + 1 else if n (4 * p) = 2 then (plS n p + 1) / 2 else plS n p
def pcS (n : S1) (p : Nat) : Nat → Int32
  | 0 => 0
  | r + 1 => if n (4 * p + 1) ≤ n (4 * r + 1) then pcS n p r else pcS n p r + 1
def cbS (P : Nat) (n : S1) (p : Nat) : Int32 := if n (4 * p) = 1 then 0 else if n (4 * p) = 2 then 15 else if n (4 * p) = 3 then 5 + 2 * pcS n p P else 5
def gF (n : S1) (i : Nat) : Nat := (n (25 + 4 * i)).toNatClampNeg
def gT (n : S1) (i : Nat) : Nat := (n (26 + 4 * i)).toNatClampNeg
def gM (n : S1) (i : Nat) : Int32 := if n (27 + 4 * i) < n (4 * gF n i + 1) then n (27 + 4 * i) else n (4 * gF n i + 1)
def gA (n : S1) (i : Nat) : S1 := upd n (4 * gF n i + 1) (n (4 * gF n i + 1) - gM n i)
def gfS (n : S1) (i : Nat) : S1 := if n (24 + 4 * i) = n 20 then upd (gA n i) (4 * gT n i + 1) (bnd (gA n i (4 * gT n i + 1) + gM n i)) else n
def gsS (n : S1) : Nat → S1
  | 0 => n
  | i + 1 => gfS (gsS n i) i
def brS (P : Nat) (n : S1) (p : Nat) : Int32 := tbS n p + (if n 22 = nI p then cbS P n p else 0)
def eaS (P : Nat) (n : S1) : Nat → S1
  | 0 => n
  | p + 1 => upd (eaS P n p) (4 * p + 1) (bnd (n (4 * p + 1) + brS P n p))
def hoS (n : S1) : Nat := (n 22).toNatClampNeg
def poS (n : S1) (P h : Nat) : Nat → Nat
  | 0 => h
  | k + 1 => if k = 0 ∨ n (4 * ((h + (k + 1)) % P) + 1) < n (4 * poS n P h k + 1) then (h + (k + 1)) % P else poS n P h k
def haS (P : Nat) (n : S1) (h : Nat) : Prop := 1 < P ∧ (if n (4 * h) = 1 then n (4 * h + 1) = 0 else ¬ n (4 * h + 1) < 10)
noncomputable def coS (P : Nat) (n : S1) : S1 := if P = 0 then n else by classical exact if haS P n (hoS n) then upd n 22 (nI (poS n P (hoS n) (P - 1))) else upd n (4 * hoS n + 3) (n (4 * hoS n + 3) + 1)
def meS (P : Nat) (n : S1) : S1 := eaS P (gsS n (n 23).toNatClampNeg) P
noncomputable def stS (P : Nat) (n : S1) : S1 := upd (coS P (meS P n)) 20 (coS P (meS P n) 20 + 1)
noncomputable def hdS (P : Nat) (n : S1) : Int32 := by classical exact if 0 < P ∧ haS P (meS P n) (hoS (meS P n)) then 1 else 0
/-- such a row as a run can have -/
def Vl (P : Nat) (n : S1) : Prop := P ≤ 5 ∧ (P = 0 → n 22 = -4) ∧ (0 < P → ∃ h, h < P ∧ n 22 = nI h) ∧ (∃ g, g ≤ 4 ∧ n 23 = nI g ∧ ∀ i, i < g → (∃ p, p < P ∧ n (25 + 4 * i) = nI p) ∧ ∃ r, r < P ∧ n (26 + 4 * i) = nI r) ∧ (∃ k, k ≤ 6 ∧ n 44 = nI k ∧ ∀ i, i < k → ∃ b, b ≤ 20 ∧ n (45 + 2 * i) = nI b) ∧ (∀ p, p < P → nI 0 ≤ n (4 * p + 1) ∧ n (4 * p + 1) ≤ nI 999)
/-- the class's world holds what the row tells -/
def WR (P : Nat) (w : S2) (n : S1) : Prop := w 0 0 = nI P ∧ w 0 1 = n 20 ∧ w 0 2 = n 21 ∧ (0 < P → w 0 3 = n 22) ∧ (P = 0 → w 0 3 = 0) ∧ w 0 4 = n 23 ∧ w 0 5 = n 44 ∧ (∀ p, p < P → w 1 p = n (4 * p) ∧ w 2 p = n (4 * p + 1) ∧ w 3 p = n (4 * p + 2) ∧ w 4 p = n (4 * p + 3)) ∧ (∀ j, j < 4 * (n 23).toNatClampNeg → w 5 j = n (24 + j)) ∧ (∀ i, i < (n 44).toNatClampNeg → w 6 i = n (45 + 2 * i) ∧ w 7 i = n (46 + 2 * i))
theorem WR_ms {P : Nat} {w : S2} {n : S1} (h : WR P w n) (hP : P ≤ 5) {f : Nat} (hf : f < P) (x : Int32) : WR P (va_up w 2 (upd (w 2) f x)) (upd n (4 * f + 1) x) := by
  obtain ⟨h0, h1, h2, h3, h4, h5, h6, h7, h8, h9⟩ := h
  have e : ∀ j, 20 ≤ j → upd n (4 * f + 1) x j = n j := fun j hj => z_upd_ne _ _ (by omega)
  refine ⟨h0, h1.trans (e _ (by omega)).symm, h2.trans (e _ (by omega)).symm, fun q => (h3 q).trans (e _ (by omega)).symm, h4, h5.trans (e _ (by omega)).symm, h6.trans (e _ (by omega)).symm, fun p hp => ?_, fun j hj => ?_, fun i hi => ?_⟩
  · obtain ⟨a, b, c, d⟩ := h7 p hp
    refine ⟨a.trans (z_upd_ne _ _ (by omega)).symm, ?_, c.trans (z_upd_ne _ _ (by omega)).symm, d.trans (z_upd_ne _ _ (by omega)).symm⟩
    show upd (w 2) f x p = _
    by_cases q : p = f
    · subst q; rw [z_upd_same, z_upd_same]
    · rw [z_upd_ne _ _ q, z_upd_ne _ _ (by omega)]; exact b
  · rw [e 23 (by omega)] at hj; rw [e _ (by omega)]; exact h8 j hj
  · rw [e 44 (by omega)] at hi; rw [e _ (by omega), e _ (by omega)]; exact h9 i hi
theorem WR_kp {P : Nat} {w : S2} {n : S1} (h : WR P w n) (hP : P ≤ 5) {f : Nat} (hf : f < P) (x : Int32) : WR P (va_up w 4 (upd (w 4) f x)) (upd n (4 * f + 3) x) := by
  obtain ⟨h0, h1, h2, h3, h4, h5, h6, h7, h8, h9⟩ := h
  have e : ∀ j, 20 ≤ j → upd n (4 * f + 3) x j = n j := fun j hj => z_upd_ne _ _ (by omega)
  refine ⟨h0, h1.trans (e _ (by omega)).symm, h2.trans (e _ (by omega)).symm, fun q => (h3 q).trans (e _ (by omega)).symm, h4, h5.trans (e _ (by omega)).symm, h6.trans (e _ (by omega)).symm, fun p hp => ?_, fun j hj => ?_, fun i hi => ?_⟩
  · obtain ⟨a, b, c, d⟩ := h7 p hp
    refine ⟨a.trans (z_upd_ne _ _ (by omega)).symm, b.trans (z_upd_ne _ _ (by omega)).symm, c.trans (z_upd_ne _ _ (by omega)).symm, ?_⟩
    show upd (w 4) f x p = _
    by_cases q : p = f
    · subst q; rw [z_upd_same, z_upd_same]
    · rw [z_upd_ne _ _ q, z_upd_ne _ _ (by omega)]; exact d
  · rw [e 23 (by omega)] at hj; rw [e _ (by omega)]; exact h8 j hj
  · rw [e 44 (by omega)] at hi; rw [e _ (by omega), e _ (by omega)]; exact h9 i hi
theorem WR_kd {P : Nat} {w : S2} {n : S1} (h : WR P w n) (hP : P ≤ 5) {f : Nat} (hf : f < P) (x : Int32) : WR P (va_up w 1 (upd (w 1) f x)) (upd n (4 * f) x) := by
  obtain ⟨h0, h1, h2, h3, h4, h5, h6, h7, h8, h9⟩ := h
  have e : ∀ j, 20 ≤ j → upd n (4 * f) x j = n j := fun j hj => z_upd_ne _ _ (by omega)
  refine ⟨h0, h1.trans (e _ (by omega)).symm, h2.trans (e _ (by omega)).symm, fun q => (h3 q).trans (e _ (by omega)).symm, h4, h5.trans (e _ (by omega)).symm, h6.trans (e _ (by omega)).symm, fun p hp => ?_, fun j hj => ?_, fun i hi => ?_⟩
  · obtain ⟨a, b, c, d⟩ := h7 p hp
    refine ⟨?_, b.trans (z_upd_ne _ _ (by omega)).symm, c.trans (z_upd_ne _ _ (by omega)).symm, d.trans (z_upd_ne _ _ (by omega)).symm⟩
    show upd (w 1) f x p = _
    by_cases q : p = f
    · subst q; rw [z_upd_same, z_upd_same]
    · rw [z_upd_ne _ _ q, z_upd_ne _ _ (by omega)]; exact a
  · rw [e 23 (by omega)] at hj; rw [e _ (by omega)]; exact h8 j hj
  · rw [e 44 (by omega)] at hi; rw [e _ (by omega), e _ (by omega)]; exact h9 i hi
theorem WR_td {P : Nat} {w : S2} {n : S1} (h : WR P w n) (hP : P ≤ 5) {f : Nat} (hf : f < P) (x : Int32) : WR P (va_up w 3 (upd (w 3) f x)) (upd n (4 * f + 2) x) := by
  obtain ⟨h0, h1, h2, h3, h4, h5, h6, h7, h8, h9⟩ := h
  have e : ∀ j, 20 ≤ j → upd n (4 * f + 2) x j = n j := fun j hj => z_upd_ne _ _ (by omega)
  refine ⟨h0, h1.trans (e _ (by omega)).symm, h2.trans (e _ (by omega)).symm, fun q => (h3 q).trans (e _ (by omega)).symm, h4, h5.trans (e _ (by omega)).symm, h6.trans (e _ (by omega)).symm, fun p hp => ?_, fun j hj => ?_, fun i hi => ?_⟩
  · obtain ⟨a, b, c, d⟩ := h7 p hp
    refine ⟨a.trans (z_upd_ne _ _ (by omega)).symm, b.trans (z_upd_ne _ _ (by omega)).symm, ?_, d.trans (z_upd_ne _ _ (by omega)).symm⟩
    show upd (w 3) f x p = _
    by_cases q : p = f
    · subst q; rw [z_upd_same, z_upd_same]
    · rw [z_upd_ne _ _ q, z_upd_ne _ _ (by omega)]; exact c
  · rw [e 23 (by omega)] at hj; rw [e _ (by omega)]; exact h8 j hj
  · rw [e 44 (by omega)] at hi; rw [e _ (by omega), e _ (by omega)]; exact h9 i hi
theorem WR_qu {P : Nat} {w : S2} {n : S1} (h : WR P w n) (hP : P ≤ 5) (x : Int32) : WR P (va_up w 0 (upd (w 0) 1 x)) (upd n 20 x) := by
  obtain ⟨h0, h1, h2, h3, h4, h5, h6, h7, h8, h9⟩ := h
  have e : ∀ j, j ≠ 20 → upd n 20 x j = n j := fun j hj => z_upd_ne _ _ hj
  refine ⟨h0, (z_upd_same _ _ _).symm, h2.trans (e _ (by omega)).symm, fun q => (h3 q).trans (e _ (by omega)).symm, h4, h5.trans (e _ (by omega)).symm, h6.trans (e _ (by omega)).symm, fun p hp => ?_, fun j hj => ?_, fun i hi => ?_⟩
  · obtain ⟨a, b, c, d⟩ := h7 p hp
    exact ⟨a.trans (e _ (by omega)).symm, b.trans (e _ (by omega)).symm, c.trans (e _ (by omega)).symm, d.trans (e _ (by omega)).symm⟩
  · rw [e 23 (by omega)] at hj; rw [e _ (by omega)]; exact h8 j hj
  · rw [e 44 (by omega)] at hi; rw [e _ (by omega), e _ (by omega)]; exact h9 i hi
theorem WR_sl {P : Nat} {w : S2} {n : S1} (h : WR P w n) (hP : P ≤ 5) (x : Int32) : WR P (va_up w 0 (upd (w 0) 2 x)) (upd n 21 x) := by
  obtain ⟨h0, h1, h2, h3, h4, h5, h6, h7, h8, h9⟩ := h
  have e : ∀ j, j ≠ 21 → upd n 21 x j = n j := fun j hj => z_upd_ne _ _ hj
  refine ⟨h0, h1.trans (e _ (by omega)).symm, (z_upd_same _ _ _).symm, fun q => (h3 q).trans (e _ (by omega)).symm, h4, h5.trans (e _ (by omega)).symm, h6.trans (e _ (by omega)).symm, fun p hp => ?_, fun j hj => ?_, fun i hi => ?_⟩
  · obtain ⟨a, b, c, d⟩ := h7 p hp
    exact ⟨a.trans (e _ (by omega)).symm, b.trans (e _ (by omega)).symm, c.trans (e _ (by omega)).symm, d.trans (e _ (by omega)).symm⟩
  · rw [e 23 (by omega)] at hj; rw [e _ (by omega)]; exact h8 j hj
  · rw [e 44 (by omega)] at hi; rw [e _ (by omega), e _ (by omega)]; exact h9 i hi
theorem WR_ho {P : Nat} {w : S2} {n : S1} (h : WR P w n) (hP : P ≤ 5) (h0P : 0 < P) (x : Int32) : WR P (va_up w 0 (upd (w 0) 3 x)) (upd n 22 x) := by
  obtain ⟨h0, h1, h2, h3, h4, h5, h6, h7, h8, h9⟩ := h
  have e : ∀ j, j ≠ 22 → upd n 22 x j = n j := fun j hj => z_upd_ne _ _ hj
  refine ⟨h0, h1.trans (e _ (by omega)).symm, h2.trans (e _ (by omega)).symm, fun q => (z_upd_same _ _ _).symm, fun q => absurd q (by omega), h5.trans (e _ (by omega)).symm, h6.trans (e _ (by omega)).symm, fun p hp => ?_, fun j hj => ?_, fun i hi => ?_⟩
  · obtain ⟨a, b, c, d⟩ := h7 p hp
    exact ⟨a.trans (e _ (by omega)).symm, b.trans (e _ (by omega)).symm, c.trans (e _ (by omega)).symm, d.trans (e _ (by omega)).symm⟩
  · rw [e 23 (by omega)] at hj; rw [e _ (by omega)]; exact h8 j hj
  · rw [e 44 (by omega)] at hi; rw [e _ (by omega), e _ (by omega)]; exact h9 i hi
