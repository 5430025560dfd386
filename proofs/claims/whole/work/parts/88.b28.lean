theorem mt4 {b : Nat → Nat} {s e c0 c1 c2 c3 : Nat} : (e = s + 4 ∧ ∀ i, i < 4 → b (s + i) = ([c0, c1, c2, c3] : List Nat).getD i 0) ↔ (e = s + 4 ∧ b s = c0 ∧ b (s + 1) = c1 ∧ b (s + 2) = c2 ∧ b (s + 3) = c3) := by
  constructor
  · rintro ⟨h1, h2⟩; exact ⟨h1, h2 0 (by omega), h2 1 (by omega), h2 2 (by omega), h2 3 (by omega)⟩
  · rintro ⟨h1, a0, a1, a2, a3⟩
    refine ⟨h1, fun i hi => ?_⟩
    match i, hi with
    | 0, _ => exact a0
    | 1, _ => exact a1
    | 2, _ => exact a2
    | 3, _ => exact a3
    | n + 4, h => exact absurd h (by omega)
theorem mt5 {b : Nat → Nat} {s e c0 c1 c2 c3 c4 : Nat} : (e = s + 5 ∧ ∀ i, i < 5 → b (s + i) = ([c0, c1, c2, c3, c4] : List Nat).getD i 0) ↔ ((e = s + 5 ∧ b s = c0 ∧ b (s + 1) = c1 ∧ b (s + 2) = c2 ∧ b (s + 3) = c3) ∧ b (s + 4) = c4) := by
  constructor
  · rintro ⟨h1, h2⟩; exact ⟨⟨h1, h2 0 (by omega), h2 1 (by omega), h2 2 (by omega), h2 3 (by omega)⟩, h2 4 (by omega)⟩
  · rintro ⟨⟨h1, a0, a1, a2, a3⟩, a4⟩
    refine ⟨h1, fun i hi => ?_⟩
    match i, hi with
    | 0, _ => exact a0
    | 1, _ => exact a1
    | 2, _ => exact a2
    | 3, _ => exact a3
    | 4, _ => exact a4
    | n + 5, h => exact absurd h (by omega)
theorem mt7 {b : Nat → Nat} {s e c0 c1 c2 c3 c4 c5 c6 : Nat} : (e = s + 7 ∧ ∀ i, i < 7 → b (s + i) = ([c0, c1, c2, c3, c4, c5, c6] : List Nat).getD i 0) ↔ ((e = s + 7 ∧ b s = c0 ∧ b (s + 1) = c1 ∧ b (s + 2) = c2 ∧ b (s + 3) = c3) ∧ b (s + 4) = c4 ∧ b (s + 5) = c5 ∧ b (s + 6) = c6) := by
  constructor
  · rintro ⟨h1, h2⟩; exact ⟨⟨h1, h2 0 (by omega), h2 1 (by omega), h2 2 (by omega), h2 3 (by omega)⟩, h2 4 (by omega), h2 5 (by omega), h2 6 (by omega)⟩
  · rintro ⟨⟨h1, a0, a1, a2, a3⟩, a4, a5, a6⟩
    refine ⟨h1, fun i hi => ?_⟩
    match i, hi with
    | 0, _ => exact a0
    | 1, _ => exact a1
    | 2, _ => exact a2
    | 3, _ => exact a3
    | 4, _ => exact a4
    | 5, _ => exact a5
    | 6, _ => exact a6
    | n + 7, h => exact absurd h (by omega)
theorem md_is {L n c0 c1 c2 c3 : Nat} {b : Nat → Nat} {σ : SG} {mo : S2} {lo : SL} {K : Int32 → S2 → SL → Prop} (B : BB L b) (M : MR L b σ mo) (ok : OK L σ) (hn : 4 ≤ n ∧ n ≤ 7) (hc : c0 < 128 ∧ c1 < 128 ∧ c2 < 128 ∧ c3 < 128) (k1 : (σ.2.2.1 = σ.2.2.2.1 + n ∧ b σ.2.2.2.1 = c0 ∧ b (σ.2.2.2.1 + 1) = c1 ∧ b (σ.2.2.2.1 + 2) = c2 ∧ b (σ.2.2.2.1 + 3) = c3) → K 1 mo lo) (k0 : ¬ (σ.2.2.1 = σ.2.2.2.1 + n ∧ b σ.2.2.2.1 = c0 ∧ b (σ.2.2.2.1 + 1) = c1 ∧ b (σ.2.2.2.1 + 2) = c2 ∧ b (σ.2.2.2.1 + 3) = c3) → K 0 mo lo) : w_X4_is (nI n) (nI c0) (nI c1) (nI c2) (nI c3) mo lo K := by
  have hL := B.1
  obtain ⟨m10, m5, m15, m16, m11, m13, m12, m14⟩ := M
  have o1 := ok.2.1
  have o2 := ok.2.2.1
  generalize σ.2.2.1 = e at *
  generalize σ.2.2.2.1 = s at *
  have cq : ∀ i c, s + i < L → c < 128 → (nI (b (s + i)) = nI c ↔ b (s + i) = c) := fun i c hi hc => nI_eq (by have := B.2 (s + i) hi; omega) (by omega)
  unfold w_X4_is
  rw [m11, m12, pk_sub o1]
  refine br_in (fun q => ?_) (fun q => k0 (fun z => q (by rw [z.1]; congr 1; omega)))
  have q := (nI_eq (by omega) (by omega)).mp q
  refine md_byteAt (p := s) (b := b) hL m10 m5 rfl (by omega) (fun z => ?_) (fun z => absurd z (by omega))
  refine br_in (fun q0 => ?_) (fun q0 => k0 (fun z => q0 (by rw [z.2.1])))
  have q0 := (cq 0 c0 (by omega) hc.1).mp q0
  refine md_byteAt (p := s + 1) (b := b) hL m10 m5 (by rw [m12, nI_1]) (by omega) (fun z => ?_) (fun z => absurd z (by omega))
  refine br_in (fun q1 => ?_) (fun q1 => k0 (fun z => q1 (by rw [z.2.2.1])))
  have q1 := (cq 1 c1 (by omega) hc.2.1).mp q1
  refine md_byteAt (p := s + 2) (b := b) hL m10 m5 (by rw [m12]; exact z_add s 2) (by omega) (fun z => ?_) (fun z => absurd z (by omega))
  refine br_in (fun q2 => ?_) (fun q2 => k0 (fun z => q2 (by rw [z.2.2.2.1])))
  have q2 := (cq 2 c2 (by omega) hc.2.2.1).mp q2
  refine md_byteAt (p := s + 3) (b := b) hL m10 m5 (by rw [m12]; exact z_add s 3) (by omega) (fun z => ?_) (fun z => absurd z (by omega))
  refine br_in (fun q3 => k1 ⟨by omega, q0, q1, q2, (cq 3 c3 (by omega) hc.2.2.2).mp q3⟩) (fun q3 => k0 (fun z => q3 (by rw [z.2.2.2.2])))
theorem md_ends1 {L c : Nat} {b : Nat → Nat} {σ : SG} {mo : S2} {lo : SL} {K : Int32 → S2 → SL → Prop} (B : BB L b) (M : MR L b σ mo) (hs : σ.2.2.2.1 + 4 < L) (hc : c < 128) (k1 : b (σ.2.2.2.1 + 4) = c → K 1 mo lo) (k0 : ¬ b (σ.2.2.2.1 + 4) = c → K 0 mo lo) : w_X4_ends (nI c) 0 0 mo lo K := by
  have hL := B.1
  obtain ⟨m10, m5, m15, m16, m11, m13, m12, m14⟩ := M
  generalize σ.2.2.2.1 = s at *
  have b4 := B.2 (s + 4) hs
  unfold w_X4_ends
  refine md_byteAt (p := s + 4) (b := b) hL m10 m5 (by rw [m12]; exact z_add s 4) (by omega) (fun z => ?_) (fun z => absurd z (by omega))
  refine br_in (fun q => ?_) (fun q => k0 (fun z => q (by rw [z])))
  have k1 := k1 ((nI_eq (by omega) (by omega)).mp q)
  exact jn_in (fun J => J mo lo) (br_pos rfl k1) (fun J hJ => br_pos rfl hJ)
theorem md_ends3 {L c d e : Nat} {b : Nat → Nat} {σ : SG} {mo : S2} {lo : SL} {K : Int32 → S2 → SL → Prop} (B : BB L b) (M : MR L b σ mo) (hs : σ.2.2.2.1 + 6 < L) (hc : c < 128 ∧ d < 128 ∧ e < 128) (h0 : d ≠ 0 ∧ e ≠ 0) (k1 : b (σ.2.2.2.1 + 4) = c ∧ b (σ.2.2.2.1 + 5) = d ∧ b (σ.2.2.2.1 + 6) = e → K 1 mo lo) (k0 : ¬ (b (σ.2.2.2.1 + 4) = c ∧ b (σ.2.2.2.1 + 5) = d ∧ b (σ.2.2.2.1 + 6) = e) → K 0 mo lo) : w_X4_ends (nI c) (nI d) (nI e) mo lo K := by
  have hL := B.1
  obtain ⟨m10, m5, m15, m16, m11, m13, m12, m14⟩ := M
  generalize σ.2.2.2.1 = s at *
  have b4 := B.2 (s + 4) (by omega)
  have b5 := B.2 (s + 5) (by omega)
  have b6 := B.2 (s + 6) (by omega)
  unfold w_X4_ends
  refine md_byteAt (p := s + 4) (b := b) hL m10 m5 (by rw [m12]; exact z_add s 4) (by omega) (fun z => ?_) (fun z => absurd z (by omega))
  refine br_in (fun q => ?_) (fun q => k0 (fun z => q (by rw [z.1])))
  have q := (nI_eq (by omega) (by omega)).mp q
  refine jn_in (fun J => b (s + 5) = d → J mo lo) (fun q2 => br_neg (nI_ne0 (by omega) (by omega)) ?_) (fun J hJ => br_neg (nI_ne0 (by omega) (by omega)) ?_)
  · refine md_byteAt (p := s + 6) (b := b) hL m10 m5 (by rw [m12]; exact z_add s 6) (by omega) (fun z => ?_) (fun z => absurd z (by omega))
    exact br_in (fun q3 => k1 ⟨q, q2, (nI_eq (by omega) (by omega)).mp q3⟩) (fun q3 => k0 (fun z => q3 (by rw [z.2.2])))
  · refine md_byteAt (p := s + 5) (b := b) hL m10 m5 (by rw [m12]; exact z_add s 5) (by omega) (fun z => ?_) (fun z => absurd z (by omega))
    exact br_in (fun q3 => hJ ((nI_eq (by omega) (by omega)).mp q3)) (fun q3 => k0 (fun z => q3 (by rw [z.2.1])))
/-- a name of five letters looked for -/
theorem md_t5 {L c0 c1 c2 c3 c4 : Nat} {b : Nat → Nat} {σ : SG} {mo : S2} {lo : SL} {YES NO : S2 → SL → Prop} (B : BB L b) (M : MR L b σ mo) (ok : OK L σ) (hc : c0 < 128 ∧ c1 < 128 ∧ c2 < 128 ∧ c3 < 128) (hc4 : c4 < 128) (k1 : ((σ.2.2.1 = σ.2.2.2.1 + 5 ∧ b σ.2.2.2.1 = c0 ∧ b (σ.2.2.2.1 + 1) = c1 ∧ b (σ.2.2.2.1 + 2) = c2 ∧ b (σ.2.2.2.1 + 3) = c3) ∧ b (σ.2.2.2.1 + 4) = c4) → YES mo lo) (k0 : ¬ ((σ.2.2.1 = σ.2.2.2.1 + 5 ∧ b σ.2.2.2.1 = c0 ∧ b (σ.2.2.2.1 + 1) = c1 ∧ b (σ.2.2.2.1 + 2) = c2 ∧ b (σ.2.2.2.1 + 3) = c3) ∧ b (σ.2.2.2.1 + 4) = c4) → NO mo lo) : w_X4_is 5 (nI c0) (nI c1) (nI c2) (nI c3) mo lo (fun r3 mo1 lo2 => jn (fun (mo5 : S2) (lo6 : SL) => NO mo5 lo6) (fun J29 => br (r3 = 0) (J29 mo1 lo2) (w_X4_ends (nI c4) (0 : Int32) (0 : Int32) mo1 lo2 (fun r44 mo42 lo43 => br (r44 = 0) (J29 mo42 lo43) (YES mo42 lo43))))) := by
  refine md_is (n := 5) B M ok (by omega) hc (fun h => ?_) (fun h => ?_)
  · refine jn_in (fun J => ¬ b (σ.2.2.2.1 + 4) = c4 → J mo lo) (fun z => k0 (fun y => z y.2)) (fun J hJ => br_neg n10 ?_)
    exact md_ends1 B M (by have := ok.2.2.1; omega) hc4 (fun z => br_neg n10 (k1 ⟨h, z⟩)) (fun z => br_pos rfl (hJ z))
  · exact jn_in (fun J => J mo lo) (k0 (fun y => h y.1)) (fun J hJ => br_pos rfl hJ)
theorem mt_uniq {b : Nat → Nat} {s e i j : Nat} (hi : i < 7) (hj : j < 7) (h1 : mtB b s e i) (h2 : mtB b s e j) : i = j := by
  have p : ∀ k, k < 7 → 0 < (nmA k).length := by decide
  have a := h1.2 0 (p i hi)
  have c := h2.2 0 (p j hj)
  rw [a] at c
  have : ∀ i, i < 7 → ∀ j, j < 7 → (nmA i).getD 0 0 = (nmA j).getD 0 0 → i = j := by decide
  exact this i hi j hj c
def cod (ln : Nat) : Int32 := if ln < 4 then nI ln else if ln = 4 then 5 else if ln = 5 then 6 else if ln = 6 then 4 else -4
theorem LN_of {b : Nat → Nat} {σ : SG} {ln j : Nat} (h : LN b σ ln) (q : σ.2.2.2.2 = 1) (hj : j < 7) (m : mtB b σ.2.2.2.1 σ.2.2.1 j) : ln = j := by
  obtain ⟨h1, h2⟩ := h.1 q
  rcases h1 with ⟨a, c⟩ | a
  · exact mt_uniq a hj c m
  · exact absurd m (h2 j (by omega))
theorem md_lineNow {L ln : Nat} {b : Nat → Nat} {σ : SG} {mo : S2} {lo : SL} {K : Int32 → S2 → SL → Prop} (B : BB L b) (M : MR L b σ mo) (ok : OK L σ) (q : σ.2.2.2.2 = 1) (h : LN b σ ln) (k : K (cod ln) mo lo) : w_X4_lineNow mo lo K := by
  have yes : ∀ j, j < 7 → mtB b σ.2.2.2.1 σ.2.2.1 j → K (cod j) mo lo := fun j hj m => by rw [← LN_of h q hj m]; exact k
  unfold w_X4_lineNow
  refine md_is (n := 4) (c0 := 103) (c1 := 105) (c2 := 102) (c3 := 116) B M ok (by omega) (by omega) (fun y => br_neg n10 ?_) (fun y6 => br_pos rfl ?_)
  · exact yes 6 (by omega) (mt4.mpr y)
  refine md_t5 (c0 := 115) (c1 := 108) (c2 := 117) (c3 := 109) (c4 := 112) B M ok (by omega) (by omega) (fun y => ?_) (fun y4 => ?_)
  · exact yes 4 (by omega) (mt5.mpr y)
  refine md_is (n := 4) (c0 := 99) (c1 := 111) (c2 := 105) (c3 := 110) B M ok (by omega) (by omega) (fun y => br_neg n10 ?_) (fun y5 => br_pos rfl ?_)
  · exact yes 5 (by omega) (mt4.mpr y)
  unfold w_X4_kindNow
  refine md_t5 (c0 := 112) (c1 := 108) (c2 := 97) (c3 := 105) (c4 := 110) B M ok (by omega) (by omega) (fun y => ?_) (fun y0 => ?_)
  · exact yes 0 (by omega) (mt5.mpr y)
  refine md_t5 (c0 := 109) (c1 := 105) (c2 := 115) (c3 := 101) (c4 := 114) B M ok (by omega) (by omega) (fun y => ?_) (fun y1 => ?_)
  · exact yes 1 (by omega) (mt5.mpr y)
  -- none of the other names
  have last : ¬ mtB b σ.2.2.2.1 σ.2.2.1 2 → w_X4_is (5 : Int32) (108 : Int32) (117 : Int32) (99 : Int32) (107 : Int32) mo lo (fun r21 mo19 lo20 => br (r21 = 0) (K (-4) mo19 lo20) (w_X4_ends (121 : Int32) (0 : Int32) (0 : Int32) mo19 lo20 (fun r26 mo24 lo25 => br (r26 = 0) (K (-4) mo24 lo25) (K 3 mo24 lo25)))) := by
    intro y2
    have no : ¬ mtB b σ.2.2.2.1 σ.2.2.1 3 → K (-4) mo lo := fun y3 => by
      have e : ln = 7 := by
        obtain ⟨h1, h2⟩ := h.1 q
        rcases h1 with ⟨a, c⟩ | a
        · exfalso
          rcases (show ln = 0 ∨ ln = 1 ∨ ln = 2 ∨ ln = 3 ∨ ln = 4 ∨ ln = 5 ∨ ln = 6 by omega) with e | e | e | e | e | e | e
          · rw [e] at c; exact y0 (mt5.mp c)
          · rw [e] at c; exact y1 (mt5.mp c)
          · rw [e] at c; exact y2 c
          · rw [e] at c; exact y3 c
          · rw [e] at c; exact y4 (mt5.mp c)
          · rw [e] at c; exact y5 (mt4.mp c)
          · rw [e] at c; exact y6 (mt4.mp c)
        · exact a
      rw [e] at k; exact k
    refine md_is (n := 5) (c0 := 108) (c1 := 117) (c2 := 99) (c3 := 107) B M ok (by omega) (by omega) (fun y => br_neg n10 ?_) (fun y => br_pos rfl (no (fun z => y (mt5.mp z).1)))
    exact md_ends1 (c := 121) B M (by have := ok.2.2.1; omega) (by omega) (fun z => br_neg n10 (yes 3 (by omega) (mt5.mpr ⟨y, z⟩))) (fun z => br_pos rfl (no (fun u => z (mt5.mp u).2)))
  refine md_is (n := 7) (c0 := 102) (c1 := 111) (c2 := 117) (c3 := 110) B M ok (by omega) (by omega) (fun y => ?_) (fun y => ?_)
  · refine jn_in (fun J => ¬ mtB b σ.2.2.2.1 σ.2.2.1 2 → J mo lo) last (fun J hJ => br_neg n10 ?_)
    exact md_ends3 (c := 100) (d := 101) (e := 114) B M (by have := ok.2.2.1; omega) (by omega) (by omega) (fun z => br_neg n10 (yes 2 (by omega) (mt7.mpr ⟨y, z⟩))) (fun z => br_pos rfl (hJ (fun u => z (mt7.mp u).2)))
  · exact jn_in (fun J => J mo lo) (last (fun z => y (mt7.mp z).1)) (fun J hJ => br_pos rfl hJ)
