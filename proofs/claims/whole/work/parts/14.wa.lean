def w_X0_renew (p1 : Int32) (p2 : Int32) (w : S2) (K : S2 → Prop) : Prop := nm ((va_up w 0 (upd (w 0) 0 p1)) : S2) (fun w1 => nm ((va_up w1 0 (upd (w1 0) 1 p2)) : S2) (fun w2 => lfp2 (fun G12 (i3 : Int32) (w4 : S2) => br (40 ≤ i3) (K w4) (vp_in i3 40 ∧ (nm ((va_up w4 1 (upd (w4 1) i3.toNatClampNeg 0)) : S2) (fun w7 => nm (i3 + 1 : Int32) (fun x8 => G12 x8 w7))))) 0 w2))
abbrev rm_X0_renew : Room := { frames := 0, cells := 0, slots := 0, locals := 0 }
set_option maxHeartbeats 4000000 in
set_option maxRecDepth 100000 in
theorem c_X0_renew (l : Launch) (D : va_G) (kc : Nat → ClassId) (a : Nat → Nat) (p1 : Int32) (p2 : Int32) (w : S2) (sz : Nat) (K : S2 → Prop) (h : w_X0_renew p1 p2 w K) : MetV l yX0_renew wsX0_renew rm_X0_renew D kc (fun u : S2 => cSh kc a u) w [.ref (a 0), .int p1, .int p2] sz (fun u => K u) := by
  refine q_ev (code := cX0_renew) (maxL := 4) (by decide) rfl (Nat.le_of_ble_eq_true rfl) ?_
  intro p e s m args below meth c Q A hx hb hml hts hown hK hA hret ls hl hP hD hS
  have hown : s.vm.findClass RX0 = some m.cls := hown
  have hl : lv_has ls 4 [(0, .ref (a 0)), (1, .int p1), (2, .int p2)] := hl
  have hP : va_P D vwCl (cSh kc a w) s.heap := hP
  have hD : va_D A (cSh kc a w) := hD
  have hS : va_S A s.heap s.heap [] := hS
  obtain ⟨H, eH⟩ : ∃ z, z = s.heap := ⟨_, rfl⟩
  obtain ⟨locs, eL⟩ : ∃ z : List Loc, z = [] := ⟨_, rfl⟩
  have hP := q_heap hP eH
  have hS := q_heapS hS eH eL
  refine q_start eH eL ?_
  clear eH eL
  have hi0 : ∀ w ∈ u_ws RX0 TX0 3, w ∈ wsX0_renew := by decide +kernel
  unfold w_X0_renew at h
  refine lv_aload_n hx hb dX0_renew_0 rfl (lv_at hl 0 rfl) ?_
  refine lv_iload_n hx hb dX0_renew_1 rfl (lv_at hl 1 rfl) ?_
  refine va_put (D := D) (ci := 0) (v := .int p1) (ty := .int) (C := RX0) (T := TX0) (N := 3) hx hb hts hi0 tyX0 tyX0_ok nmX0 hown hK.1 hP hD hS 0 rfl rfl 0 (by decide) (hts (.fieldLink RX0 11 "LastPenny$Sheet" "lane" "I") (by decide +kernel)) (fun _ h9 => h9) rfl (by decide +kernel) rfl rfl (Nat.le_of_ble_eq_true rfl) dX0_renew_2 (fun H locs hP hD hS => ?_)
  obtain ⟨w1, ew1⟩ : ∃ z, z = (va_up w 0 (upd (w 0) 0 p1)) := ⟨_, rfl⟩
  have h := nm_out h w1 ew1
  have hP : va_P D vwCl (cSh kc a w1) H := q_to hP (by subst ew1; rfl)
  have hD : va_D A (cSh kc a w1) := q_toD hD (by subst ew1; rfl)
  refine lv_aload_n hx hb dX0_renew_5 rfl (lv_at hl 0 rfl) ?_
  refine lv_iload_n hx hb dX0_renew_6 rfl (lv_at hl 2 rfl) ?_
  refine va_put (D := D) (ci := 0) (v := .int p2) (ty := .int) (C := RX0) (T := TX0) (N := 3) hx hb hts hi0 tyX0 tyX0_ok nmX0 hown hK.1 hP hD hS 0 rfl rfl 1 (by decide) (hts (.fieldLink RX0 19 "LastPenny$Sheet" "size" "I") (by decide +kernel)) (fun _ h9 => h9) rfl (by decide +kernel) rfl rfl (Nat.le_of_ble_eq_true rfl) dX0_renew_7 (fun H locs hP hD hS => ?_)
  obtain ⟨w2, ew2⟩ : ∃ z, z = (va_up w1 0 (upd (w1 0) 1 p2)) := ⟨_, rfl⟩
  have h := nm_out h w2 ew2
  have hP : va_P D vwCl (cSh kc a w2) H := q_to hP (by subst ew2; rfl)
  have hD : va_D A (cSh kc a w2) := q_toD hD (by subst ew2; rfl)
  refine lv_iconst (v := 0) hx hb dX0_renew_10 (by decide) ?_
  refine lv_istore_n (lv' := [(3, .int 0), (0, .ref (a 0)), (1, .int p1), (2, .int p2)]) hx hb dX0_renew_11 rfl hl (by decide) rfl (fun ls hl => ?_)
  refine h (fun (i3 : Int32) (w4 : S2) => ∀ (ls : Array Slot) (H : Heap) (locs : List Loc), lv_has ls 4 [(0, .ref (a 0)), (3, .int i3)] → va_P D vwCl (cSh kc a w4) H → va_D A (cSh kc a w4) → va_S A s.heap H locs → W p l e rm_X0_renew s m args below meth c H locs 0 0 Q (F0 m 12 ls [])) ?_ ls H locs (lv_sub hl [1, 0] rfl) hP hD hS
  intro i3 w4 h ls H locs hl hP hD hS
  refine lv_iload_n hx hb dX0_renew_12 rfl (lv_at hl 1 rfl) ?_
  refine lv_bipush (v := 40) hx hb dX0_renew_13 (by decide) ?_
  refine lv_icmp_ge (tgt := 31) hx hb dX0_renew_15 (by decide) (fun c5 => ?_) (fun c5 => ?_)
  · have h := br1 h c5
    exact hret w4 H locs ls _ h hP hD hS dX0_renew_31
  · have h := br2 h c5
    refine lv_aload_n hx hb dX0_renew_18 rfl (lv_at hl 0 rfl) ?_
    refine va_get (D := D) (ci := 0) (v := .ref (a 1)) (C := RX0) (T := TX0) (N := 3) hx hb hts hi0 hown hK.1 hP 0 rfl rfl 2 (by decide) (hts (.fieldLink RX0 15 "LastPenny$Sheet" "cells" "[I") (by decide +kernel)) (fun _ h9 => h9) rfl dX0_renew_19 ?_
    refine lv_iload_n hx hb dX0_renew_22 rfl (lv_at hl 1 rfl) ?_
    refine lv_iconst (v := 0) hx hb dX0_renew_23 (by decide) ?_
    obtain ⟨hi_6, h⟩ := h
    refine va_iast hx hb hK.1 hP hD hS 1 0 rfl rfl hi_6 dX0_renew_24 (fun H locs hP hD hS => ?_)
    obtain ⟨w7, ew7⟩ : ∃ z, z = (va_up w4 1 (upd (w4 1) i3.toNatClampNeg 0)) := ⟨_, rfl⟩
    have h := nm_out h w7 ew7
    have hP : va_P D vwCl (cSh kc a w7) H := q_to hP (by subst ew7; rfl)
    have hD : va_D A (cSh kc a w7) := q_toD hD (by subst ew7; rfl)
    obtain ⟨x8, ex8⟩ : ∃ z : Int32, z = i3 + 1 := ⟨_, rfl⟩
    have h := nm_out h x8 ex8
    refine lv_iinc (v := x8) (lv' := [(3, .int x8), (0, .ref (a 0))]) hx hb dX0_renew_25 hl (k := 1) rfl (by rw [ex8]; rfl) (by decide) rfl (fun ls hl => ?_)
    refine lv_goto (tgt := 12) hx hb dX0_renew_28 (by decide) ?_
    exact h ls H locs (lv_sub hl [1, 0] rfl) hP hD hS

def w_X3_within (p0 : Int32) (p1 : Int32) (p2 : Int32) (K : Int32 → Prop) : Prop := br (p0 < p1) (K 0) (br (p2 < p0) (K 0) (K 1))
abbrev rm_X3_within : Room := { frames := 0, cells := 0, slots := 0, locals := 0 }
set_option maxHeartbeats 4000000 in
set_option maxRecDepth 100000 in
theorem c_X3_within (l : Launch) (D : va_G) (kc : Nat → ClassId) (p0 : Int32) (p1 : Int32) (p2 : Int32) (sz : Nat) (K : Int32 → Prop) (h : w_X3_within p0 p1 p2 K) : MetI l yX3_within wsX3_within rm_X3_within D kc (fun _ : Unit => []) () [.int p0, .int p1, .int p2] sz (fun r _ => K r) := by
  refine q_ez (code := cX3_within) (maxL := 3) (by decide) rfl (Nat.le_of_ble_eq_true rfl) ?_
  intro p e s m args below meth c Q A hx hb hml hts hown hK hA hret ls hl hP hD hS
  have hown : s.vm.findClass RX3 = some m.cls := hown
  have hl : lv_has ls 3 [(0, .int p0), (1, .int p1), (2, .int p2)] := hl
  have hP : va_P D vwCl [] s.heap := hP
  have hS : va_S A s.heap s.heap [] := hS
  obtain ⟨H, eH⟩ : ∃ z, z = s.heap := ⟨_, rfl⟩
  obtain ⟨locs, eL⟩ : ∃ z : List Loc, z = [] := ⟨_, rfl⟩
  have hP := q_heap hP eH
  have hS := q_heapS hS eH eL
  refine q_start eH eL ?_
  clear eH eL
  unfold w_X3_within at h
  refine lv_iload_n hx hb dX3_within_0 rfl (lv_at hl 0 rfl) ?_
  refine lv_iload_n hx hb dX3_within_1 rfl (lv_at hl 1 rfl) ?_
  refine lv_icmp_lt (tgt := 14) hx hb dX3_within_2 (by decide) (fun c1 => ?_) (fun c1 => ?_)
  · have h := br1 h c1
    refine lv_iconst (v := 0) hx hb dX3_within_14 (by decide) ?_
    exact hret 0 () H locs ls _ rfl h hP hD hS dX3_within_15
  · have h := br2 h c1
    refine lv_iload_n hx hb dX3_within_5 rfl (lv_at hl 0 rfl) ?_
    refine lv_iload_n hx hb dX3_within_6 rfl (lv_at hl 2 rfl) ?_
    refine lv_icmp_gt (tgt := 14) hx hb dX3_within_7 (by decide) (fun c2 => ?_) (fun c2 => ?_)
    · have h := br1 h c2
      refine lv_iconst (v := 0) hx hb dX3_within_14 (by decide) ?_
      exact hret 0 () H locs ls _ rfl h hP hD hS dX3_within_15
    · have h := br2 h c2
      refine lv_iconst (v := 1) hx hb dX3_within_10 (by decide) ?_
      refine lv_goto (tgt := 15) hx hb dX3_within_11 (by decide) ?_
      exact hret 1 () H locs ls _ rfl h hP hD hS dX3_within_15

def w_X0_faultAt (p1 : Int32) (w : S2) (K : Int32 → S2 → Prop) : Prop := br ((w 0 0) = (-1)) (K 1 w) (w_X3_within p1 (0 : Int32) ((w 0 1) - 1) (fun r2 => br (r2 = 0) (K 2 w) (K 0 w)))
abbrev rm_X0_faultAt : Room := { frames := 1, cells := 0, slots := 0, locals := 22 }
set_option maxHeartbeats 4000000 in
set_option maxRecDepth 100000 in
theorem c_X0_faultAt (l : Launch) (D : va_G) (kc : Nat → ClassId) (a : Nat → Nat) (p1 : Int32) (w : S2) (sz : Nat) (K : Int32 → S2 → Prop) (h : w_X0_faultAt p1 w K) : MetI l yX0_faultAt wsX0_faultAt rm_X0_faultAt D kc (fun u : S2 => cSh kc a u) w [.ref (a 0), .int p1] sz (fun r u => K r u) := by
  refine q_ei (code := cX0_faultAt) (maxL := 2) (by decide) rfl (Nat.le_of_ble_eq_true rfl) ?_
  intro p e s m args below meth c Q A hx hb hml hts hown hK hA hret ls hl hP hD hS
  have hown : s.vm.findClass RX0 = some m.cls := hown
  have hl : lv_has ls 2 [(0, .ref (a 0)), (1, .int p1)] := hl
  have hP : va_P D vwCl (cSh kc a w) s.heap := hP
  have hD : va_D A (cSh kc a w) := hD
  have hS : va_S A s.heap s.heap [] := hS
  obtain ⟨H, eH⟩ : ∃ z, z = s.heap := ⟨_, rfl⟩
  obtain ⟨locs, eL⟩ : ∃ z : List Loc, z = [] := ⟨_, rfl⟩
  have hP := q_heap hP eH
  have hS := q_heapS hS eH eL
  refine q_start eH eL ?_
  clear eH eL
  have hi0 : ∀ w ∈ u_ws RX0 TX0 3, w ∈ wsX0_faultAt := by decide +kernel
  unfold w_X0_faultAt at h
  refine lv_aload_n hx hb dX0_faultAt_0 rfl (lv_at hl 0 rfl) ?_
  refine va_get (D := D) (ci := 0) (v := .int (w 0 0)) (C := RX0) (T := TX0) (N := 3) hx hb hts hi0 hown hK.1 hP 0 rfl rfl 0 (by decide) (hts (.fieldLink RX0 11 "LastPenny$Sheet" "lane" "I") (by decide +kernel)) (fun _ h9 => h9) rfl dX0_faultAt_1 ?_
  refine lv_iconst (v := -1) hx hb dX0_faultAt_4 (by decide) ?_
  refine lv_icmp_ne (tgt := 10) hx hb dX0_faultAt_5 (by decide) (fun c1 => ?_) (fun c1 => ?_)
  · have h := br2 h c1
    refine lv_iload_n hx hb dX0_faultAt_10 rfl (lv_at hl 1 rfl) ?_
    refine lv_iconst (v := 0) hx hb dX0_faultAt_11 (by decide) ?_
    refine lv_aload_n hx hb dX0_faultAt_12 rfl (lv_at hl 0 rfl) ?_
    refine va_get (D := D) (ci := 0) (v := .int (w 0 1)) (C := RX0) (T := TX0) (N := 3) hx hb hts hi0 hown hK.1 hP 0 rfl rfl 1 (by decide) (hts (.fieldLink RX0 19 "LastPenny$Sheet" "size" "I") (by decide +kernel)) (fun _ h9 => h9) rfl dX0_faultAt_13 ?_
    refine lv_iconst (v := 1) hx hb dX0_faultAt_16 (by decide) ?_
    refine lv_isub hx hb dX0_faultAt_17 ?_
    refine q_cNi (As := [.int p1, .int 0, .int ((w 0 1) - 1)]) (rest := []) (host := RX3) ⟨hx, hb, hml, hown, hts⟩ hK (c_X3_within l D kc p1 (0 : Int32) ((w 0 1) - 1) H.size _ h) ⟨va_cnB 3 hts gX0_faultAt_X3_within_n22 rfl rfl rfl hK.2.2.2.2.1 (hts (.initialized RX3) (by decide +kernel)) (by decide +kernel) ⟨Nat.le_of_ble_eq_true rfl, Nat.le_of_ble_eq_true rfl⟩, (hts (.static yX3_within) (by decide +kernel)), trivial⟩ (cut_nil _) hP hD hS hA rfl hl.1 rfl (Nat.le_of_ble_eq_true rfl) dX0_faultAt_18 ⟨Nat.zero_le _, Nat.zero_le _⟩ (fun r2 _ H locs h hP hD hS => ?_)
    have hP : va_P D vwCl (cSh kc a w) H := hP
    have hD : va_D A (cSh kc a w) := hD
    refine lv_if_eq (tgt := 28) hx hb dX0_faultAt_21 (by decide) (fun c4 => ?_) (fun c4 => ?_)
    · have h := br1 h c4
      refine lv_iconst (v := 2) hx hb dX0_faultAt_28 (by decide) ?_
      exact hret 2 w H locs ls _ h hP hD hS dX0_faultAt_29
    · have h := br2 h c4
      refine lv_iconst (v := 0) hx hb dX0_faultAt_24 (by decide) ?_
      refine lv_goto (tgt := 29) hx hb dX0_faultAt_25 (by decide) ?_
      exact hret 0 w H locs ls _ h hP hD hS dX0_faultAt_29
  · have h := br1 h c1
    refine lv_iconst (v := 1) hx hb dX0_faultAt_8 (by decide) ?_
    exact hret 1 w H locs ls _ h hP hD hS dX0_faultAt_9

def w_X0_faultOfPair (p1 : Int32) (p2 : Int32) (w : S2) (K : Int32 → S2 → Prop) : Prop := jn (fun (_ : Unit) => w_X0_faultAt p2 w (fun r2 w1 => br (r2 = 0) (w_X0_faultAt (p2 + 1) w1 (fun r6 w5 => K r6 w5)) (K r2 w1))) (fun J18 => br ((w 0 0) = (-1)) (J18 ()) (br ((w 0 0) = p1) (J18 ()) (K 3 w)))
abbrev rm_X0_faultOfPair : Room := { frames := 2, cells := 0, slots := 0, locals := 43 }
set_option maxHeartbeats 4000000 in
set_option maxRecDepth 100000 in
theorem c_X0_faultOfPair (l : Launch) (D : va_G) (kc : Nat → ClassId) (a : Nat → Nat) (p1 : Int32) (p2 : Int32) (w : S2) (sz : Nat) (K : Int32 → S2 → Prop) (h : w_X0_faultOfPair p1 p2 w K) : MetI l yX0_faultOfPair wsX0_faultOfPair rm_X0_faultOfPair D kc (fun u : S2 => cSh kc a u) w [.ref (a 0), .int p1, .int p2] sz (fun r u => K r u) := by
  refine q_ei (code := cX0_faultOfPair) (maxL := 4) (by decide) rfl (Nat.le_of_ble_eq_true rfl) ?_
  intro p e s m args below meth c Q A hx hb hml hts hown hK hA hret ls hl hP hD hS
  have hown : s.vm.findClass RX0 = some m.cls := hown
  have hl : lv_has ls 4 [(0, .ref (a 0)), (1, .int p1), (2, .int p2)] := hl
  have hP : va_P D vwCl (cSh kc a w) s.heap := hP
  have hD : va_D A (cSh kc a w) := hD
  have hS : va_S A s.heap s.heap [] := hS
  obtain ⟨H, eH⟩ : ∃ z, z = s.heap := ⟨_, rfl⟩
  obtain ⟨locs, eL⟩ : ∃ z : List Loc, z = [] := ⟨_, rfl⟩
  have hP := q_heap hP eH
  have hS := q_heapS hS eH eL
  refine q_start eH eL ?_
  clear eH eL
  have hi0 : ∀ w ∈ u_ws RX0 TX0 3, w ∈ wsX0_faultOfPair := by decide +kernel
  unfold w_X0_faultOfPair at h
  refine lv_aload_n hx hb dX0_faultOfPair_0 rfl (lv_at hl 0 rfl) ?_
  refine va_get (D := D) (ci := 0) (v := .int (w 0 0)) (C := RX0) (T := TX0) (N := 3) hx hb hts hi0 hown hK.1 hP 0 rfl rfl 0 (by decide) (hts (.fieldLink RX0 11 "LastPenny$Sheet" "lane" "I") (by decide +kernel)) (fun _ h9 => h9) rfl dX0_faultOfPair_1 ?_
  refine lv_iconst (v := -1) hx hb dX0_faultOfPair_4 (by decide) ?_
  refine jn_elim h (fun J18 eJ18 h => ?_)
  have hJ_18 : ∀  (ls : Array Slot), J18 () → lv_has ls 4 [(0, .ref (a 0)), (2, .int p2)] → W p l e rm_X0_faultOfPair s m args below meth c H locs 0 0 Q (F0 m 18 ls []) := by
    intro  ls h hl
    subst eJ18
    refine lv_aload_n hx hb dX0_faultOfPair_18 rfl (lv_at hl 0 rfl) ?_
    refine lv_iload_n hx hb dX0_faultOfPair_19 rfl (lv_at hl 1 rfl) ?_
    refine q_cVi (As := [.int p2]) (rest := []) ⟨hx, hb, hml, hown, hts⟩ hK (c_X0_faultAt l D kc a p2 w H.size _ h) (cwV 1 hts gX0_faultOfPair_X0_faultAt rfl rfl rfl (by decide +kernel) ⟨Nat.le_of_ble_eq_true rfl, Nat.le_of_ble_eq_true rfl⟩) (cut_same (fun u : S2 => cSh kc a u) w) hP hD hS hA 0 0 rfl rfl rfl hl.1 rfl (Nat.le_of_ble_eq_true rfl) dX0_faultOfPair_20 ⟨Nat.zero_le _, Nat.zero_le _⟩ (fun r2 u3 H locs h hP hD hS => ?_)
    obtain ⟨w1, rfl⟩ : ∃ z, z = u3 := ⟨_, rfl⟩
    have hP : va_P D vwCl (cSh kc a w1) H := hP
    have hD : va_D A (cSh kc a w1) := hD
    refine lv_istore_n (lv' := [(3, .int r2), (0, .ref (a 0)), (2, .int p2)]) hx hb dX0_faultOfPair_23 rfl hl (by decide) rfl (fun ls hl => ?_)
    refine lv_iload_n hx hb dX0_faultOfPair_24 rfl (lv_at hl 0 rfl) ?_
    refine lv_if_eq (tgt := 32) hx hb dX0_faultOfPair_25 (by decide) (fun c4 => ?_) (fun c4 => ?_)
    · have h := br1 h c4
      refine lv_aload_n hx hb dX0_faultOfPair_32 rfl (lv_at hl 1 rfl) ?_
      refine lv_iload_n hx hb dX0_faultOfPair_33 rfl (lv_at hl 2 rfl) ?_
      refine lv_iconst (v := 1) hx hb dX0_faultOfPair_34 (by decide) ?_
      refine lv_iadd hx hb dX0_faultOfPair_35 ?_
      refine q_cVi (As := [.int (p2 + 1)]) (rest := []) ⟨hx, hb, hml, hown, hts⟩ hK (c_X0_faultAt l D kc a (p2 + 1) w1 H.size _ h) (cwV 1 hts gX0_faultOfPair_X0_faultAt rfl rfl rfl (by decide +kernel) ⟨Nat.le_of_ble_eq_true rfl, Nat.le_of_ble_eq_true rfl⟩) (cut_same (fun u : S2 => cSh kc a u) w1) hP hD hS hA 0 0 rfl rfl rfl hl.1 rfl (Nat.le_of_ble_eq_true rfl) dX0_faultOfPair_36 ⟨Nat.zero_le _, Nat.zero_le _⟩ (fun r6 u7 H locs h hP hD hS => ?_)
      obtain ⟨w5, rfl⟩ : ∃ z, z = u7 := ⟨_, rfl⟩
      have hP : va_P D vwCl (cSh kc a w5) H := hP
      have hD : va_D A (cSh kc a w5) := hD
      exact hret r6 w5 H locs ls _ h hP hD hS dX0_faultOfPair_39
    · have h := br2 h c4
      refine lv_iload_n hx hb dX0_faultOfPair_28 rfl (lv_at hl 0 rfl) ?_
      refine lv_goto (tgt := 39) hx hb dX0_faultOfPair_29 (by decide) ?_
      exact hret r2 w1 H locs ls _ h hP hD hS dX0_faultOfPair_39
  refine lv_icmp_eq (tgt := 18) hx hb dX0_faultOfPair_5 (by decide) (fun c8 => ?_) (fun c8 => ?_)
  · have h := br1 h c8
    exact hJ_18 ls h (lv_sub hl [0, 2] rfl)
  · have h := br2 h c8
    refine lv_aload_n hx hb dX0_faultOfPair_8 rfl (lv_at hl 0 rfl) ?_
    refine va_get (D := D) (ci := 0) (v := .int (w 0 0)) (C := RX0) (T := TX0) (N := 3) hx hb hts hi0 hown hK.1 hP 0 rfl rfl 0 (by decide) (hts (.fieldLink RX0 11 "LastPenny$Sheet" "lane" "I") (by decide +kernel)) (fun _ h9 => h9) rfl dX0_faultOfPair_9 ?_
    refine lv_iload_n hx hb dX0_faultOfPair_12 rfl (lv_at hl 1 rfl) ?_
    refine lv_icmp_eq (tgt := 18) hx hb dX0_faultOfPair_13 (by decide) (fun c9 => ?_) (fun c9 => ?_)
    · have h := br1 h c9
      exact hJ_18 ls h (lv_sub hl [0, 2] rfl)
    · have h := br2 h c9
      refine lv_iconst (v := 3) hx hb dX0_faultOfPair_16 (by decide) ?_
      exact hret 3 w H locs ls _ h hP hD hS dX0_faultOfPair_17

def w_X0_setCell (p1 : Int32) (p2 : Int32) (w : S2) (K : S2 → Prop) : Prop := br ((w 0 0) = 0) (vp_in p1 40 ∧ (nm ((va_up w 1 (upd (w 1) p1.toNatClampNeg (p2.toInt8.toInt32))) : S2) (fun w8 => K w8))) (br ((w 0 0) = 1) (vp_in p1 40 ∧ (nm ((va_up w 1 (upd (w 1) p1.toNatClampNeg (p2.toInt16.toInt32))) : S2) (fun w6 => K w6))) (vp_in p1 40 ∧ (nm ((va_up w 1 (upd (w 1) p1.toNatClampNeg p2)) : S2) (fun w4 => K w4))))
abbrev rm_X0_setCell : Room := { frames := 0, cells := 0, slots := 0, locals := 0 }
set_option maxHeartbeats 4000000 in
set_option maxRecDepth 100000 in
theorem c_X0_setCell (l : Launch) (D : va_G) (kc : Nat → ClassId) (a : Nat → Nat) (p1 : Int32) (p2 : Int32) (w : S2) (sz : Nat) (K : S2 → Prop) (h : w_X0_setCell p1 p2 w K) : MetV l yX0_setCell wsX0_setCell rm_X0_setCell D kc (fun u : S2 => cSh kc a u) w [.ref (a 0), .int p1, .int p2] sz (fun u => K u) := by
  refine q_ev (code := cX0_setCell) (maxL := 3) (by decide) rfl (Nat.le_of_ble_eq_true rfl) ?_
  intro p e s m args below meth c Q A hx hb hml hts hown hK hA hret ls hl hP hD hS
  have hown : s.vm.findClass RX0 = some m.cls := hown
  have hl : lv_has ls 3 [(0, .ref (a 0)), (1, .int p1), (2, .int p2)] := hl
  have hP : va_P D vwCl (cSh kc a w) s.heap := hP
  have hD : va_D A (cSh kc a w) := hD
  have hS : va_S A s.heap s.heap [] := hS
  obtain ⟨H, eH⟩ : ∃ z, z = s.heap := ⟨_, rfl⟩
  obtain ⟨locs, eL⟩ : ∃ z : List Loc, z = [] := ⟨_, rfl⟩
  have hP := q_heap hP eH
  have hS := q_heapS hS eH eL
  refine q_start eH eL ?_
  clear eH eL
  have hi0 : ∀ w ∈ u_ws RX0 TX0 3, w ∈ wsX0_setCell := by decide +kernel
  unfold w_X0_setCell at h
  refine lv_aload_n hx hb dX0_setCell_0 rfl (lv_at hl 0 rfl) ?_
  refine va_get (D := D) (ci := 0) (v := .ref (a 1)) (C := RX0) (T := TX0) (N := 3) hx hb hts hi0 hown hK.1 hP 0 rfl rfl 2 (by decide) (hts (.fieldLink RX0 15 "LastPenny$Sheet" "cells" "[I") (by decide +kernel)) (fun _ h9 => h9) rfl dX0_setCell_1 ?_
  refine lv_iload_n hx hb dX0_setCell_4 rfl (lv_at hl 1 rfl) ?_
  refine lv_aload_n hx hb dX0_setCell_5 rfl (lv_at hl 0 rfl) ?_
  refine va_get (D := D) (ci := 0) (v := .int (w 0 0)) (C := RX0) (T := TX0) (N := 3) hx hb hts hi0 hown hK.1 hP 0 rfl rfl 0 (by decide) (hts (.fieldLink RX0 11 "LastPenny$Sheet" "lane" "I") (by decide +kernel)) (fun _ h9 => h9) rfl dX0_setCell_6 ?_
  refine lv_if_ne (tgt := 17) hx hb dX0_setCell_9 (by decide) (fun c1 => ?_) (fun c1 => ?_)
  · have h := br2 h c1
    refine lv_aload_n hx hb dX0_setCell_17 rfl (lv_at hl 0 rfl) ?_
    refine va_get (D := D) (ci := 0) (v := .int (w 0 0)) (C := RX0) (T := TX0) (N := 3) hx hb hts hi0 hown hK.1 hP 0 rfl rfl 0 (by decide) (hts (.fieldLink RX0 11 "LastPenny$Sheet" "lane" "I") (by decide +kernel)) (fun _ h9 => h9) rfl dX0_setCell_18 ?_
    refine lv_iconst (v := 1) hx hb dX0_setCell_21 (by decide) ?_
    refine lv_icmp_ne (tgt := 30) hx hb dX0_setCell_22 (by decide) (fun c2 => ?_) (fun c2 => ?_)
    · have h := br2 h c2
      refine lv_iload_n hx hb dX0_setCell_30 rfl (lv_at hl 2 rfl) ?_
      obtain ⟨hi_3, h⟩ := h
      refine va_iast hx hb hK.1 hP hD hS 1 0 rfl rfl hi_3 dX0_setCell_31 (fun H locs hP hD hS => ?_)
      obtain ⟨w4, ew4⟩ : ∃ z, z = (va_up w 1 (upd (w 1) p1.toNatClampNeg p2)) := ⟨_, rfl⟩
      have h := nm_out h w4 ew4
      have hP : va_P D vwCl (cSh kc a w4) H := q_to hP (by subst ew4; rfl)
      have hD : va_D A (cSh kc a w4) := q_toD hD (by subst ew4; rfl)
      exact hret w4 H locs ls _ h hP hD hS dX0_setCell_32
    · have h := br1 h c2
      refine lv_iload_n hx hb dX0_setCell_25 rfl (lv_at hl 2 rfl) ?_
      refine lv_i2s hx hb dX0_setCell_26 rfl ?_
      refine lv_goto (tgt := 31) hx hb dX0_setCell_27 (by decide) ?_
      obtain ⟨hi_5, h⟩ := h
      refine va_iast hx hb hK.1 hP hD hS 1 0 rfl rfl hi_5 dX0_setCell_31 (fun H locs hP hD hS => ?_)
      obtain ⟨w6, ew6⟩ : ∃ z, z = (va_up w 1 (upd (w 1) p1.toNatClampNeg (p2.toInt16.toInt32))) := ⟨_, rfl⟩
      have h := nm_out h w6 ew6
      have hP : va_P D vwCl (cSh kc a w6) H := q_to hP (by subst ew6; rfl)
      have hD : va_D A (cSh kc a w6) := q_toD hD (by subst ew6; rfl)
      exact hret w6 H locs ls _ h hP hD hS dX0_setCell_32
  · have h := br1 h c1
    refine lv_iload_n hx hb dX0_setCell_12 rfl (lv_at hl 2 rfl) ?_
    refine lv_i2b hx hb dX0_setCell_13 rfl ?_
    refine lv_goto (tgt := 31) hx hb dX0_setCell_14 (by decide) ?_
    obtain ⟨hi_7, h⟩ := h
    refine va_iast hx hb hK.1 hP hD hS 1 0 rfl rfl hi_7 dX0_setCell_31 (fun H locs hP hD hS => ?_)
    obtain ⟨w8, ew8⟩ : ∃ z, z = (va_up w 1 (upd (w 1) p1.toNatClampNeg (p2.toInt8.toInt32))) := ⟨_, rfl⟩
    have h := nm_out h w8 ew8
    have hP : va_P D vwCl (cSh kc a w8) H := q_to hP (by subst ew8; rfl)
    have hD : va_D A (cSh kc a w8) := q_toD hD (by subst ew8; rfl)
    exact hret w8 H locs ls _ h hP hD hS dX0_setCell_32

def w_X1_addByte (p1 : Int32) (t : S2) (K : Int32 → S2 → Prop) : Prop := br ((t 0 1) < 160) (vp_in (t 0 1) 160 ∧ (nm ((va_up t 1 (upd (t 1) (t 0 1).toNatClampNeg (vp_nar .byte (p1.toInt8.toInt32)))) : S2) (fun t3 => nm ((va_up t3 0 (upd (t3 0) 1 ((t3 0 1) + 1))) : S2) (fun t4 => K 1 t4)))) (K 0 t)
abbrev rm_X1_addByte : Room := { frames := 0, cells := 0, slots := 0, locals := 0 }
set_option maxHeartbeats 4000000 in
set_option maxRecDepth 100000 in
theorem c_X1_addByte (l : Launch) (D : va_G) (kc : Nat → ClassId) (a : Nat → Nat) (p1 : Int32) (t : S2) (sz : Nat) (K : Int32 → S2 → Prop) (h : w_X1_addByte p1 t K) : MetI l yX1_addByte wsX1_addByte rm_X1_addByte D kc (fun u : S2 => cT kc a u) t [.ref (a 0), .int p1] sz (fun r u => K r u) := by
  refine q_ez (code := cX1_addByte) (maxL := 2) (by decide) rfl (Nat.le_of_ble_eq_true rfl) ?_
  intro p e s m args below meth c Q A hx hb hml hts hown hK hA hret ls hl hP hD hS
  have hown : s.vm.findClass RX1 = some m.cls := hown
  have hl : lv_has ls 2 [(0, .ref (a 0)), (1, .int p1)] := hl
  have hP : va_P D vwCl (cT kc a t) s.heap := hP
  have hD : va_D A (cT kc a t) := hD
  have hS : va_S A s.heap s.heap [] := hS
  obtain ⟨H, eH⟩ : ∃ z, z = s.heap := ⟨_, rfl⟩
  obtain ⟨locs, eL⟩ : ∃ z : List Loc, z = [] := ⟨_, rfl⟩
  have hP := q_heap hP eH
  have hS := q_heapS hS eH eL
  refine q_start eH eL ?_
  clear eH eL
  have hi1 : ∀ w ∈ u_ws RX1 TX1 9, w ∈ wsX1_addByte := by decide +kernel
  unfold w_X1_addByte at h
  refine lv_aload_n hx hb dX1_addByte_0 rfl (lv_at hl 0 rfl) ?_
  refine va_get (D := D) (ci := 1) (v := .int (t 0 1)) (C := RX1) (T := TX1) (N := 9) hx hb hts hi1 hown hK.1 hP 0 rfl rfl 1 (by decide) (hts (.fieldLink RX1 15 "LastPenny$Tape" "length" "I") (by decide +kernel)) (fun _ h9 => h9) rfl dX1_addByte_1 ?_
  refine lv_sipush (v := 160) hx hb dX1_addByte_4 (by decide) ?_
  refine lv_icmp_lt (tgt := 12) hx hb dX1_addByte_7 (by decide) (fun c1 => ?_) (fun c1 => ?_)
  · have h := br1 h c1
    refine lv_aload_n hx hb dX1_addByte_12 rfl (lv_at hl 0 rfl) ?_
    refine va_get (D := D) (ci := 1) (v := .ref (a 1)) (C := RX1) (T := TX1) (N := 9) hx hb hts hi1 hown hK.1 hP 0 rfl rfl 0 (by decide) (hts (.fieldLink RX1 9 "LastPenny$Tape" "bytes" "[B") (by decide +kernel)) (fun _ h9 => h9) rfl dX1_addByte_13 ?_
    refine lv_aload_n hx hb dX1_addByte_16 rfl (lv_at hl 0 rfl) ?_
    refine va_get (D := D) (ci := 1) (v := .int (t 0 1)) (C := RX1) (T := TX1) (N := 9) hx hb hts hi1 hown hK.1 hP 0 rfl rfl 1 (by decide) (hts (.fieldLink RX1 15 "LastPenny$Tape" "length" "I") (by decide +kernel)) (fun _ h9 => h9) rfl dX1_addByte_17 ?_
    refine lv_iload_n hx hb dX1_addByte_20 rfl (lv_at hl 1 rfl) ?_
    refine lv_i2b hx hb dX1_addByte_21 rfl ?_
    obtain ⟨hi_2, h⟩ := h
    refine va_bast hx hb hK.1 hP hD hS 1 1 rfl rfl hi_2 dX1_addByte_22 (fun H locs hP hD hS => ?_)
    obtain ⟨t3, et3⟩ : ∃ z, z = (va_up t 1 (upd (t 1) (t 0 1).toNatClampNeg (vp_nar .byte (p1.toInt8.toInt32)))) := ⟨_, rfl⟩
    have h := nm_out h t3 et3
    have hP : va_P D vwCl (cT kc a t3) H := q_to hP (by subst et3; rfl)
    have hD : va_D A (cT kc a t3) := q_toD hD (by subst et3; rfl)
    refine lv_aload_n hx hb dX1_addByte_23 rfl (lv_at hl 0 rfl) ?_
    refine lv_dup hx hb dX1_addByte_24 rfl ?_
    refine va_get (D := D) (ci := 1) (v := .int (t3 0 1)) (C := RX1) (T := TX1) (N := 9) hx hb hts hi1 hown hK.1 hP 0 rfl rfl 1 (by decide) (hts (.fieldLink RX1 15 "LastPenny$Tape" "length" "I") (by decide +kernel)) (fun _ h9 => h9) rfl dX1_addByte_25 ?_
    refine lv_iconst (v := 1) hx hb dX1_addByte_28 (by decide) ?_
    refine lv_iadd hx hb dX1_addByte_29 ?_
    refine va_put (D := D) (ci := 1) (v := .int ((t3 0 1) + 1)) (ty := .int) (C := RX1) (T := TX1) (N := 9) hx hb hts hi1 tyX1 tyX1_ok nmX1 hown hK.1 hP hD hS 0 rfl rfl 1 (by decide) (hts (.fieldLink RX1 15 "LastPenny$Tape" "length" "I") (by decide +kernel)) (fun _ h9 => h9) rfl (by decide +kernel) rfl rfl (Nat.le_of_ble_eq_true rfl) dX1_addByte_30 (fun H locs hP hD hS => ?_)
    obtain ⟨t4, et4⟩ : ∃ z, z = (va_up t3 0 (upd (t3 0) 1 ((t3 0 1) + 1))) := ⟨_, rfl⟩
    have h := nm_out h t4 et4
    have hP : va_P D vwCl (cT kc a t4) H := q_to hP (by subst et4; rfl)
    have hD : va_D A (cT kc a t4) := q_toD hD (by subst et4; rfl)
    refine lv_iconst (v := 1) hx hb dX1_addByte_33 (by decide) ?_
    exact hret 1 t4 H locs ls _ rfl h hP hD hS dX1_addByte_34
  · have h := br2 h c1
    refine lv_iconst (v := 0) hx hb dX1_addByte_10 (by decide) ?_
    exact hret 0 t H locs ls _ rfl h hP hD hS dX1_addByte_11

def w_X1_endOfRun (p1 : Int32) (p2 : Int32) (p3 : Int32) (t : S2) (K : Int32 → S2 → Prop) : Prop := lfp1 (fun G3 (i1 : Int32) => br ((t 0 1) ≤ i1) (K i1 t) (vp_in i1 160 ∧ (br ((t 1 i1.toNatClampNeg) < p2) (K i1 t) (vp_in i1 160 ∧ (br (p3 < (t 1 i1.toNatClampNeg)) (K i1 t) (nm (i1 + 1 : Int32) (fun x7 => G3 x7))))))) p1
abbrev rm_X1_endOfRun : Room := { frames := 0, cells := 0, slots := 0, locals := 0 }
set_option maxHeartbeats 4000000 in
set_option maxRecDepth 100000 in
theorem c_X1_endOfRun (l : Launch) (D : va_G) (kc : Nat → ClassId) (a : Nat → Nat) (p1 : Int32) (p2 : Int32) (p3 : Int32) (t : S2) (sz : Nat) (K : Int32 → S2 → Prop) (h : w_X1_endOfRun p1 p2 p3 t K) : MetI l yX1_endOfRun wsX1_endOfRun rm_X1_endOfRun D kc (fun u : S2 => cT kc a u) t [.ref (a 0), .int p1, .int p2, .int p3] sz (fun r u => K r u) := by
  refine q_ei (code := cX1_endOfRun) (maxL := 5) (by decide) rfl (Nat.le_of_ble_eq_true rfl) ?_
  intro p e s m args below meth c Q A hx hb hml hts hown hK hA hret ls hl hP hD hS
  have hown : s.vm.findClass RX1 = some m.cls := hown
  have hl : lv_has ls 5 [(0, .ref (a 0)), (1, .int p1), (2, .int p2), (3, .int p3)] := hl
  have hP : va_P D vwCl (cT kc a t) s.heap := hP
  have hD : va_D A (cT kc a t) := hD
  have hS : va_S A s.heap s.heap [] := hS
  obtain ⟨H, eH⟩ : ∃ z, z = s.heap := ⟨_, rfl⟩
  obtain ⟨locs, eL⟩ : ∃ z : List Loc, z = [] := ⟨_, rfl⟩
  have hP := q_heap hP eH
  have hS := q_heapS hS eH eL
  refine q_start eH eL ?_
  clear eH eL
  have hi1 : ∀ w ∈ u_ws RX1 TX1 9, w ∈ wsX1_endOfRun := by decide +kernel
  unfold w_X1_endOfRun at h
  refine lv_iload_n hx hb dX1_endOfRun_0 rfl (lv_at hl 1 rfl) ?_
  refine lv_istore (lv' := [(4, .int p1), (0, .ref (a 0)), (1, .int p1), (2, .int p2), (3, .int p3)]) hx hb dX1_endOfRun_1 hl (by decide) rfl (fun ls hl => ?_)
  refine h (fun (i1 : Int32) => ∀ (ls : Array Slot), lv_has ls 5 [(0, .ref (a 0)), (2, .int p2), (3, .int p3), (4, .int i1)] → W p l e rm_X1_endOfRun s m args below meth c H locs 0 0 Q (F0 m 3 ls [])) ?_ ls (lv_sub hl [1, 3, 4, 0] rfl)
  intro i1 h ls hl
  refine lv_iload hx hb dX1_endOfRun_3 (lv_at hl 3 rfl) ?_
  refine lv_aload_n hx hb dX1_endOfRun_5 rfl (lv_at hl 0 rfl) ?_
  refine va_get (D := D) (ci := 1) (v := .int (t 0 1)) (C := RX1) (T := TX1) (N := 9) hx hb hts hi1 hown hK.1 hP 0 rfl rfl 1 (by decide) (hts (.fieldLink RX1 15 "LastPenny$Tape" "length" "I") (by decide +kernel)) (fun _ h9 => h9) rfl dX1_endOfRun_6 ?_
  refine lv_icmp_ge (tgt := 40) hx hb dX1_endOfRun_9 (by decide) (fun c2 => ?_) (fun c2 => ?_)
  · have h := br1 h c2
    refine lv_iload hx hb dX1_endOfRun_40 (lv_at hl 3 rfl) ?_
    exact hret i1 t H locs ls _ h hP hD hS dX1_endOfRun_42
  · have h := br2 h c2
    refine lv_aload_n hx hb dX1_endOfRun_12 rfl (lv_at hl 0 rfl) ?_
    refine va_get (D := D) (ci := 1) (v := .ref (a 1)) (C := RX1) (T := TX1) (N := 9) hx hb hts hi1 hown hK.1 hP 0 rfl rfl 0 (by decide) (hts (.fieldLink RX1 9 "LastPenny$Tape" "bytes" "[B") (by decide +kernel)) (fun _ h9 => h9) rfl dX1_endOfRun_13 ?_
    refine lv_iload hx hb dX1_endOfRun_16 (lv_at hl 3 rfl) ?_
    obtain ⟨hi_3, h⟩ := h
    refine va_bald hx hb hK.1 hP 1 1 rfl rfl hi_3 dX1_endOfRun_18 ?_
    refine lv_iload_n hx hb dX1_endOfRun_19 rfl (lv_at hl 1 rfl) ?_
    refine lv_icmp_lt (tgt := 40) hx hb dX1_endOfRun_20 (by decide) (fun c4 => ?_) (fun c4 => ?_)
    · have h := br1 h c4
      refine lv_iload hx hb dX1_endOfRun_40 (lv_at hl 3 rfl) ?_
      exact hret i1 t H locs ls _ h hP hD hS dX1_endOfRun_42
    · have h := br2 h c4
      refine lv_aload_n hx hb dX1_endOfRun_23 rfl (lv_at hl 0 rfl) ?_
      refine va_get (D := D) (ci := 1) (v := .ref (a 1)) (C := RX1) (T := TX1) (N := 9) hx hb hts hi1 hown hK.1 hP 0 rfl rfl 0 (by decide) (hts (.fieldLink RX1 9 "LastPenny$Tape" "bytes" "[B") (by decide +kernel)) (fun _ h9 => h9) rfl dX1_endOfRun_24 ?_
      refine lv_iload hx hb dX1_endOfRun_27 (lv_at hl 3 rfl) ?_
      obtain ⟨hi_5, h⟩ := h
      refine va_bald hx hb hK.1 hP 1 1 rfl rfl hi_5 dX1_endOfRun_29 ?_
      refine lv_iload_n hx hb dX1_endOfRun_30 rfl (lv_at hl 2 rfl) ?_
      refine lv_icmp_gt (tgt := 40) hx hb dX1_endOfRun_31 (by decide) (fun c6 => ?_) (fun c6 => ?_)
      · have h := br1 h c6
        refine lv_iload hx hb dX1_endOfRun_40 (lv_at hl 3 rfl) ?_
        exact hret i1 t H locs ls _ h hP hD hS dX1_endOfRun_42
      · have h := br2 h c6
        obtain ⟨x7, ex7⟩ : ∃ z : Int32, z = i1 + 1 := ⟨_, rfl⟩
        have h := nm_out h x7 ex7
        refine lv_iinc (v := x7) (lv' := [(4, .int x7), (0, .ref (a 0)), (2, .int p2), (3, .int p3)]) hx hb dX1_endOfRun_34 hl (k := 3) rfl (by rw [ex7]; rfl) (by decide) rfl (fun ls hl => ?_)
        refine lv_goto (tgt := 3) hx hb dX1_endOfRun_37 (by decide) ?_
        exact h ls (lv_sub hl [1, 2, 3, 0] rfl)

def w_X1_refuse (p1 : Int32) (p2 : Int32) (t : S2) (K : S2 → Prop) : Prop := br ((t 0 2) = 0) (nm ((va_up t 0 (upd (t 0) 2 p1)) : S2) (fun t2 => nm ((va_up t2 0 (upd (t2 0) 3 p2)) : S2) (fun t3 => K t3))) (K t)
abbrev rm_X1_refuse : Room := { frames := 0, cells := 0, slots := 0, locals := 0 }
set_option maxHeartbeats 4000000 in
set_option maxRecDepth 100000 in
theorem c_X1_refuse (l : Launch) (D : va_G) (kc : Nat → ClassId) (a : Nat → Nat) (p1 : Int32) (p2 : Int32) (t : S2) (sz : Nat) (K : S2 → Prop) (h : w_X1_refuse p1 p2 t K) : MetV l yX1_refuse wsX1_refuse rm_X1_refuse D kc (fun u : S2 => cT kc a u) t [.ref (a 0), .int p1, .int p2] sz (fun u => K u) := by
  refine q_ev (code := cX1_refuse) (maxL := 3) (by decide) rfl (Nat.le_of_ble_eq_true rfl) ?_
  intro p e s m args below meth c Q A hx hb hml hts hown hK hA hret ls hl hP hD hS
  have hown : s.vm.findClass RX1 = some m.cls := hown
  have hl : lv_has ls 3 [(0, .ref (a 0)), (1, .int p1), (2, .int p2)] := hl
  have hP : va_P D vwCl (cT kc a t) s.heap := hP
  have hD : va_D A (cT kc a t) := hD
  have hS : va_S A s.heap s.heap [] := hS
  obtain ⟨H, eH⟩ : ∃ z, z = s.heap := ⟨_, rfl⟩
  obtain ⟨locs, eL⟩ : ∃ z : List Loc, z = [] := ⟨_, rfl⟩
  have hP := q_heap hP eH
  have hS := q_heapS hS eH eL
  refine q_start eH eL ?_
  clear eH eL
  have hi1 : ∀ w ∈ u_ws RX1 TX1 9, w ∈ wsX1_refuse := by decide +kernel
  unfold w_X1_refuse at h
  refine lv_aload_n hx hb dX1_refuse_0 rfl (lv_at hl 0 rfl) ?_
  refine va_get (D := D) (ci := 1) (v := .int (t 0 2)) (C := RX1) (T := TX1) (N := 9) hx hb hts hi1 hown hK.1 hP 0 rfl rfl 2 (by decide) (hts (.fieldLink RX1 19 "LastPenny$Tape" "fault" "I") (by decide +kernel)) (fun _ h9 => h9) rfl dX1_refuse_1 ?_
  refine lv_if_ne (tgt := 17) hx hb dX1_refuse_4 (by decide) (fun c1 => ?_) (fun c1 => ?_)
  · have h := br2 h c1
    exact hret t H locs ls _ h hP hD hS dX1_refuse_17
  · have h := br1 h c1
    refine lv_aload_n hx hb dX1_refuse_7 rfl (lv_at hl 0 rfl) ?_
    refine lv_iload_n hx hb dX1_refuse_8 rfl (lv_at hl 1 rfl) ?_
    refine va_put (D := D) (ci := 1) (v := .int p1) (ty := .int) (C := RX1) (T := TX1) (N := 9) hx hb hts hi1 tyX1 tyX1_ok nmX1 hown hK.1 hP hD hS 0 rfl rfl 2 (by decide) (hts (.fieldLink RX1 19 "LastPenny$Tape" "fault" "I") (by decide +kernel)) (fun _ h9 => h9) rfl (by decide +kernel) rfl rfl (Nat.le_of_ble_eq_true rfl) dX1_refuse_9 (fun H locs hP hD hS => ?_)
    obtain ⟨t2, et2⟩ : ∃ z, z = (va_up t 0 (upd (t 0) 2 p1)) := ⟨_, rfl⟩
    have h := nm_out h t2 et2
    have hP : va_P D vwCl (cT kc a t2) H := q_to hP (by subst et2; rfl)
    have hD : va_D A (cT kc a t2) := q_toD hD (by subst et2; rfl)
    refine lv_aload_n hx hb dX1_refuse_12 rfl (lv_at hl 0 rfl) ?_
    refine lv_iload_n hx hb dX1_refuse_13 rfl (lv_at hl 2 rfl) ?_
    refine va_put (D := D) (ci := 1) (v := .int p2) (ty := .int) (C := RX1) (T := TX1) (N := 9) hx hb hts hi1 tyX1 tyX1_ok nmX1 hown hK.1 hP hD hS 0 rfl rfl 3 (by decide) (hts (.fieldLink RX1 22 "LastPenny$Tape" "faultPlace" "I") (by decide +kernel)) (fun _ h9 => h9) rfl (by decide +kernel) rfl rfl (Nat.le_of_ble_eq_true rfl) dX1_refuse_14 (fun H locs hP hD hS => ?_)
    obtain ⟨t3, et3⟩ : ∃ z, z = (va_up t2 0 (upd (t2 0) 3 p2)) := ⟨_, rfl⟩
    have h := nm_out h t3 et3
    have hP : va_P D vwCl (cT kc a t3) H := q_to hP (by subst et3; rfl)
    have hD : va_D A (cT kc a t3) := q_toD hD (by subst et3; rfl)
    exact hret t3 H locs ls _ h hP hD hS dX1_refuse_17

def w_X1_next (t : S2) (K : S2 → Prop) : Prop := br ((t 0 2) = 0) (w_X1_endOfRun (t 0 4) (32 : Int32) (32 : Int32) t (fun r3 t2 => nm ((va_up t2 0 (upd (t2 0) 6 r3)) : S2) (fun t5 => w_X1_endOfRun (t5 0 6) (97 : Int32) (122 : Int32) t5 (fun r7 t6 => w_X1_endOfRun (t6 0 6) (48 : Int32) (57 : Int32) t6 (fun r10 t9 => br ((t9 0 6) < (t9 0 1)) (br (r7 ≤ (t9 0 6)) (br (r10 ≤ (t9 0 6)) (nm ((va_up t9 0 (upd (t9 0) 5 3)) : S2) (fun t15 => nm ((va_up t15 0 (upd (t15 0) 4 ((t15 0 6) + 1))) : S2) (fun t16 => vp_in (t16 0 6) 160 ∧ (br ((t16 1 (t16 0 6).toNatClampNeg) = 59) (K t16) (w_X1_refuse (1 : Int32) (t16 0 6) t16 (fun t19 => K t19)))))) (nm ((va_up t9 0 (upd (t9 0) 5 2)) : S2) (fun t21 => nm ((va_up t21 0 (upd (t21 0) 4 r10)) : S2) (fun t22 => br (((t22 0 4) - (t22 0 6)) ≤ 2) (K t22) (w_X1_refuse (1 : Int32) (t22 0 6) t22 (fun t24 => K t24)))))) (nm ((va_up t9 0 (upd (t9 0) 5 1)) : S2) (fun t26 => nm ((va_up t26 0 (upd (t26 0) 4 r7)) : S2) (fun t27 => K t27)))) (nm ((va_up t9 0 (upd (t9 0) 5 0)) : S2) (fun t28 => nm ((va_up t28 0 (upd (t28 0) 4 (t28 0 6))) : S2) (fun t29 => K t29)))))))) (K t)
abbrev rm_X1_next : Room := { frames := 1, cells := 0, slots := 0, locals := 24 }
set_option maxHeartbeats 4000000 in
set_option maxRecDepth 100000 in
theorem c_X1_next (l : Launch) (D : va_G) (kc : Nat → ClassId) (a : Nat → Nat) (t : S2) (sz : Nat) (K : S2 → Prop) (h : w_X1_next t K) : MetV l yX1_next wsX1_next rm_X1_next D kc (fun u : S2 => cT kc a u) t [.ref (a 0)] sz (fun u => K u) := by
  refine q_ev (code := cX1_next) (maxL := 3) (by decide) rfl (Nat.le_of_ble_eq_true rfl) ?_
  intro p e s m args below meth c Q A hx hb hml hts hown hK hA hret ls hl hP hD hS
  have hown : s.vm.findClass RX1 = some m.cls := hown
  have hl : lv_has ls 3 [(0, .ref (a 0))] := hl
  have hP : va_P D vwCl (cT kc a t) s.heap := hP
  have hD : va_D A (cT kc a t) := hD
  have hS : va_S A s.heap s.heap [] := hS
  obtain ⟨H, eH⟩ : ∃ z, z = s.heap := ⟨_, rfl⟩
  obtain ⟨locs, eL⟩ : ∃ z : List Loc, z = [] := ⟨_, rfl⟩
  have hP := q_heap hP eH
  have hS := q_heapS hS eH eL
  refine q_start eH eL ?_
  clear eH eL
  have hi1 : ∀ w ∈ u_ws RX1 TX1 9, w ∈ wsX1_next := by decide +kernel
  unfold w_X1_next at h
  refine lv_aload_n hx hb dX1_next_0 rfl (lv_at hl 0 rfl) ?_
  refine va_get (D := D) (ci := 1) (v := .int (t 0 2)) (C := RX1) (T := TX1) (N := 9) hx hb hts hi1 hown hK.1 hP 0 rfl rfl 2 (by decide) (hts (.fieldLink RX1 19 "LastPenny$Tape" "fault" "I") (by decide +kernel)) (fun _ h9 => h9) rfl dX1_next_1 ?_
  refine lv_if_eq (tgt := 8) hx hb dX1_next_4 (by decide) (fun c1 => ?_) (fun c1 => ?_)
  · have h := br1 h c1
    refine lv_aload_n hx hb dX1_next_8 rfl (lv_at hl 0 rfl) ?_
    refine lv_aload_n hx hb dX1_next_9 rfl (lv_at hl 0 rfl) ?_
    refine lv_aload_n hx hb dX1_next_10 rfl (lv_at hl 0 rfl) ?_
    refine va_get (D := D) (ci := 1) (v := .int (t 0 4)) (C := RX1) (T := TX1) (N := 9) hx hb hts hi1 hown hK.1 hP 0 rfl rfl 4 (by decide) (hts (.fieldLink RX1 25 "LastPenny$Tape" "at" "I") (by decide +kernel)) (fun _ h9 => h9) rfl dX1_next_11 ?_
    refine lv_bipush (v := 32) hx hb dX1_next_14 (by decide) ?_
    refine lv_bipush (v := 32) hx hb dX1_next_16 (by decide) ?_
    refine q_cVi (As := [.int (t 0 4), .int 32, .int 32]) (rest := [.ref (a 0)]) ⟨hx, hb, hml, hown, hts⟩ hK (c_X1_endOfRun l D kc a (t 0 4) (32 : Int32) (32 : Int32) t H.size _ h) (cwV 3 hts gX1_next_X1_endOfRun rfl rfl rfl (by decide +kernel) ⟨Nat.le_of_ble_eq_true rfl, Nat.le_of_ble_eq_true rfl⟩) (cut_same (fun u : S2 => cT kc a u) t) hP hD hS hA 1 0 rfl rfl rfl hl.1 rfl (Nat.le_of_ble_eq_true rfl) dX1_next_18 ⟨Nat.zero_le _, Nat.zero_le _⟩ (fun r3 u4 H locs h hP hD hS => ?_)
    obtain ⟨t2, rfl⟩ : ∃ z, z = u4 := ⟨_, rfl⟩
    have hP : va_P D vwCl (cT kc a t2) H := hP
    have hD : va_D A (cT kc a t2) := hD
    refine va_put (D := D) (ci := 1) (v := .int r3) (ty := .int) (C := RX1) (T := TX1) (N := 9) hx hb hts hi1 tyX1 tyX1_ok nmX1 hown hK.1 hP hD hS 0 rfl rfl 6 (by decide) (hts (.fieldLink RX1 59 "LastPenny$Tape" "start" "I") (by decide +kernel)) (fun _ h9 => h9) rfl (by decide +kernel) rfl rfl (Nat.le_of_ble_eq_true rfl) dX1_next_21 (fun H locs hP hD hS => ?_)
    obtain ⟨t5, et5⟩ : ∃ z, z = (va_up t2 0 (upd (t2 0) 6 r3)) := ⟨_, rfl⟩
    have h := nm_out h t5 et5
    have hP : va_P D vwCl (cT kc a t5) H := q_to hP (by subst et5; rfl)
    have hD : va_D A (cT kc a t5) := q_toD hD (by subst et5; rfl)
    refine lv_aload_n hx hb dX1_next_24 rfl (lv_at hl 0 rfl) ?_
    refine lv_aload_n hx hb dX1_next_25 rfl (lv_at hl 0 rfl) ?_
    refine va_get (D := D) (ci := 1) (v := .int (t5 0 6)) (C := RX1) (T := TX1) (N := 9) hx hb hts hi1 hown hK.1 hP 0 rfl rfl 6 (by decide) (hts (.fieldLink RX1 59 "LastPenny$Tape" "start" "I") (by decide +kernel)) (fun _ h9 => h9) rfl dX1_next_26 ?_
    refine lv_bipush (v := 97) hx hb dX1_next_29 (by decide) ?_
    refine lv_bipush (v := 122) hx hb dX1_next_31 (by decide) ?_
    refine q_cVi (As := [.int (t5 0 6), .int 97, .int 122]) (rest := []) ⟨hx, hb, hml, hown, hts⟩ hK (c_X1_endOfRun l D kc a (t5 0 6) (97 : Int32) (122 : Int32) t5 H.size _ h) (cwV 3 hts gX1_next_X1_endOfRun rfl rfl rfl (by decide +kernel) ⟨Nat.le_of_ble_eq_true rfl, Nat.le_of_ble_eq_true rfl⟩) (cut_same (fun u : S2 => cT kc a u) t5) hP hD hS hA 1 0 rfl rfl rfl hl.1 rfl (Nat.le_of_ble_eq_true rfl) dX1_next_33 ⟨Nat.zero_le _, Nat.zero_le _⟩ (fun r7 u8 H locs h hP hD hS => ?_)
    obtain ⟨t6, rfl⟩ : ∃ z, z = u8 := ⟨_, rfl⟩
    have hP : va_P D vwCl (cT kc a t6) H := hP
    have hD : va_D A (cT kc a t6) := hD
    refine lv_istore_n (lv' := [(1, .int r7), (0, .ref (a 0))]) hx hb dX1_next_36 rfl hl (by decide) rfl (fun ls hl => ?_)
    refine lv_aload_n hx hb dX1_next_37 rfl (lv_at hl 1 rfl) ?_
    refine lv_aload_n hx hb dX1_next_38 rfl (lv_at hl 1 rfl) ?_
    refine va_get (D := D) (ci := 1) (v := .int (t6 0 6)) (C := RX1) (T := TX1) (N := 9) hx hb hts hi1 hown hK.1 hP 0 rfl rfl 6 (by decide) (hts (.fieldLink RX1 59 "LastPenny$Tape" "start" "I") (by decide +kernel)) (fun _ h9 => h9) rfl dX1_next_39 ?_
    refine lv_bipush (v := 48) hx hb dX1_next_42 (by decide) ?_
    refine lv_bipush (v := 57) hx hb dX1_next_44 (by decide) ?_
    refine q_cVi (As := [.int (t6 0 6), .int 48, .int 57]) (rest := []) ⟨hx, hb, hml, hown, hts⟩ hK (c_X1_endOfRun l D kc a (t6 0 6) (48 : Int32) (57 : Int32) t6 H.size _ h) (cwV 3 hts gX1_next_X1_endOfRun rfl rfl rfl (by decide +kernel) ⟨Nat.le_of_ble_eq_true rfl, Nat.le_of_ble_eq_true rfl⟩) (cut_same (fun u : S2 => cT kc a u) t6) hP hD hS hA 1 0 rfl rfl rfl hl.1 rfl (Nat.le_of_ble_eq_true rfl) dX1_next_46 ⟨Nat.zero_le _, Nat.zero_le _⟩ (fun r10 u11 H locs h hP hD hS => ?_)
    obtain ⟨t9, rfl⟩ : ∃ z, z = u11 := ⟨_, rfl⟩
    have hP : va_P D vwCl (cT kc a t9) H := hP
    have hD : va_D A (cT kc a t9) := hD
    refine lv_istore_n (lv' := [(2, .int r10), (1, .int r7), (0, .ref (a 0))]) hx hb dX1_next_49 rfl hl (by decide) rfl (fun ls hl => ?_)
    refine lv_aload_n hx hb dX1_next_50 rfl (lv_at hl 2 rfl) ?_
    refine va_get (D := D) (ci := 1) (v := .int (t9 0 6)) (C := RX1) (T := TX1) (N := 9) hx hb hts hi1 hown hK.1 hP 0 rfl rfl 6 (by decide) (hts (.fieldLink RX1 59 "LastPenny$Tape" "start" "I") (by decide +kernel)) (fun _ h9 => h9) rfl dX1_next_51 ?_
    refine lv_aload_n hx hb dX1_next_54 rfl (lv_at hl 2 rfl) ?_
    refine va_get (D := D) (ci := 1) (v := .int (t9 0 1)) (C := RX1) (T := TX1) (N := 9) hx hb hts hi1 hown hK.1 hP 0 rfl rfl 1 (by decide) (hts (.fieldLink RX1 15 "LastPenny$Tape" "length" "I") (by decide +kernel)) (fun _ h9 => h9) rfl dX1_next_55 ?_
    refine lv_icmp_lt (tgt := 77) hx hb dX1_next_58 (by decide) (fun c12 => ?_) (fun c12 => ?_)
    · have h := br1 h c12
      refine lv_iload_n hx hb dX1_next_77 rfl (lv_at hl 1 rfl) ?_
      refine lv_aload_n hx hb dX1_next_78 rfl (lv_at hl 2 rfl) ?_
      refine va_get (D := D) (ci := 1) (v := .int (t9 0 6)) (C := RX1) (T := TX1) (N := 9) hx hb hts hi1 hown hK.1 hP 0 rfl rfl 6 (by decide) (hts (.fieldLink RX1 59 "LastPenny$Tape" "start" "I") (by decide +kernel)) (fun _ h9 => h9) rfl dX1_next_79 ?_
      refine lv_icmp_le (tgt := 98) hx hb dX1_next_82 (by decide) (fun c13 => ?_) (fun c13 => ?_)
      · have h := br1 h c13
        refine lv_iload_n hx hb dX1_next_98 rfl (lv_at hl 0 rfl) ?_
        refine lv_aload_n hx hb dX1_next_99 rfl (lv_at hl 2 rfl) ?_
        refine va_get (D := D) (ci := 1) (v := .int (t9 0 6)) (C := RX1) (T := TX1) (N := 9) hx hb hts hi1 hown hK.1 hP 0 rfl rfl 6 (by decide) (hts (.fieldLink RX1 59 "LastPenny$Tape" "start" "I") (by decide +kernel)) (fun _ h9 => h9) rfl dX1_next_100 ?_
        refine lv_icmp_le (tgt := 141) hx hb dX1_next_103 (by decide) (fun c14 => ?_) (fun c14 => ?_)
        · have h := br1 h c14
          refine lv_aload_n hx hb dX1_next_141 rfl (lv_at hl 2 rfl) ?_
          refine lv_iconst (v := 3) hx hb dX1_next_142 (by decide) ?_
          refine va_put (D := D) (ci := 1) (v := .int 3) (ty := .int) (C := RX1) (T := TX1) (N := 9) hx hb hts hi1 tyX1 tyX1_ok nmX1 hown hK.1 hP hD hS 0 rfl rfl 5 (by decide) (hts (.fieldLink RX1 38 "LastPenny$Tape" "token" "I") (by decide +kernel)) (fun _ h9 => h9) rfl (by decide +kernel) rfl rfl (Nat.le_of_ble_eq_true rfl) dX1_next_143 (fun H locs hP hD hS => ?_)
          obtain ⟨t15, et15⟩ : ∃ z, z = (va_up t9 0 (upd (t9 0) 5 3)) := ⟨_, rfl⟩
          have h := nm_out h t15 et15
          have hP : va_P D vwCl (cT kc a t15) H := q_to hP (by subst et15; rfl)
          have hD : va_D A (cT kc a t15) := q_toD hD (by subst et15; rfl)
          refine lv_aload_n hx hb dX1_next_146 rfl (lv_at hl 2 rfl) ?_
          refine lv_aload_n hx hb dX1_next_147 rfl (lv_at hl 2 rfl) ?_
          refine va_get (D := D) (ci := 1) (v := .int (t15 0 6)) (C := RX1) (T := TX1) (N := 9) hx hb hts hi1 hown hK.1 hP 0 rfl rfl 6 (by decide) (hts (.fieldLink RX1 59 "LastPenny$Tape" "start" "I") (by decide +kernel)) (fun _ h9 => h9) rfl dX1_next_148 ?_
          refine lv_iconst (v := 1) hx hb dX1_next_151 (by decide) ?_
          refine lv_iadd hx hb dX1_next_152 ?_
          refine va_put (D := D) (ci := 1) (v := .int ((t15 0 6) + 1)) (ty := .int) (C := RX1) (T := TX1) (N := 9) hx hb hts hi1 tyX1 tyX1_ok nmX1 hown hK.1 hP hD hS 0 rfl rfl 4 (by decide) (hts (.fieldLink RX1 25 "LastPenny$Tape" "at" "I") (by decide +kernel)) (fun _ h9 => h9) rfl (by decide +kernel) rfl rfl (Nat.le_of_ble_eq_true rfl) dX1_next_153 (fun H locs hP hD hS => ?_)
          obtain ⟨t16, et16⟩ : ∃ z, z = (va_up t15 0 (upd (t15 0) 4 ((t15 0 6) + 1))) := ⟨_, rfl⟩
          have h := nm_out h t16 et16
          have hP : va_P D vwCl (cT kc a t16) H := q_to hP (by subst et16; rfl)
          have hD : va_D A (cT kc a t16) := q_toD hD (by subst et16; rfl)
          refine lv_aload_n hx hb dX1_next_156 rfl (lv_at hl 2 rfl) ?_
          refine va_get (D := D) (ci := 1) (v := .ref (a 1)) (C := RX1) (T := TX1) (N := 9) hx hb hts hi1 hown hK.1 hP 0 rfl rfl 0 (by decide) (hts (.fieldLink RX1 9 "LastPenny$Tape" "bytes" "[B") (by decide +kernel)) (fun _ h9 => h9) rfl dX1_next_157 ?_
          refine lv_aload_n hx hb dX1_next_160 rfl (lv_at hl 2 rfl) ?_
          refine va_get (D := D) (ci := 1) (v := .int (t16 0 6)) (C := RX1) (T := TX1) (N := 9) hx hb hts hi1 hown hK.1 hP 0 rfl rfl 6 (by decide) (hts (.fieldLink RX1 59 "LastPenny$Tape" "start" "I") (by decide +kernel)) (fun _ h9 => h9) rfl dX1_next_161 ?_
          obtain ⟨hi_17, h⟩ := h
          refine va_bald hx hb hK.1 hP 1 1 rfl rfl hi_17 dX1_next_164 ?_
          refine lv_bipush (v := 59) hx hb dX1_next_165 (by decide) ?_
          refine lv_icmp_eq (tgt := 179) hx hb dX1_next_167 (by decide) (fun c18 => ?_) (fun c18 => ?_)
          · have h := br1 h c18
            exact hret t16 H locs ls _ h hP hD hS dX1_next_179
          · have h := br2 h c18
            refine lv_aload_n hx hb dX1_next_170 rfl (lv_at hl 2 rfl) ?_
            refine lv_iconst (v := 1) hx hb dX1_next_171 (by decide) ?_
            refine lv_aload_n hx hb dX1_next_172 rfl (lv_at hl 2 rfl) ?_
            refine va_get (D := D) (ci := 1) (v := .int (t16 0 6)) (C := RX1) (T := TX1) (N := 9) hx hb hts hi1 hown hK.1 hP 0 rfl rfl 6 (by decide) (hts (.fieldLink RX1 59 "LastPenny$Tape" "start" "I") (by decide +kernel)) (fun _ h9 => h9) rfl dX1_next_173 ?_
            refine q_cVv (As := [.int 1, .int (t16 0 6)]) (rest := []) ⟨hx, hb, hml, hown, hts⟩ hK (c_X1_refuse l D kc a (1 : Int32) (t16 0 6) t16 H.size _ h) (cwV 2 hts gX1_next_X1_refuse rfl rfl rfl (by decide +kernel) ⟨Nat.le_of_ble_eq_true rfl, Nat.le_of_ble_eq_true rfl⟩) (cut_same (fun u : S2 => cT kc a u) t16) hP hD hS hA 1 0 rfl rfl rfl hl.1 rfl (Nat.le_of_ble_eq_true rfl) dX1_next_176 ⟨Nat.zero_le _, Nat.zero_le _⟩ (fun u20 H locs h hP hD hS => ?_)
            obtain ⟨t19, rfl⟩ : ∃ z, z = u20 := ⟨_, rfl⟩
            have hP : va_P D vwCl (cT kc a t19) H := hP
            have hD : va_D A (cT kc a t19) := hD
            exact hret t19 H locs ls _ h hP hD hS dX1_next_179
        · have h := br2 h c14
          refine lv_aload_n hx hb dX1_next_106 rfl (lv_at hl 2 rfl) ?_
          refine lv_iconst (v := 2) hx hb dX1_next_107 (by decide) ?_
          refine va_put (D := D) (ci := 1) (v := .int 2) (ty := .int) (C := RX1) (T := TX1) (N := 9) hx hb hts hi1 tyX1 tyX1_ok nmX1 hown hK.1 hP hD hS 0 rfl rfl 5 (by decide) (hts (.fieldLink RX1 38 "LastPenny$Tape" "token" "I") (by decide +kernel)) (fun _ h9 => h9) rfl (by decide +kernel) rfl rfl (Nat.le_of_ble_eq_true rfl) dX1_next_108 (fun H locs hP hD hS => ?_)
          obtain ⟨t21, et21⟩ : ∃ z, z = (va_up t9 0 (upd (t9 0) 5 2)) := ⟨_, rfl⟩
          have h := nm_out h t21 et21
          have hP : va_P D vwCl (cT kc a t21) H := q_to hP (by subst et21; rfl)
          have hD : va_D A (cT kc a t21) := q_toD hD (by subst et21; rfl)
          refine lv_aload_n hx hb dX1_next_111 rfl (lv_at hl 2 rfl) ?_
          refine lv_iload_n hx hb dX1_next_112 rfl (lv_at hl 0 rfl) ?_
          refine va_put (D := D) (ci := 1) (v := .int r10) (ty := .int) (C := RX1) (T := TX1) (N := 9) hx hb hts hi1 tyX1 tyX1_ok nmX1 hown hK.1 hP hD hS 0 rfl rfl 4 (by decide) (hts (.fieldLink RX1 25 "LastPenny$Tape" "at" "I") (by decide +kernel)) (fun _ h9 => h9) rfl (by decide +kernel) rfl rfl (Nat.le_of_ble_eq_true rfl) dX1_next_113 (fun H locs hP hD hS => ?_)
          obtain ⟨t22, et22⟩ : ∃ z, z = (va_up t21 0 (upd (t21 0) 4 r10)) := ⟨_, rfl⟩
          have h := nm_out h t22 et22
          have hP : va_P D vwCl (cT kc a t22) H := q_to hP (by subst et22; rfl)
          have hD : va_D A (cT kc a t22) := q_toD hD (by subst et22; rfl)
          refine lv_aload_n hx hb dX1_next_116 rfl (lv_at hl 2 rfl) ?_
          refine va_get (D := D) (ci := 1) (v := .int (t22 0 4)) (C := RX1) (T := TX1) (N := 9) hx hb hts hi1 hown hK.1 hP 0 rfl rfl 4 (by decide) (hts (.fieldLink RX1 25 "LastPenny$Tape" "at" "I") (by decide +kernel)) (fun _ h9 => h9) rfl dX1_next_117 ?_
          refine lv_aload_n hx hb dX1_next_120 rfl (lv_at hl 2 rfl) ?_
          refine va_get (D := D) (ci := 1) (v := .int (t22 0 6)) (C := RX1) (T := TX1) (N := 9) hx hb hts hi1 hown hK.1 hP 0 rfl rfl 6 (by decide) (hts (.fieldLink RX1 59 "LastPenny$Tape" "start" "I") (by decide +kernel)) (fun _ h9 => h9) rfl dX1_next_121 ?_
          refine lv_isub hx hb dX1_next_124 ?_
          refine lv_iconst (v := 2) hx hb dX1_next_125 (by decide) ?_
          refine lv_icmp_le (tgt := 179) hx hb dX1_next_126 (by decide) (fun c23 => ?_) (fun c23 => ?_)
          · have h := br1 h c23
            exact hret t22 H locs ls _ h hP hD hS dX1_next_179
          · have h := br2 h c23
            refine lv_aload_n hx hb dX1_next_129 rfl (lv_at hl 2 rfl) ?_
            refine lv_iconst (v := 1) hx hb dX1_next_130 (by decide) ?_
            refine lv_aload_n hx hb dX1_next_131 rfl (lv_at hl 2 rfl) ?_
            refine va_get (D := D) (ci := 1) (v := .int (t22 0 6)) (C := RX1) (T := TX1) (N := 9) hx hb hts hi1 hown hK.1 hP 0 rfl rfl 6 (by decide) (hts (.fieldLink RX1 59 "LastPenny$Tape" "start" "I") (by decide +kernel)) (fun _ h9 => h9) rfl dX1_next_132 ?_
            refine q_cVv (As := [.int 1, .int (t22 0 6)]) (rest := []) ⟨hx, hb, hml, hown, hts⟩ hK (c_X1_refuse l D kc a (1 : Int32) (t22 0 6) t22 H.size _ h) (cwV 2 hts gX1_next_X1_refuse rfl rfl rfl (by decide +kernel) ⟨Nat.le_of_ble_eq_true rfl, Nat.le_of_ble_eq_true rfl⟩) (cut_same (fun u : S2 => cT kc a u) t22) hP hD hS hA 1 0 rfl rfl rfl hl.1 rfl (Nat.le_of_ble_eq_true rfl) dX1_next_135 ⟨Nat.zero_le _, Nat.zero_le _⟩ (fun u25 H locs h hP hD hS => ?_)
            obtain ⟨t24, rfl⟩ : ∃ z, z = u25 := ⟨_, rfl⟩
            have hP : va_P D vwCl (cT kc a t24) H := hP
            have hD : va_D A (cT kc a t24) := hD
            refine lv_goto (tgt := 179) hx hb dX1_next_138 (by decide) ?_
            exact hret t24 H locs ls _ h hP hD hS dX1_next_179
      · have h := br2 h c13
        refine lv_aload_n hx hb dX1_next_85 rfl (lv_at hl 2 rfl) ?_
        refine lv_iconst (v := 1) hx hb dX1_next_86 (by decide) ?_
        refine va_put (D := D) (ci := 1) (v := .int 1) (ty := .int) (C := RX1) (T := TX1) (N := 9) hx hb hts hi1 tyX1 tyX1_ok nmX1 hown hK.1 hP hD hS 0 rfl rfl 5 (by decide) (hts (.fieldLink RX1 38 "LastPenny$Tape" "token" "I") (by decide +kernel)) (fun _ h9 => h9) rfl (by decide +kernel) rfl rfl (Nat.le_of_ble_eq_true rfl) dX1_next_87 (fun H locs hP hD hS => ?_)
        obtain ⟨t26, et26⟩ : ∃ z, z = (va_up t9 0 (upd (t9 0) 5 1)) := ⟨_, rfl⟩
        have h := nm_out h t26 et26
        have hP : va_P D vwCl (cT kc a t26) H := q_to hP (by subst et26; rfl)
        have hD : va_D A (cT kc a t26) := q_toD hD (by subst et26; rfl)
        refine lv_aload_n hx hb dX1_next_90 rfl (lv_at hl 2 rfl) ?_
        refine lv_iload_n hx hb dX1_next_91 rfl (lv_at hl 1 rfl) ?_
        refine va_put (D := D) (ci := 1) (v := .int r7) (ty := .int) (C := RX1) (T := TX1) (N := 9) hx hb hts hi1 tyX1 tyX1_ok nmX1 hown hK.1 hP hD hS 0 rfl rfl 4 (by decide) (hts (.fieldLink RX1 25 "LastPenny$Tape" "at" "I") (by decide +kernel)) (fun _ h9 => h9) rfl (by decide +kernel) rfl rfl (Nat.le_of_ble_eq_true rfl) dX1_next_92 (fun H locs hP hD hS => ?_)
        obtain ⟨t27, et27⟩ : ∃ z, z = (va_up t26 0 (upd (t26 0) 4 r7)) := ⟨_, rfl⟩
        have h := nm_out h t27 et27
        have hP : va_P D vwCl (cT kc a t27) H := q_to hP (by subst et27; rfl)
        have hD : va_D A (cT kc a t27) := q_toD hD (by subst et27; rfl)
        refine lv_goto (tgt := 179) hx hb dX1_next_95 (by decide) ?_
        exact hret t27 H locs ls _ h hP hD hS dX1_next_179
    · have h := br2 h c12
      refine lv_aload_n hx hb dX1_next_61 rfl (lv_at hl 2 rfl) ?_
      refine lv_iconst (v := 0) hx hb dX1_next_62 (by decide) ?_
      refine va_put (D := D) (ci := 1) (v := .int 0) (ty := .int) (C := RX1) (T := TX1) (N := 9) hx hb hts hi1 tyX1 tyX1_ok nmX1 hown hK.1 hP hD hS 0 rfl rfl 5 (by decide) (hts (.fieldLink RX1 38 "LastPenny$Tape" "token" "I") (by decide +kernel)) (fun _ h9 => h9) rfl (by decide +kernel) rfl rfl (Nat.le_of_ble_eq_true rfl) dX1_next_63 (fun H locs hP hD hS => ?_)
      obtain ⟨t28, et28⟩ : ∃ z, z = (va_up t9 0 (upd (t9 0) 5 0)) := ⟨_, rfl⟩
      have h := nm_out h t28 et28
      have hP : va_P D vwCl (cT kc a t28) H := q_to hP (by subst et28; rfl)
      have hD : va_D A (cT kc a t28) := q_toD hD (by subst et28; rfl)
      refine lv_aload_n hx hb dX1_next_66 rfl (lv_at hl 2 rfl) ?_
      refine lv_aload_n hx hb dX1_next_67 rfl (lv_at hl 2 rfl) ?_
      refine va_get (D := D) (ci := 1) (v := .int (t28 0 6)) (C := RX1) (T := TX1) (N := 9) hx hb hts hi1 hown hK.1 hP 0 rfl rfl 6 (by decide) (hts (.fieldLink RX1 59 "LastPenny$Tape" "start" "I") (by decide +kernel)) (fun _ h9 => h9) rfl dX1_next_68 ?_
      refine va_put (D := D) (ci := 1) (v := .int (t28 0 6)) (ty := .int) (C := RX1) (T := TX1) (N := 9) hx hb hts hi1 tyX1 tyX1_ok nmX1 hown hK.1 hP hD hS 0 rfl rfl 4 (by decide) (hts (.fieldLink RX1 25 "LastPenny$Tape" "at" "I") (by decide +kernel)) (fun _ h9 => h9) rfl (by decide +kernel) rfl rfl (Nat.le_of_ble_eq_true rfl) dX1_next_71 (fun H locs hP hD hS => ?_)
      obtain ⟨t29, et29⟩ : ∃ z, z = (va_up t28 0 (upd (t28 0) 4 (t28 0 6))) := ⟨_, rfl⟩
      have h := nm_out h t29 et29
      have hP : va_P D vwCl (cT kc a t29) H := q_to hP (by subst et29; rfl)
      have hD : va_D A (cT kc a t29) := q_toD hD (by subst et29; rfl)
      refine lv_goto (tgt := 179) hx hb dX1_next_74 (by decide) ?_
      exact hret t29 H locs ls _ h hP hD hS dX1_next_179
  · have h := br2 h c1
    exact hret t H locs ls _ h hP hD hS dX1_next_7

def w_X1_numberRead (t : S2) (K : Int32 → S2 → Prop) : Prop := nm ((t 0 6) : Int32) (fun x1 => lfp2 (fun G7 (i2 : Int32) (i3 : Int32) => br ((t 0 4) ≤ i3) (K i2 t) (vp_in i3 160 ∧ (nm ((((i2 * 10) + (t 1 i3.toNatClampNeg)) - 48) : Int32) (fun x6 => nm (i3 + 1 : Int32) (fun x7 => G7 x6 x7))))) 0 x1)
abbrev rm_X1_numberRead : Room := { frames := 0, cells := 0, slots := 0, locals := 0 }
set_option maxHeartbeats 4000000 in
set_option maxRecDepth 100000 in
theorem c_X1_numberRead (l : Launch) (D : va_G) (kc : Nat → ClassId) (a : Nat → Nat) (t : S2) (sz : Nat) (K : Int32 → S2 → Prop) (h : w_X1_numberRead t K) : MetI l yX1_numberRead wsX1_numberRead rm_X1_numberRead D kc (fun u : S2 => cT kc a u) t [.ref (a 0)] sz (fun r u => K r u) := by
  refine q_ei (code := cX1_numberRead) (maxL := 3) (by decide) rfl (Nat.le_of_ble_eq_true rfl) ?_
  intro p e s m args below meth c Q A hx hb hml hts hown hK hA hret ls hl hP hD hS
  have hown : s.vm.findClass RX1 = some m.cls := hown
  have hl : lv_has ls 3 [(0, .ref (a 0))] := hl
  have hP : va_P D vwCl (cT kc a t) s.heap := hP
  have hD : va_D A (cT kc a t) := hD
  have hS : va_S A s.heap s.heap [] := hS
  obtain ⟨H, eH⟩ : ∃ z, z = s.heap := ⟨_, rfl⟩
  obtain ⟨locs, eL⟩ : ∃ z : List Loc, z = [] := ⟨_, rfl⟩
  have hP := q_heap hP eH
  have hS := q_heapS hS eH eL
  refine q_start eH eL ?_
  clear eH eL
  have hi1 : ∀ w ∈ u_ws RX1 TX1 9, w ∈ wsX1_numberRead := by decide +kernel
  unfold w_X1_numberRead at h
  refine lv_iconst (v := 0) hx hb dX1_numberRead_0 (by decide) ?_
  refine lv_istore_n (lv' := [(1, .int 0), (0, .ref (a 0))]) hx hb dX1_numberRead_1 rfl hl (by decide) rfl (fun ls hl => ?_)
  refine lv_aload_n hx hb dX1_numberRead_2 rfl (lv_at hl 1 rfl) ?_
  refine va_get (D := D) (ci := 1) (v := .int (t 0 6)) (C := RX1) (T := TX1) (N := 9) hx hb hts hi1 hown hK.1 hP 0 rfl rfl 6 (by decide) (hts (.fieldLink RX1 59 "LastPenny$Tape" "start" "I") (by decide +kernel)) (fun _ h9 => h9) rfl dX1_numberRead_3 ?_
  refine lv_topi (fun x1 ex1 => ?_)
  have h := nm_out h x1 ex1
  refine lv_istore_n (lv' := [(2, .int x1), (1, .int 0), (0, .ref (a 0))]) hx hb dX1_numberRead_6 rfl hl (by decide) rfl (fun ls hl => ?_)
  refine h (fun (i2 : Int32) (i3 : Int32) => ∀ (ls : Array Slot), lv_has ls 3 [(0, .ref (a 0)), (1, .int i2), (2, .int i3)] → W p l e rm_X1_numberRead s m args below meth c H locs 0 0 Q (F0 m 7 ls [])) ?_ ls (lv_sub hl [2, 1, 0] rfl)
  intro i2 i3 h ls hl
  refine lv_iload_n hx hb dX1_numberRead_7 rfl (lv_at hl 2 rfl) ?_
  refine lv_aload_n hx hb dX1_numberRead_8 rfl (lv_at hl 0 rfl) ?_
  refine va_get (D := D) (ci := 1) (v := .int (t 0 4)) (C := RX1) (T := TX1) (N := 9) hx hb hts hi1 hown hK.1 hP 0 rfl rfl 4 (by decide) (hts (.fieldLink RX1 25 "LastPenny$Tape" "at" "I") (by decide +kernel)) (fun _ h9 => h9) rfl dX1_numberRead_9 ?_
  refine lv_icmp_ge (tgt := 36) hx hb dX1_numberRead_12 (by decide) (fun c4 => ?_) (fun c4 => ?_)
  · have h := br1 h c4
    refine lv_iload_n hx hb dX1_numberRead_36 rfl (lv_at hl 1 rfl) ?_
    exact hret i2 t H locs ls _ h hP hD hS dX1_numberRead_37
  · have h := br2 h c4
    refine lv_iload_n hx hb dX1_numberRead_15 rfl (lv_at hl 1 rfl) ?_
    refine lv_bipush (v := 10) hx hb dX1_numberRead_16 (by decide) ?_
    refine lv_imul hx hb dX1_numberRead_18 ?_
    refine lv_aload_n hx hb dX1_numberRead_19 rfl (lv_at hl 0 rfl) ?_
    refine va_get (D := D) (ci := 1) (v := .ref (a 1)) (C := RX1) (T := TX1) (N := 9) hx hb hts hi1 hown hK.1 hP 0 rfl rfl 0 (by decide) (hts (.fieldLink RX1 9 "LastPenny$Tape" "bytes" "[B") (by decide +kernel)) (fun _ h9 => h9) rfl dX1_numberRead_20 ?_
    refine lv_iload_n hx hb dX1_numberRead_23 rfl (lv_at hl 2 rfl) ?_
    obtain ⟨hi_5, h⟩ := h
    refine va_bald hx hb hK.1 hP 1 1 rfl rfl hi_5 dX1_numberRead_24 ?_
    refine lv_iadd hx hb dX1_numberRead_25 ?_
    refine lv_bipush (v := 48) hx hb dX1_numberRead_26 (by decide) ?_
    refine lv_isub hx hb dX1_numberRead_28 ?_
    refine lv_topi (fun x6 ex6 => ?_)
    have h := nm_out h x6 ex6
    refine lv_istore_n (lv' := [(1, .int x6), (0, .ref (a 0)), (2, .int i3)]) hx hb dX1_numberRead_29 rfl hl (by decide) rfl (fun ls hl => ?_)
    obtain ⟨x7, ex7⟩ : ∃ z : Int32, z = i3 + 1 := ⟨_, rfl⟩
    have h := nm_out h x7 ex7
    refine lv_iinc (v := x7) (lv' := [(2, .int x7), (1, .int x6), (0, .ref (a 0))]) hx hb dX1_numberRead_30 hl (k := 2) rfl (by rw [ex7]; rfl) (by decide) rfl (fun ls hl => ?_)
    refine lv_goto (tgt := 7) hx hb dX1_numberRead_33 (by decide) ?_
    exact h ls (lv_sub hl [2, 1, 0] rfl)

def w_X1_takeNumber (p1 : Int32) (p2 : Int32) (t : S2) (K : Int32 → S2 → Prop) : Prop := w_X1_next t (fun t1 => br ((t1 0 5) = 2) (w_X1_numberRead t1 (fun r5 t4 => w_X3_within r5 p1 p2 (fun r7 => br (r7 = 0) (w_X1_refuse (3 : Int32) (t4 0 6) t4 (fun t10 => K r5 t10)) (K r5 t4)))) (w_X1_refuse (2 : Int32) (t1 0 6) t1 (fun t12 => K p1 t12)))
abbrev rm_X1_takeNumber : Room := { frames := 2, cells := 0, slots := 0, locals := 46 }
set_option maxHeartbeats 4000000 in
set_option maxRecDepth 100000 in
theorem c_X1_takeNumber (l : Launch) (D : va_G) (kc : Nat → ClassId) (a : Nat → Nat) (p1 : Int32) (p2 : Int32) (t : S2) (sz : Nat) (K : Int32 → S2 → Prop) (h : w_X1_takeNumber p1 p2 t K) : MetI l yX1_takeNumber wsX1_takeNumber rm_X1_takeNumber D kc (fun u : S2 => cT kc a u) t [.ref (a 0), .int p1, .int p2] sz (fun r u => K r u) := by
  refine q_ei (code := cX1_takeNumber) (maxL := 4) (by decide) rfl (Nat.le_of_ble_eq_true rfl) ?_
  intro p e s m args below meth c Q A hx hb hml hts hown hK hA hret ls hl hP hD hS
  have hown : s.vm.findClass RX1 = some m.cls := hown
  have hl : lv_has ls 4 [(0, .ref (a 0)), (1, .int p1), (2, .int p2)] := hl
  have hP : va_P D vwCl (cT kc a t) s.heap := hP
  have hD : va_D A (cT kc a t) := hD
  have hS : va_S A s.heap s.heap [] := hS
  obtain ⟨H, eH⟩ : ∃ z, z = s.heap := ⟨_, rfl⟩
  obtain ⟨locs, eL⟩ : ∃ z : List Loc, z = [] := ⟨_, rfl⟩
  have hP := q_heap hP eH
  have hS := q_heapS hS eH eL
  refine q_start eH eL ?_
  clear eH eL
  have hi1 : ∀ w ∈ u_ws RX1 TX1 9, w ∈ wsX1_takeNumber := by decide +kernel
  unfold w_X1_takeNumber at h
  refine lv_aload_n hx hb dX1_takeNumber_0 rfl (lv_at hl 0 rfl) ?_
  refine q_cVv (As := []) (rest := []) ⟨hx, hb, hml, hown, hts⟩ hK (c_X1_next l D kc a t H.size _ h) (cwV 0 hts gX1_takeNumber_X1_next rfl rfl rfl (by decide +kernel) ⟨Nat.le_of_ble_eq_true rfl, Nat.le_of_ble_eq_true rfl⟩) (cut_same (fun u : S2 => cT kc a u) t) hP hD hS hA 1 0 rfl rfl rfl hl.1 rfl (Nat.le_of_ble_eq_true rfl) dX1_takeNumber_1 ⟨Nat.zero_le _, Nat.zero_le _⟩ (fun u2 H locs h hP hD hS => ?_)
  obtain ⟨t1, rfl⟩ : ∃ z, z = u2 := ⟨_, rfl⟩
  have hP : va_P D vwCl (cT kc a t1) H := hP
  have hD : va_D A (cT kc a t1) := hD
  refine lv_aload_n hx hb dX1_takeNumber_4 rfl (lv_at hl 0 rfl) ?_
  refine va_get (D := D) (ci := 1) (v := .int (t1 0 5)) (C := RX1) (T := TX1) (N := 9) hx hb hts hi1 hown hK.1 hP 0 rfl rfl 5 (by decide) (hts (.fieldLink RX1 38 "LastPenny$Tape" "token" "I") (by decide +kernel)) (fun _ h9 => h9) rfl dX1_takeNumber_5 ?_
  refine lv_iconst (v := 2) hx hb dX1_takeNumber_8 (by decide) ?_
  refine lv_icmp_eq (tgt := 23) hx hb dX1_takeNumber_9 (by decide) (fun c3 => ?_) (fun c3 => ?_)
  · have h := br1 h c3
    refine lv_aload_n hx hb dX1_takeNumber_23 rfl (lv_at hl 0 rfl) ?_
    refine q_cVi (As := []) (rest := []) ⟨hx, hb, hml, hown, hts⟩ hK (c_X1_numberRead l D kc a t1 H.size _ h) (cwV 0 hts gX1_takeNumber_X1_numberRead rfl rfl rfl (by decide +kernel) ⟨Nat.le_of_ble_eq_true rfl, Nat.le_of_ble_eq_true rfl⟩) (cut_same (fun u : S2 => cT kc a u) t1) hP hD hS hA 1 0 rfl rfl rfl hl.1 rfl (Nat.le_of_ble_eq_true rfl) dX1_takeNumber_24 ⟨Nat.zero_le _, Nat.zero_le _⟩ (fun r5 u6 H locs h hP hD hS => ?_)
    obtain ⟨t4, rfl⟩ : ∃ z, z = u6 := ⟨_, rfl⟩
    have hP : va_P D vwCl (cT kc a t4) H := hP
    have hD : va_D A (cT kc a t4) := hD
    refine lv_istore_n (lv' := [(3, .int r5), (0, .ref (a 0)), (1, .int p1), (2, .int p2)]) hx hb dX1_takeNumber_27 rfl hl (by decide) rfl (fun ls hl => ?_)
    refine lv_iload_n hx hb dX1_takeNumber_28 rfl (lv_at hl 0 rfl) ?_
    refine lv_iload_n hx hb dX1_takeNumber_29 rfl (lv_at hl 2 rfl) ?_
    refine lv_iload_n hx hb dX1_takeNumber_30 rfl (lv_at hl 3 rfl) ?_
    refine q_cNi (As := [.int r5, .int p1, .int p2]) (rest := []) (host := RX3) ⟨hx, hb, hml, hown, hts⟩ hK (c_X3_within l D kc r5 p1 p2 H.size _ h) ⟨va_cnB 3 hts gX1_takeNumber_X3_within_n105 rfl rfl rfl hK.2.2.2.1 (hts (.initialized RX3) (by decide +kernel)) (by decide +kernel) ⟨Nat.le_of_ble_eq_true rfl, Nat.le_of_ble_eq_true rfl⟩, (hts (.static yX3_within) (by decide +kernel)), trivial⟩ (cut_nil _) hP hD hS hA rfl hl.1 rfl (Nat.le_of_ble_eq_true rfl) dX1_takeNumber_31 ⟨Nat.zero_le _, Nat.zero_le _⟩ (fun r7 _ H locs h hP hD hS => ?_)
    have hP : va_P D vwCl (cT kc a t4) H := hP
    have hD : va_D A (cT kc a t4) := hD
    refine lv_if_ne (tgt := 46) hx hb dX1_takeNumber_34 (by decide) (fun c9 => ?_) (fun c9 => ?_)
    · have h := br2 h c9
      refine lv_iload_n hx hb dX1_takeNumber_46 rfl (lv_at hl 0 rfl) ?_
      exact hret r5 t4 H locs ls _ h hP hD hS dX1_takeNumber_47
    · have h := br1 h c9
      refine lv_aload_n hx hb dX1_takeNumber_37 rfl (lv_at hl 1 rfl) ?_
      refine lv_iconst (v := 3) hx hb dX1_takeNumber_38 (by decide) ?_
      refine lv_aload_n hx hb dX1_takeNumber_39 rfl (lv_at hl 1 rfl) ?_
      refine va_get (D := D) (ci := 1) (v := .int (t4 0 6)) (C := RX1) (T := TX1) (N := 9) hx hb hts hi1 hown hK.1 hP 0 rfl rfl 6 (by decide) (hts (.fieldLink RX1 59 "LastPenny$Tape" "start" "I") (by decide +kernel)) (fun _ h9 => h9) rfl dX1_takeNumber_40 ?_
      refine q_cVv (As := [.int 3, .int (t4 0 6)]) (rest := []) ⟨hx, hb, hml, hown, hts⟩ hK (c_X1_refuse l D kc a (3 : Int32) (t4 0 6) t4 H.size _ h) (cwV 2 hts gX1_takeNumber_X1_refuse rfl rfl rfl (by decide +kernel) ⟨Nat.le_of_ble_eq_true rfl, Nat.le_of_ble_eq_true rfl⟩) (cut_same (fun u : S2 => cT kc a u) t4) hP hD hS hA 1 0 rfl rfl rfl hl.1 rfl (Nat.le_of_ble_eq_true rfl) dX1_takeNumber_43 ⟨Nat.zero_le _, Nat.zero_le _⟩ (fun u11 H locs h hP hD hS => ?_)
      obtain ⟨t10, rfl⟩ : ∃ z, z = u11 := ⟨_, rfl⟩
      have hP : va_P D vwCl (cT kc a t10) H := hP
      have hD : va_D A (cT kc a t10) := hD
      refine lv_iload_n hx hb dX1_takeNumber_46 rfl (lv_at hl 0 rfl) ?_
      exact hret r5 t10 H locs ls _ h hP hD hS dX1_takeNumber_47
  · have h := br2 h c3
    refine lv_aload_n hx hb dX1_takeNumber_12 rfl (lv_at hl 0 rfl) ?_
    refine lv_iconst (v := 2) hx hb dX1_takeNumber_13 (by decide) ?_
    refine lv_aload_n hx hb dX1_takeNumber_14 rfl (lv_at hl 0 rfl) ?_
    refine va_get (D := D) (ci := 1) (v := .int (t1 0 6)) (C := RX1) (T := TX1) (N := 9) hx hb hts hi1 hown hK.1 hP 0 rfl rfl 6 (by decide) (hts (.fieldLink RX1 59 "LastPenny$Tape" "start" "I") (by decide +kernel)) (fun _ h9 => h9) rfl dX1_takeNumber_15 ?_
    refine q_cVv (As := [.int 2, .int (t1 0 6)]) (rest := []) ⟨hx, hb, hml, hown, hts⟩ hK (c_X1_refuse l D kc a (2 : Int32) (t1 0 6) t1 H.size _ h) (cwV 2 hts gX1_takeNumber_X1_refuse rfl rfl rfl (by decide +kernel) ⟨Nat.le_of_ble_eq_true rfl, Nat.le_of_ble_eq_true rfl⟩) (cut_same (fun u : S2 => cT kc a u) t1) hP hD hS hA 1 0 rfl rfl rfl hl.1 rfl (Nat.le_of_ble_eq_true rfl) dX1_takeNumber_18 ⟨Nat.zero_le _, Nat.zero_le _⟩ (fun u13 H locs h hP hD hS => ?_)
    obtain ⟨t12, rfl⟩ : ∃ z, z = u13 := ⟨_, rfl⟩
    have hP : va_P D vwCl (cT kc a t12) H := hP
    have hD : va_D A (cT kc a t12) := hD
    refine lv_iload_n hx hb dX1_takeNumber_21 rfl (lv_at hl 1 rfl) ?_
    exact hret p1 t12 H locs ls _ h hP hD hS dX1_takeNumber_22

