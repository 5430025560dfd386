def w_X3_ruinedByGift (p1 : Int32) (p2 : Int32) (p3 : Int32) (p4 : Int32) (o : S3) (K : Int32 → S3 → Prop) : Prop := w_X2_become (o 2) (o 1) (fun w1 v2 => nm ((va_up (va_up o 2 w1) 1 v2) : S3) (fun o4 => w_X2_addGift (o4 1 0 1) p1 p2 p3 (o4 2) (fun r6 w5 => nm ((va_up o4 2 w5) : S3) (fun o8 => w_X2_pass p4 (o8 2) (fun w9 => nm ((va_up o8 2 w9) : S3) (fun o11 => w_X2_ruinedCount (o11 2) (fun r13 w12 => nm ((va_up o11 2 w12) : S3) (fun o15 => K r13 o15))))))))
abbrev rm_X3_ruinedByGift : Room := { frames := 4, cells := 0, slots := 0, locals := 129 }
set_option maxHeartbeats 4000000 in
set_option maxRecDepth 100000 in
theorem c_X3_ruinedByGift (l : Launch) (D : va_G) (kc : Nat → ClassId) (a : Nat → Nat → Nat) (p1 : Int32) (p2 : Int32) (p3 : Int32) (p4 : Int32) (o : S3) (sz : Nat) (K : Int32 → S3 → Prop) (h : w_X3_ruinedByGift p1 p2 p3 p4 o K) : MetI l yX3_ruinedByGift wsX3_ruinedByGift rm_X3_ruinedByGift D kc (fun u : S3 => cLP kc a u) o [.ref (a 0 0), .int p1, .int p2, .int p3, .int p4] sz (fun r u => K r u) := by
  refine q_ei (code := cX3_ruinedByGift) (maxL := 5) (by decide) rfl (Nat.le_of_ble_eq_true rfl) ?_
  intro p e s m args below meth c Q A hx hb hml hts hown hK hA hret ls hl hP hD hS
  have hown : s.vm.findClass RX3 = some m.cls := hown
  have hl : lv_has ls 5 [(0, .ref (a 0 0)), (1, .int p1), (2, .int p2), (3, .int p3), (4, .int p4)] := hl
  have hP : va_P D vwCl (cLP kc a o) s.heap := hP
  have hD : va_D A (cLP kc a o) := hD
  have hS : va_S A s.heap s.heap [] := hS
  obtain ⟨H, eH⟩ : ∃ z, z = s.heap := ⟨_, rfl⟩
  obtain ⟨locs, eL⟩ : ∃ z : List Loc, z = [] := ⟨_, rfl⟩
  have hP := q_heap hP eH
  have hS := q_heapS hS eH eL
  refine q_start eH eL ?_
  clear eH eL
  have hi2 : ∀ w ∈ u_ws RX2 TX2 13, w ∈ wsX3_ruinedByGift := by decide +kernel
  have hi3 : ∀ w ∈ u_ws RX3 TX3 10, w ∈ wsX3_ruinedByGift := by decide +kernel
  unfold w_X3_ruinedByGift at h
  refine lv_aload_n hx hb dX3_ruinedByGift_0 rfl (lv_at hl 0 rfl) ?_
  refine va_get (D := D) (ci := 3) (v := .ref (a 2 0)) (C := RX3) (T := TX3) (N := 10) hx hb hts hi3 hown hK.1 hP 0 rfl rfl 2 (by decide) (hts (.fieldLink RX3 23 "LastPenny" "trial" "LLastPenny$World;") (by decide +kernel)) (fun _ h9 => h9) rfl dX3_ruinedByGift_1 ?_
  refine lv_aload_n hx hb dX3_ruinedByGift_4 rfl (lv_at hl 0 rfl) ?_
  refine va_get (D := D) (ci := 3) (v := .ref (a 1 0)) (C := RX3) (T := TX3) (N := 10) hx hb hts hi3 hown hK.1 hP 0 rfl rfl 1 (by decide) (hts (.fieldLink RX3 19 "LastPenny" "now" "LLastPenny$World;") (by decide +kernel)) (fun _ h9 => h9) rfl dX3_ruinedByGift_5 ?_
  refine q_cVv (As := [.ref (a 1 0)]) (rest := []) ⟨hx, hb, hml, hown, hts⟩ hK (c_X2_become l D kc (a 2) (a 1) (o 2) (o 1) H.size _ h) (cwV 1 hts gX3_ruinedByGift_X2_become rfl rfl rfl (by decide +kernel) ⟨Nat.le_of_ble_eq_true rfl, Nat.le_of_ble_eq_true rfl⟩) (cut_LP_2_1 D kc a o) hP hD hS hA 2 0 rfl rfl rfl hl.1 rfl (Nat.le_of_ble_eq_true rfl) dX3_ruinedByGift_8 ⟨Nat.zero_le _, Nat.zero_le _⟩ (fun u3 H locs h hP hD hS => ?_)
  obtain ⟨w1, v2⟩ := u3
  obtain ⟨o4, eo4⟩ : ∃ z, z = (va_up (va_up o 2 w1) 1 v2) := ⟨_, rfl⟩
  have h := nm_out h o4 eo4
  have hP : va_P D vwCl (cLP kc a o4) H := q_to hP (by subst eo4; rfl)
  have hD : va_D A (cLP kc a o4) := q_toD hD (by subst eo4; rfl)
  refine lv_aload_n hx hb dX3_ruinedByGift_11 rfl (lv_at hl 0 rfl) ?_
  refine va_get (D := D) (ci := 3) (v := .ref (a 2 0)) (C := RX3) (T := TX3) (N := 10) hx hb hts hi3 hown hK.1 hP 0 rfl rfl 2 (by decide) (hts (.fieldLink RX3 23 "LastPenny" "trial" "LLastPenny$World;") (by decide +kernel)) (fun _ h9 => h9) rfl dX3_ruinedByGift_12 ?_
  refine lv_aload_n hx hb dX3_ruinedByGift_15 rfl (lv_at hl 0 rfl) ?_
  refine va_get (D := D) (ci := 3) (v := .ref (a 1 0)) (C := RX3) (T := TX3) (N := 10) hx hb hts hi3 hown hK.1 hP 0 rfl rfl 1 (by decide) (hts (.fieldLink RX3 19 "LastPenny" "now" "LLastPenny$World;") (by decide +kernel)) (fun _ h9 => h9) rfl dX3_ruinedByGift_16 ?_
  refine va_get (D := D) (ci := 2) (v := .int (o4 1 0 1)) (C := RX2) (T := TX2) (N := 13) hx hb hts hi2 hown hK.1 hP 6 rfl rfl 1 (by decide) (hts (.fieldLink RX3 83 "LastPenny$World" "quarter" "I") (by decide +kernel)) (fun _ h9 => h9) rfl dX3_ruinedByGift_19 ?_
  refine lv_iload_n hx hb dX3_ruinedByGift_22 rfl (lv_at hl 1 rfl) ?_
  refine lv_iload_n hx hb dX3_ruinedByGift_23 rfl (lv_at hl 2 rfl) ?_
  refine lv_iload_n hx hb dX3_ruinedByGift_24 rfl (lv_at hl 3 rfl) ?_
  refine q_cVi (As := [.int (o4 1 0 1), .int p1, .int p2, .int p3]) (rest := []) ⟨hx, hb, hml, hown, hts⟩ hK (c_X2_addGift l D kc (a 2) (o4 1 0 1) p1 p2 p3 (o4 2) H.size _ h) (cwV 4 hts gX3_ruinedByGift_X2_addGift rfl rfl rfl (by decide +kernel) ⟨Nat.le_of_ble_eq_true rfl, Nat.le_of_ble_eq_true rfl⟩) (cut_LP_2 D kc a o4) hP hD hS hA 2 0 rfl rfl rfl hl.1 rfl (Nat.le_of_ble_eq_true rfl) dX3_ruinedByGift_25 ⟨Nat.zero_le _, Nat.zero_le _⟩ (fun r6 u7 H locs h hP hD hS => ?_)
  obtain ⟨w5, rfl⟩ : ∃ z, z = u7 := ⟨_, rfl⟩
  obtain ⟨o8, eo8⟩ : ∃ z, z = (va_up o4 2 w5) := ⟨_, rfl⟩
  have h := nm_out h o8 eo8
  have hP : va_P D vwCl (cLP kc a o8) H := q_to hP (by subst eo8; rfl)
  have hD : va_D A (cLP kc a o8) := q_toD hD (by subst eo8; rfl)
  refine lv_pop hx hb dX3_ruinedByGift_28 rfl ?_
  refine lv_aload_n hx hb dX3_ruinedByGift_29 rfl (lv_at hl 0 rfl) ?_
  refine va_get (D := D) (ci := 3) (v := .ref (a 2 0)) (C := RX3) (T := TX3) (N := 10) hx hb hts hi3 hown hK.1 hP 0 rfl rfl 2 (by decide) (hts (.fieldLink RX3 23 "LastPenny" "trial" "LLastPenny$World;") (by decide +kernel)) (fun _ h9 => h9) rfl dX3_ruinedByGift_30 ?_
  refine lv_iload hx hb dX3_ruinedByGift_33 (lv_at hl 4 rfl) ?_
  refine q_cVv (As := [.int p4]) (rest := []) ⟨hx, hb, hml, hown, hts⟩ hK (c_X2_pass l D kc (a 2) p4 (o8 2) H.size _ h) (cwV 1 hts gX3_ruinedByGift_X2_pass rfl rfl rfl (by decide +kernel) ⟨Nat.le_of_ble_eq_true rfl, Nat.le_of_ble_eq_true rfl⟩) (cut_LP_2 D kc a o8) hP hD hS hA 2 0 rfl rfl rfl hl.1 rfl (Nat.le_of_ble_eq_true rfl) dX3_ruinedByGift_35 ⟨Nat.zero_le _, Nat.zero_le _⟩ (fun u10 H locs h hP hD hS => ?_)
  obtain ⟨w9, rfl⟩ : ∃ z, z = u10 := ⟨_, rfl⟩
  obtain ⟨o11, eo11⟩ : ∃ z, z = (va_up o8 2 w9) := ⟨_, rfl⟩
  have h := nm_out h o11 eo11
  have hP : va_P D vwCl (cLP kc a o11) H := q_to hP (by subst eo11; rfl)
  have hD : va_D A (cLP kc a o11) := q_toD hD (by subst eo11; rfl)
  refine lv_aload_n hx hb dX3_ruinedByGift_38 rfl (lv_at hl 0 rfl) ?_
  refine va_get (D := D) (ci := 3) (v := .ref (a 2 0)) (C := RX3) (T := TX3) (N := 10) hx hb hts hi3 hown hK.1 hP 0 rfl rfl 2 (by decide) (hts (.fieldLink RX3 23 "LastPenny" "trial" "LLastPenny$World;") (by decide +kernel)) (fun _ h9 => h9) rfl dX3_ruinedByGift_39 ?_
  refine q_cVi (As := []) (rest := []) ⟨hx, hb, hml, hown, hts⟩ hK (c_X2_ruinedCount l D kc (a 2) (o11 2) H.size _ h) (cwV 0 hts gX3_ruinedByGift_X2_ruinedCount rfl rfl rfl (by decide +kernel) ⟨Nat.le_of_ble_eq_true rfl, Nat.le_of_ble_eq_true rfl⟩) (cut_LP_2 D kc a o11) hP hD hS hA 2 0 rfl rfl rfl hl.1 rfl (Nat.le_of_ble_eq_true rfl) dX3_ruinedByGift_42 ⟨Nat.zero_le _, Nat.zero_le _⟩ (fun r13 u14 H locs h hP hD hS => ?_)
  obtain ⟨w12, rfl⟩ : ∃ z, z = u14 := ⟨_, rfl⟩
  obtain ⟨o15, eo15⟩ : ∃ z, z = (va_up o11 2 w12) := ⟨_, rfl⟩
  have h := nm_out h o15 eo15
  have hP : va_P D vwCl (cLP kc a o15) H := q_to hP (by subst eo15; rfl)
  have hD : va_D A (cLP kc a o15) := q_toD hD (by subst eo15; rfl)
  exact hret r13 o15 H locs ls _ h hP hD hS dX3_ruinedByGift_45

def w_X3_help (p1 : Int32) (p2 : Int32) (o : S3) (K : Int32 → S3 → Prop) : Prop := w_X3_within p1 (0 : Int32) (20 : Int32) (fun r1 => br (r1 = 0) (K (-1) o) (w_X3_within p2 (0 : Int32) (1 : Int32) (fun r4 => br (r4 = 0) (K (-1) o) (br ((o 1 0 4) < 4) (nm ((-4) : Int32) (fun x8 => w_X3_ruinedBehind p1 o (fun r10 o9 => lfp4 (fun G48 (i12 : Int32) (i13 : Int32) (i14 : Int32) (o15 : S3) => br ((o15 1 0 0) ≤ i14) (br (i12 = (-4)) (K i12 o15) (br (p2 = 0) (K i12 o15) (K i13 o15))) (lfp4 (fun G63 (i19 : Int32) (i20 : Int32) (i21 : Int32) (o22 : S3) => br ((o22 1 0 0) ≤ i21) (nm (i14 + 1 : Int32) (fun x24 => G48 i19 i20 x24 o22)) (lfp4 (fun G78 (i25 : Int32) (i26 : Int32) (i27 : Int32) (o28 : S3) => jn (fun (_ : Unit) => nm (i21 + 1 : Int32) (fun x29 => G63 i25 i26 x29 o28)) (fun J138 => br (20 < i27) (J138 ()) (br (i21 = i14) (J138 ()) (w_X3_ruinedByGift i14 i21 i27 p1 o28 (fun r33 o32 => jn (fun (i35 : Int32) (i36 : Int32) => nm (i27 + 1 : Int32) (fun x37 => G78 i35 i36 x37 o32)) (fun J132 => br (i26 ≤ r33) (J132 i25 i26) (nm ((((1000 * i14) + (100 * i21)) + i27) : Int32) (fun x39 => J132 x39 r33)))))))) i19 i20 1 o22)) i12 i13 0 o15)) x8 r10 0 o9))) (K (-3) o)))))
abbrev rm_X3_help : Room := { frames := 5, cells := 0, slots := 0, locals := 153 }
set_option maxHeartbeats 4000000 in
set_option maxRecDepth 100000 in
theorem c_X3_help (l : Launch) (D : va_G) (kc : Nat → ClassId) (a : Nat → Nat → Nat) (p1 : Int32) (p2 : Int32) (o : S3) (sz : Nat) (K : Int32 → S3 → Prop) (h : w_X3_help p1 p2 o K) : MetI l yX3_help wsX3_help rm_X3_help D kc (fun u : S3 => cLP kc a u) o [.ref (a 0 0), .int p1, .int p2] sz (fun r u => K r u) := by
  refine q_ei (code := cX3_help) (maxL := 9) (by decide) rfl (Nat.le_of_ble_eq_true rfl) ?_
  intro p e s m args below meth c Q A hx hb hml hts hown hK hA hret ls hl hP hD hS
  have hown : s.vm.findClass RX3 = some m.cls := hown
  have hl : lv_has ls 9 [(0, .ref (a 0 0)), (1, .int p1), (2, .int p2)] := hl
  have hP : va_P D vwCl (cLP kc a o) s.heap := hP
  have hD : va_D A (cLP kc a o) := hD
  have hS : va_S A s.heap s.heap [] := hS
  obtain ⟨H, eH⟩ : ∃ z, z = s.heap := ⟨_, rfl⟩
  obtain ⟨locs, eL⟩ : ∃ z : List Loc, z = [] := ⟨_, rfl⟩
  have hP := q_heap hP eH
  have hS := q_heapS hS eH eL
  refine q_start eH eL ?_
  clear eH eL
  have hi2 : ∀ w ∈ u_ws RX2 TX2 13, w ∈ wsX3_help := by decide +kernel
  have hi3 : ∀ w ∈ u_ws RX3 TX3 10, w ∈ wsX3_help := by decide +kernel
  unfold w_X3_help at h
  refine lv_iload_n hx hb dX3_help_0 rfl (lv_at hl 1 rfl) ?_
  refine lv_iconst (v := 0) hx hb dX3_help_1 (by decide) ?_
  refine lv_bipush (v := 20) hx hb dX3_help_2 (by decide) ?_
  refine q_cSi (As := [.int p1, .int 0, .int 20]) (rest := []) ⟨hx, hb, hml, hown, hts⟩ hK (c_X3_within l D kc p1 (0 : Int32) (20 : Int32) H.size _ h) (va_cwS 3 hts gX3_help_X3_within rfl rfl rfl (by decide +kernel) ⟨Nat.le_of_ble_eq_true rfl, Nat.le_of_ble_eq_true rfl⟩) (cut_nil _) hP hD hS hA rfl hl.1 rfl (Nat.le_of_ble_eq_true rfl) dX3_help_4 ⟨Nat.zero_le _, Nat.zero_le _⟩ (fun r1 _ H locs h hP hD hS => ?_)
  have hP : va_P D vwCl (cLP kc a o) H := hP
  have hD : va_D A (cLP kc a o) := hD
  refine lv_if_eq (tgt := 19) hx hb dX3_help_7 (by decide) (fun c3 => ?_) (fun c3 => ?_)
  · have h := br1 h c3
    refine lv_iconst (v := -1) hx hb dX3_help_19 (by decide) ?_
    exact hret (-1) o H locs ls _ h hP hD hS dX3_help_20
  · have h := br2 h c3
    refine lv_iload_n hx hb dX3_help_10 rfl (lv_at hl 2 rfl) ?_
    refine lv_iconst (v := 0) hx hb dX3_help_11 (by decide) ?_
    refine lv_iconst (v := 1) hx hb dX3_help_12 (by decide) ?_
    refine q_cSi (As := [.int p2, .int 0, .int 1]) (rest := []) ⟨hx, hb, hml, hown, hts⟩ hK (c_X3_within l D kc p2 (0 : Int32) (1 : Int32) H.size _ h) (va_cwS 3 hts gX3_help_X3_within rfl rfl rfl (by decide +kernel) ⟨Nat.le_of_ble_eq_true rfl, Nat.le_of_ble_eq_true rfl⟩) (cut_nil _) hP hD hS hA rfl hl.1 rfl (Nat.le_of_ble_eq_true rfl) dX3_help_13 ⟨Nat.zero_le _, Nat.zero_le _⟩ (fun r4 _ H locs h hP hD hS => ?_)
    have hP : va_P D vwCl (cLP kc a o) H := hP
    have hD : va_D A (cLP kc a o) := hD
    refine lv_if_ne (tgt := 21) hx hb dX3_help_16 (by decide) (fun c6 => ?_) (fun c6 => ?_)
    · have h := br2 h c6
      refine lv_aload_n hx hb dX3_help_21 rfl (lv_at hl 0 rfl) ?_
      refine va_get (D := D) (ci := 3) (v := .ref (a 1 0)) (C := RX3) (T := TX3) (N := 10) hx hb hts hi3 hown hK.1 hP 0 rfl rfl 1 (by decide) (hts (.fieldLink RX3 19 "LastPenny" "now" "LLastPenny$World;") (by decide +kernel)) (fun _ h9 => h9) rfl dX3_help_22 ?_
      refine va_get (D := D) (ci := 2) (v := .int (o 1 0 4)) (C := RX2) (T := TX2) (N := 13) hx hb hts hi2 hown hK.1 hP 6 rfl rfl 4 (by decide) (hts (.fieldLink RX3 99 "LastPenny$World" "gifts" "I") (by decide +kernel)) (fun _ h9 => h9) rfl dX3_help_25 ?_
      refine lv_iconst (v := 4) hx hb dX3_help_28 (by decide) ?_
      refine lv_icmp_lt (tgt := 35) hx hb dX3_help_29 (by decide) (fun c7 => ?_) (fun c7 => ?_)
      · have h := br1 h c7
        refine lv_bipush (v := -4) hx hb dX3_help_35 (by decide) ?_
        refine lv_topi (fun x8 ex8 => ?_)
        have h := nm_out h x8 ex8
        refine lv_istore_n (lv' := [(3, .int x8), (0, .ref (a 0 0)), (1, .int p1), (2, .int p2)]) hx hb dX3_help_37 rfl hl (by decide) rfl (fun ls hl => ?_)
        refine lv_aload_n hx hb dX3_help_38 rfl (lv_at hl 1 rfl) ?_
        refine lv_iload_n hx hb dX3_help_39 rfl (lv_at hl 2 rfl) ?_
        refine q_cVi (As := [.int p1]) (rest := []) ⟨hx, hb, hml, hown, hts⟩ hK (c_X3_ruinedBehind l D kc a p1 o H.size _ h) (cwV 1 hts gX3_help_X3_ruinedBehind rfl rfl rfl (by decide +kernel) ⟨Nat.le_of_ble_eq_true rfl, Nat.le_of_ble_eq_true rfl⟩) (cut_same (fun u : S3 => cLP kc a u) o) hP hD hS hA 3 0 rfl rfl rfl hl.1 rfl (Nat.le_of_ble_eq_true rfl) dX3_help_40 ⟨Nat.zero_le _, Nat.zero_le _⟩ (fun r10 u11 H locs h hP hD hS => ?_)
        obtain ⟨o9, rfl⟩ : ∃ z, z = u11 := ⟨_, rfl⟩
        have hP : va_P D vwCl (cLP kc a o9) H := hP
        have hD : va_D A (cLP kc a o9) := hD
        refine lv_istore (lv' := [(4, .int r10), (3, .int x8), (0, .ref (a 0 0)), (1, .int p1), (2, .int p2)]) hx hb dX3_help_43 hl (by decide) rfl (fun ls hl => ?_)
        refine lv_iconst (v := 0) hx hb dX3_help_45 (by decide) ?_
        refine lv_istore (lv' := [(5, .int 0), (4, .int r10), (3, .int x8), (0, .ref (a 0 0)), (1, .int p1), (2, .int p2)]) hx hb dX3_help_46 hl (by decide) rfl (fun ls hl => ?_)
        refine h (fun (i12 : Int32) (i13 : Int32) (i14 : Int32) (o15 : S3) => ∀ (ls : Array Slot) (H : Heap) (locs : List Loc), lv_has ls 9 [(0, .ref (a 0 0)), (1, .int p1), (2, .int p2), (3, .int i12), (4, .int i13), (5, .int i14)] → va_P D vwCl (cLP kc a o15) H → va_D A (cLP kc a o15) → va_S A s.heap H locs → W p l e rm_X3_help s m args below meth c H locs 0 0 Q (F0 m 48 ls [])) ?_ ls H locs (lv_sub hl [3, 4, 5, 2, 1, 0] rfl) hP hD hS
        intro i12 i13 i14 o15 h ls H locs hl hP hD hS
        refine lv_iload hx hb dX3_help_48 (lv_at hl 5 rfl) ?_
        refine lv_aload_n hx hb dX3_help_50 rfl (lv_at hl 0 rfl) ?_
        refine va_get (D := D) (ci := 3) (v := .ref (a 1 0)) (C := RX3) (T := TX3) (N := 10) hx hb hts hi3 hown hK.1 hP 0 rfl rfl 1 (by decide) (hts (.fieldLink RX3 19 "LastPenny" "now" "LLastPenny$World;") (by decide +kernel)) (fun _ h9 => h9) rfl dX3_help_51 ?_
        refine va_get (D := D) (ci := 2) (v := .int (o15 1 0 0)) (C := RX2) (T := TX2) (N := 13) hx hb hts hi2 hown hK.1 hP 6 rfl rfl 0 (by decide) (hts (.fieldLink RX3 80 "LastPenny$World" "people" "I") (by decide +kernel)) (fun _ h9 => h9) rfl dX3_help_54 ?_
        refine lv_icmp_ge (tgt := 150) hx hb dX3_help_57 (by decide) (fun c16 => ?_) (fun c16 => ?_)
        · have h := br1 h c16
          refine lv_iload_n hx hb dX3_help_150 rfl (lv_at hl 3 rfl) ?_
          refine lv_bipush (v := -4) hx hb dX3_help_151 (by decide) ?_
          refine lv_icmp_eq (tgt := 160) hx hb dX3_help_153 (by decide) (fun c17 => ?_) (fun c17 => ?_)
          · have h := br1 h c17
            refine lv_iload_n hx hb dX3_help_160 rfl (lv_at hl 3 rfl) ?_
            refine lv_goto (tgt := 166) hx hb dX3_help_161 (by decide) ?_
            exact hret i12 o15 H locs ls _ h hP hD hS dX3_help_166
          · have h := br2 h c17
            refine lv_iload_n hx hb dX3_help_156 rfl (lv_at hl 2 rfl) ?_
            refine lv_if_ne (tgt := 164) hx hb dX3_help_157 (by decide) (fun c18 => ?_) (fun c18 => ?_)
            · have h := br2 h c18
              refine lv_iload hx hb dX3_help_164 (lv_at hl 4 rfl) ?_
              exact hret i13 o15 H locs ls _ h hP hD hS dX3_help_166
            · have h := br1 h c18
              refine lv_iload_n hx hb dX3_help_160 rfl (lv_at hl 3 rfl) ?_
              refine lv_goto (tgt := 166) hx hb dX3_help_161 (by decide) ?_
              exact hret i12 o15 H locs ls _ h hP hD hS dX3_help_166
        · have h := br2 h c16
          refine lv_iconst (v := 0) hx hb dX3_help_60 (by decide) ?_
          refine lv_istore (lv' := [(6, .int 0), (0, .ref (a 0 0)), (1, .int p1), (2, .int p2), (3, .int i12), (4, .int i13), (5, .int i14)]) hx hb dX3_help_61 hl (by decide) rfl (fun ls hl => ?_)
          refine h (fun (i19 : Int32) (i20 : Int32) (i21 : Int32) (o22 : S3) => ∀ (ls : Array Slot) (H : Heap) (locs : List Loc), lv_has ls 9 [(0, .ref (a 0 0)), (1, .int p1), (2, .int p2), (3, .int i19), (4, .int i20), (5, .int i14), (6, .int i21)] → va_P D vwCl (cLP kc a o22) H → va_D A (cLP kc a o22) → va_S A s.heap H locs → W p l e rm_X3_help s m args below meth c H locs 0 0 Q (F0 m 63 ls [])) ?_ ls H locs (lv_sub hl [1, 2, 3, 4, 5, 6, 0] rfl) hP hD hS
          intro i19 i20 i21 o22 h ls H locs hl hP hD hS
          refine lv_iload hx hb dX3_help_63 (lv_at hl 6 rfl) ?_
          refine lv_aload_n hx hb dX3_help_65 rfl (lv_at hl 0 rfl) ?_
          refine va_get (D := D) (ci := 3) (v := .ref (a 1 0)) (C := RX3) (T := TX3) (N := 10) hx hb hts hi3 hown hK.1 hP 0 rfl rfl 1 (by decide) (hts (.fieldLink RX3 19 "LastPenny" "now" "LLastPenny$World;") (by decide +kernel)) (fun _ h9 => h9) rfl dX3_help_66 ?_
          refine va_get (D := D) (ci := 2) (v := .int (o22 1 0 0)) (C := RX2) (T := TX2) (N := 13) hx hb hts hi2 hown hK.1 hP 6 rfl rfl 0 (by decide) (hts (.fieldLink RX3 80 "LastPenny$World" "people" "I") (by decide +kernel)) (fun _ h9 => h9) rfl dX3_help_69 ?_
          refine lv_icmp_ge (tgt := 144) hx hb dX3_help_72 (by decide) (fun c23 => ?_) (fun c23 => ?_)
          · have h := br1 h c23
            obtain ⟨x24, ex24⟩ : ∃ z : Int32, z = i14 + 1 := ⟨_, rfl⟩
            have h := nm_out h x24 ex24
            refine lv_iinc (v := x24) (lv' := [(5, .int x24), (0, .ref (a 0 0)), (1, .int p1), (2, .int p2), (3, .int i19), (4, .int i20), (6, .int i21)]) hx hb dX3_help_144 hl (k := 5) rfl (by rw [ex24]; rfl) (by decide) rfl (fun ls hl => ?_)
            refine lv_goto (tgt := 48) hx hb dX3_help_147 (by decide) ?_
            exact h ls H locs (lv_sub hl [1, 2, 3, 4, 5, 0] rfl) hP hD hS
          · have h := br2 h c23
            refine lv_iconst (v := 1) hx hb dX3_help_75 (by decide) ?_
            refine lv_istore (lv' := [(7, .int 1), (0, .ref (a 0 0)), (1, .int p1), (2, .int p2), (3, .int i19), (4, .int i20), (5, .int i14), (6, .int i21)]) hx hb dX3_help_76 hl (by decide) rfl (fun ls hl => ?_)
            refine h (fun (i25 : Int32) (i26 : Int32) (i27 : Int32) (o28 : S3) => ∀ (ls : Array Slot) (H : Heap) (locs : List Loc), lv_has ls 9 [(0, .ref (a 0 0)), (1, .int p1), (2, .int p2), (3, .int i25), (4, .int i26), (5, .int i14), (6, .int i21), (7, .int i27)] → va_P D vwCl (cLP kc a o28) H → va_D A (cLP kc a o28) → va_S A s.heap H locs → W p l e rm_X3_help s m args below meth c H locs 0 0 Q (F0 m 78 ls [])) ?_ ls H locs (lv_sub hl [1, 2, 3, 4, 5, 6, 7, 0] rfl) hP hD hS
            intro i25 i26 i27 o28 h ls H locs hl hP hD hS
            refine lv_iload hx hb dX3_help_78 (lv_at hl 7 rfl) ?_
            refine lv_bipush (v := 20) hx hb dX3_help_80 (by decide) ?_
            refine jn_elim h (fun J138 eJ138 h => ?_)
            have hJ_138 : ∀  (ls : Array Slot), J138 () → lv_has ls 9 [(0, .ref (a 0 0)), (1, .int p1), (2, .int p2), (3, .int i25), (4, .int i26), (5, .int i14), (6, .int i21)] → W p l e rm_X3_help s m args below meth c H locs 0 0 Q (F0 m 138 ls []) := by
              intro  ls h hl
              subst eJ138
              obtain ⟨x29, ex29⟩ : ∃ z : Int32, z = i21 + 1 := ⟨_, rfl⟩
              have h := nm_out h x29 ex29
              refine lv_iinc (v := x29) (lv' := [(6, .int x29), (0, .ref (a 0 0)), (1, .int p1), (2, .int p2), (3, .int i25), (4, .int i26), (5, .int i14)]) hx hb dX3_help_138 hl (k := 6) rfl (by rw [ex29]; rfl) (by decide) rfl (fun ls hl => ?_)
              refine lv_goto (tgt := 63) hx hb dX3_help_141 (by decide) ?_
              exact h ls H locs (lv_sub hl [1, 2, 3, 4, 5, 6, 0] rfl) hP hD hS
            refine lv_icmp_gt (tgt := 138) hx hb dX3_help_82 (by decide) (fun c30 => ?_) (fun c30 => ?_)
            · have h := br1 h c30
              exact hJ_138 ls h (lv_sub hl [0, 1, 2, 3, 4, 5, 6] rfl)
            · have h := br2 h c30
              refine lv_iload hx hb dX3_help_85 (lv_at hl 6 rfl) ?_
              refine lv_iload hx hb dX3_help_87 (lv_at hl 5 rfl) ?_
              refine lv_icmp_eq (tgt := 138) hx hb dX3_help_89 (by decide) (fun c31 => ?_) (fun c31 => ?_)
              · have h := br1 h c31
                exact hJ_138 ls h (lv_sub hl [0, 1, 2, 3, 4, 5, 6] rfl)
              · have h := br2 h c31
                refine lv_aload_n hx hb dX3_help_92 rfl (lv_at hl 0 rfl) ?_
                refine lv_iload hx hb dX3_help_93 (lv_at hl 5 rfl) ?_
                refine lv_iload hx hb dX3_help_95 (lv_at hl 6 rfl) ?_
                refine lv_iload hx hb dX3_help_97 (lv_at hl 7 rfl) ?_
                refine lv_iload_n hx hb dX3_help_99 rfl (lv_at hl 1 rfl) ?_
                refine q_cVi (As := [.int i14, .int i21, .int i27, .int p1]) (rest := []) ⟨hx, hb, hml, hown, hts⟩ hK (c_X3_ruinedByGift l D kc a i14 i21 i27 p1 o28 H.size _ h) (cwV 4 hts gX3_help_X3_ruinedByGift rfl rfl rfl (by decide +kernel) ⟨Nat.le_of_ble_eq_true rfl, Nat.le_of_ble_eq_true rfl⟩) (cut_same (fun u : S3 => cLP kc a u) o28) hP hD hS hA 3 0 rfl rfl rfl hl.1 rfl (Nat.le_of_ble_eq_true rfl) dX3_help_100 ⟨Nat.zero_le _, Nat.zero_le _⟩ (fun r33 u34 H locs h hP hD hS => ?_)
                obtain ⟨o32, rfl⟩ : ∃ z, z = u34 := ⟨_, rfl⟩
                have hP : va_P D vwCl (cLP kc a o32) H := hP
                have hD : va_D A (cLP kc a o32) := hD
                refine lv_istore (lv' := [(8, .int r33), (0, .ref (a 0 0)), (1, .int p1), (2, .int p2), (3, .int i25), (4, .int i26), (5, .int i14), (6, .int i21), (7, .int i27)]) hx hb dX3_help_103 hl (by decide) rfl (fun ls hl => ?_)
                refine lv_iload hx hb dX3_help_105 (lv_at hl 0 rfl) ?_
                refine lv_iload hx hb dX3_help_107 (lv_at hl 5 rfl) ?_
                refine jn_elim h (fun J132 eJ132 h => ?_)
                have hJ_132 : ∀ (i35 : Int32) (i36 : Int32) (ls : Array Slot), J132 i35 i36 → lv_has ls 9 [(0, .ref (a 0 0)), (1, .int p1), (2, .int p2), (3, .int i35), (4, .int i36), (5, .int i14), (6, .int i21), (7, .int i27)] → W p l e rm_X3_help s m args below meth c H locs 0 0 Q (F0 m 132 ls []) := by
                  intro i35 i36 ls h hl
                  subst eJ132
                  obtain ⟨x37, ex37⟩ : ∃ z : Int32, z = i27 + 1 := ⟨_, rfl⟩
                  have h := nm_out h x37 ex37
                  refine lv_iinc (v := x37) (lv' := [(7, .int x37), (0, .ref (a 0 0)), (1, .int p1), (2, .int p2), (3, .int i35), (4, .int i36), (5, .int i14), (6, .int i21)]) hx hb dX3_help_132 hl (k := 7) rfl (by rw [ex37]; rfl) (by decide) rfl (fun ls hl => ?_)
                  refine lv_goto (tgt := 78) hx hb dX3_help_135 (by decide) ?_
                  exact h ls H locs (lv_sub hl [1, 2, 3, 4, 5, 6, 7, 0] rfl) hP hD hS
                refine lv_icmp_ge (tgt := 132) hx hb dX3_help_109 (by decide) (fun c38 => ?_) (fun c38 => ?_)
                · have h := br1 h c38
                  exact hJ_132 i25 i26 ls h (lv_sub hl [1, 2, 3, 4, 5, 6, 7, 8] rfl)
                · have h := br2 h c38
                  refine lv_sipush (v := 1000) hx hb dX3_help_112 (by decide) ?_
                  refine lv_iload hx hb dX3_help_115 (lv_at hl 6 rfl) ?_
                  refine lv_imul hx hb dX3_help_117 ?_
                  refine lv_bipush (v := 100) hx hb dX3_help_118 (by decide) ?_
                  refine lv_iload hx hb dX3_help_120 (lv_at hl 7 rfl) ?_
                  refine lv_imul hx hb dX3_help_122 ?_
                  refine lv_iadd hx hb dX3_help_123 ?_
                  refine lv_iload hx hb dX3_help_124 (lv_at hl 8 rfl) ?_
                  refine lv_iadd hx hb dX3_help_126 ?_
                  refine lv_topi (fun x39 ex39 => ?_)
                  have h := nm_out h x39 ex39
                  refine lv_istore_n (lv' := [(3, .int x39), (8, .int r33), (0, .ref (a 0 0)), (1, .int p1), (2, .int p2), (4, .int i26), (5, .int i14), (6, .int i21), (7, .int i27)]) hx hb dX3_help_127 rfl hl (by decide) rfl (fun ls hl => ?_)
                  refine lv_iload hx hb dX3_help_128 (lv_at hl 1 rfl) ?_
                  refine lv_istore (lv' := [(4, .int r33), (3, .int x39), (8, .int r33), (0, .ref (a 0 0)), (1, .int p1), (2, .int p2), (5, .int i14), (6, .int i21), (7, .int i27)]) hx hb dX3_help_130 hl (by decide) rfl (fun ls hl => ?_)
                  exact hJ_132 x39 r33 ls h (lv_sub hl [3, 4, 5, 1, 0, 6, 7, 8] rfl)
      · have h := br2 h c7
        refine lv_bipush (v := -3) hx hb dX3_help_32 (by decide) ?_
        exact hret (-3) o H locs ls _ h hP hD hS dX3_help_34
    · have h := br1 h c6
      refine lv_iconst (v := -1) hx hb dX3_help_19 (by decide) ?_
      exact hret (-1) o H locs ls _ h hP hD hS dX3_help_20

def w_X3_ruinedBySwap (p1 : Int32) (p2 : Int32) (p3 : Int32) (o : S3) (K : Int32 → S3 → Prop) : Prop := w_X2_become (o 2) (o 1) (fun w1 v2 => nm ((va_up (va_up o 2 w1) 1 v2) : S3) (fun o4 => vp_in p2 5 ∧ (vp_in p1 5 ∧ (nm ((va_up o4 2 (va_up (o4 2) 3 (upd ((o4 2) 3) p1.toNatClampNeg (o4 1 3 p2.toNatClampNeg)))) : S3) (fun o7 => vp_in p1 5 ∧ (vp_in p2 5 ∧ (nm ((va_up o7 2 (va_up (o7 2) 3 (upd ((o7 2) 3) p2.toNatClampNeg (o7 1 3 p1.toNatClampNeg)))) : S3) (fun o10 => w_X2_pass p3 (o10 2) (fun w11 => nm ((va_up o10 2 w11) : S3) (fun o13 => w_X2_ruinedCount (o13 2) (fun r15 w14 => nm ((va_up o13 2 w14) : S3) (fun o17 => K r15 o17))))))))))))
abbrev rm_X3_ruinedBySwap : Room := { frames := 4, cells := 0, slots := 0, locals := 129 }
set_option maxHeartbeats 4000000 in
set_option maxRecDepth 100000 in
theorem c_X3_ruinedBySwap (l : Launch) (D : va_G) (kc : Nat → ClassId) (a : Nat → Nat → Nat) (p1 : Int32) (p2 : Int32) (p3 : Int32) (o : S3) (sz : Nat) (K : Int32 → S3 → Prop) (h : w_X3_ruinedBySwap p1 p2 p3 o K) : MetI l yX3_ruinedBySwap wsX3_ruinedBySwap rm_X3_ruinedBySwap D kc (fun u : S3 => cLP kc a u) o [.ref (a 0 0), .int p1, .int p2, .int p3] sz (fun r u => K r u) := by
  refine q_ei (code := cX3_ruinedBySwap) (maxL := 4) (by decide) rfl (Nat.le_of_ble_eq_true rfl) ?_
  intro p e s m args below meth c Q A hx hb hml hts hown hK hA hret ls hl hP hD hS
  have hown : s.vm.findClass RX3 = some m.cls := hown
  have hl : lv_has ls 4 [(0, .ref (a 0 0)), (1, .int p1), (2, .int p2), (3, .int p3)] := hl
  have hP : va_P D vwCl (cLP kc a o) s.heap := hP
  have hD : va_D A (cLP kc a o) := hD
  have hS : va_S A s.heap s.heap [] := hS
  obtain ⟨H, eH⟩ : ∃ z, z = s.heap := ⟨_, rfl⟩
  obtain ⟨locs, eL⟩ : ∃ z : List Loc, z = [] := ⟨_, rfl⟩
  have hP := q_heap hP eH
  have hS := q_heapS hS eH eL
  refine q_start eH eL ?_
  clear eH eL
  have hi2 : ∀ w ∈ u_ws RX2 TX2 13, w ∈ wsX3_ruinedBySwap := by decide +kernel
  have hi3 : ∀ w ∈ u_ws RX3 TX3 10, w ∈ wsX3_ruinedBySwap := by decide +kernel
  unfold w_X3_ruinedBySwap at h
  refine lv_aload_n hx hb dX3_ruinedBySwap_0 rfl (lv_at hl 0 rfl) ?_
  refine va_get (D := D) (ci := 3) (v := .ref (a 2 0)) (C := RX3) (T := TX3) (N := 10) hx hb hts hi3 hown hK.1 hP 0 rfl rfl 2 (by decide) (hts (.fieldLink RX3 23 "LastPenny" "trial" "LLastPenny$World;") (by decide +kernel)) (fun _ h9 => h9) rfl dX3_ruinedBySwap_1 ?_
  refine lv_aload_n hx hb dX3_ruinedBySwap_4 rfl (lv_at hl 0 rfl) ?_
  refine va_get (D := D) (ci := 3) (v := .ref (a 1 0)) (C := RX3) (T := TX3) (N := 10) hx hb hts hi3 hown hK.1 hP 0 rfl rfl 1 (by decide) (hts (.fieldLink RX3 19 "LastPenny" "now" "LLastPenny$World;") (by decide +kernel)) (fun _ h9 => h9) rfl dX3_ruinedBySwap_5 ?_
  refine q_cVv (As := [.ref (a 1 0)]) (rest := []) ⟨hx, hb, hml, hown, hts⟩ hK (c_X2_become l D kc (a 2) (a 1) (o 2) (o 1) H.size _ h) (cwV 1 hts gX3_ruinedBySwap_X2_become rfl rfl rfl (by decide +kernel) ⟨Nat.le_of_ble_eq_true rfl, Nat.le_of_ble_eq_true rfl⟩) (cut_LP_2_1 D kc a o) hP hD hS hA 2 0 rfl rfl rfl hl.1 rfl (Nat.le_of_ble_eq_true rfl) dX3_ruinedBySwap_8 ⟨Nat.zero_le _, Nat.zero_le _⟩ (fun u3 H locs h hP hD hS => ?_)
  obtain ⟨w1, v2⟩ := u3
  obtain ⟨o4, eo4⟩ : ∃ z, z = (va_up (va_up o 2 w1) 1 v2) := ⟨_, rfl⟩
  have h := nm_out h o4 eo4
  have hP : va_P D vwCl (cLP kc a o4) H := q_to hP (by subst eo4; rfl)
  have hD : va_D A (cLP kc a o4) := q_toD hD (by subst eo4; rfl)
  refine lv_aload_n hx hb dX3_ruinedBySwap_11 rfl (lv_at hl 0 rfl) ?_
  refine va_get (D := D) (ci := 3) (v := .ref (a 2 0)) (C := RX3) (T := TX3) (N := 10) hx hb hts hi3 hown hK.1 hP 0 rfl rfl 2 (by decide) (hts (.fieldLink RX3 23 "LastPenny" "trial" "LLastPenny$World;") (by decide +kernel)) (fun _ h9 => h9) rfl dX3_ruinedBySwap_12 ?_
  refine va_get (D := D) (ci := 2) (v := .ref (a 2 3)) (C := RX2) (T := TX2) (N := 13) hx hb hts hi2 hown hK.1 hP 14 rfl rfl 8 (by decide) (hts (.fieldLink RX3 111 "LastPenny$World" "tradeOf" "[I") (by decide +kernel)) (fun _ h9 => h9) rfl dX3_ruinedBySwap_15 ?_
  refine lv_iload_n hx hb dX3_ruinedBySwap_18 rfl (lv_at hl 1 rfl) ?_
  refine lv_aload_n hx hb dX3_ruinedBySwap_19 rfl (lv_at hl 0 rfl) ?_
  refine va_get (D := D) (ci := 3) (v := .ref (a 1 0)) (C := RX3) (T := TX3) (N := 10) hx hb hts hi3 hown hK.1 hP 0 rfl rfl 1 (by decide) (hts (.fieldLink RX3 19 "LastPenny" "now" "LLastPenny$World;") (by decide +kernel)) (fun _ h9 => h9) rfl dX3_ruinedBySwap_20 ?_
  refine va_get (D := D) (ci := 2) (v := .ref (a 1 3)) (C := RX2) (T := TX2) (N := 13) hx hb hts hi2 hown hK.1 hP 6 rfl rfl 8 (by decide) (hts (.fieldLink RX3 111 "LastPenny$World" "tradeOf" "[I") (by decide +kernel)) (fun _ h9 => h9) rfl dX3_ruinedBySwap_23 ?_
  refine lv_iload_n hx hb dX3_ruinedBySwap_26 rfl (lv_at hl 2 rfl) ?_
  obtain ⟨hi_5, h⟩ := h
  refine va_iald hx hb hK.1 hP 9 0 rfl rfl hi_5 dX3_ruinedBySwap_27 ?_
  obtain ⟨hi_6, h⟩ := h
  refine va_iast hx hb hK.1 hP hD hS 17 0 rfl rfl hi_6 dX3_ruinedBySwap_28 (fun H locs hP hD hS => ?_)
  obtain ⟨o7, eo7⟩ : ∃ z, z = (va_up o4 2 (va_up (o4 2) 3 (upd ((o4 2) 3) p1.toNatClampNeg (o4 1 3 p2.toNatClampNeg)))) := ⟨_, rfl⟩
  have h := nm_out h o7 eo7
  have hP : va_P D vwCl (cLP kc a o7) H := q_to hP (by subst eo7; rfl)
  have hD : va_D A (cLP kc a o7) := q_toD hD (by subst eo7; rfl)
  refine lv_aload_n hx hb dX3_ruinedBySwap_29 rfl (lv_at hl 0 rfl) ?_
  refine va_get (D := D) (ci := 3) (v := .ref (a 2 0)) (C := RX3) (T := TX3) (N := 10) hx hb hts hi3 hown hK.1 hP 0 rfl rfl 2 (by decide) (hts (.fieldLink RX3 23 "LastPenny" "trial" "LLastPenny$World;") (by decide +kernel)) (fun _ h9 => h9) rfl dX3_ruinedBySwap_30 ?_
  refine va_get (D := D) (ci := 2) (v := .ref (a 2 3)) (C := RX2) (T := TX2) (N := 13) hx hb hts hi2 hown hK.1 hP 14 rfl rfl 8 (by decide) (hts (.fieldLink RX3 111 "LastPenny$World" "tradeOf" "[I") (by decide +kernel)) (fun _ h9 => h9) rfl dX3_ruinedBySwap_33 ?_
  refine lv_iload_n hx hb dX3_ruinedBySwap_36 rfl (lv_at hl 2 rfl) ?_
  refine lv_aload_n hx hb dX3_ruinedBySwap_37 rfl (lv_at hl 0 rfl) ?_
  refine va_get (D := D) (ci := 3) (v := .ref (a 1 0)) (C := RX3) (T := TX3) (N := 10) hx hb hts hi3 hown hK.1 hP 0 rfl rfl 1 (by decide) (hts (.fieldLink RX3 19 "LastPenny" "now" "LLastPenny$World;") (by decide +kernel)) (fun _ h9 => h9) rfl dX3_ruinedBySwap_38 ?_
  refine va_get (D := D) (ci := 2) (v := .ref (a 1 3)) (C := RX2) (T := TX2) (N := 13) hx hb hts hi2 hown hK.1 hP 6 rfl rfl 8 (by decide) (hts (.fieldLink RX3 111 "LastPenny$World" "tradeOf" "[I") (by decide +kernel)) (fun _ h9 => h9) rfl dX3_ruinedBySwap_41 ?_
  refine lv_iload_n hx hb dX3_ruinedBySwap_44 rfl (lv_at hl 1 rfl) ?_
  obtain ⟨hi_8, h⟩ := h
  refine va_iald hx hb hK.1 hP 9 0 rfl rfl hi_8 dX3_ruinedBySwap_45 ?_
  obtain ⟨hi_9, h⟩ := h
  refine va_iast hx hb hK.1 hP hD hS 17 0 rfl rfl hi_9 dX3_ruinedBySwap_46 (fun H locs hP hD hS => ?_)
  obtain ⟨o10, eo10⟩ : ∃ z, z = (va_up o7 2 (va_up (o7 2) 3 (upd ((o7 2) 3) p2.toNatClampNeg (o7 1 3 p1.toNatClampNeg)))) := ⟨_, rfl⟩
  have h := nm_out h o10 eo10
  have hP : va_P D vwCl (cLP kc a o10) H := q_to hP (by subst eo10; rfl)
  have hD : va_D A (cLP kc a o10) := q_toD hD (by subst eo10; rfl)
  refine lv_aload_n hx hb dX3_ruinedBySwap_47 rfl (lv_at hl 0 rfl) ?_
  refine va_get (D := D) (ci := 3) (v := .ref (a 2 0)) (C := RX3) (T := TX3) (N := 10) hx hb hts hi3 hown hK.1 hP 0 rfl rfl 2 (by decide) (hts (.fieldLink RX3 23 "LastPenny" "trial" "LLastPenny$World;") (by decide +kernel)) (fun _ h9 => h9) rfl dX3_ruinedBySwap_48 ?_
  refine lv_iload_n hx hb dX3_ruinedBySwap_51 rfl (lv_at hl 3 rfl) ?_
  refine q_cVv (As := [.int p3]) (rest := []) ⟨hx, hb, hml, hown, hts⟩ hK (c_X2_pass l D kc (a 2) p3 (o10 2) H.size _ h) (cwV 1 hts gX3_ruinedBySwap_X2_pass rfl rfl rfl (by decide +kernel) ⟨Nat.le_of_ble_eq_true rfl, Nat.le_of_ble_eq_true rfl⟩) (cut_LP_2 D kc a o10) hP hD hS hA 2 0 rfl rfl rfl hl.1 rfl (Nat.le_of_ble_eq_true rfl) dX3_ruinedBySwap_52 ⟨Nat.zero_le _, Nat.zero_le _⟩ (fun u12 H locs h hP hD hS => ?_)
  obtain ⟨w11, rfl⟩ : ∃ z, z = u12 := ⟨_, rfl⟩
  obtain ⟨o13, eo13⟩ : ∃ z, z = (va_up o10 2 w11) := ⟨_, rfl⟩
  have h := nm_out h o13 eo13
  have hP : va_P D vwCl (cLP kc a o13) H := q_to hP (by subst eo13; rfl)
  have hD : va_D A (cLP kc a o13) := q_toD hD (by subst eo13; rfl)
  refine lv_aload_n hx hb dX3_ruinedBySwap_55 rfl (lv_at hl 0 rfl) ?_
  refine va_get (D := D) (ci := 3) (v := .ref (a 2 0)) (C := RX3) (T := TX3) (N := 10) hx hb hts hi3 hown hK.1 hP 0 rfl rfl 2 (by decide) (hts (.fieldLink RX3 23 "LastPenny" "trial" "LLastPenny$World;") (by decide +kernel)) (fun _ h9 => h9) rfl dX3_ruinedBySwap_56 ?_
  refine q_cVi (As := []) (rest := []) ⟨hx, hb, hml, hown, hts⟩ hK (c_X2_ruinedCount l D kc (a 2) (o13 2) H.size _ h) (cwV 0 hts gX3_ruinedBySwap_X2_ruinedCount rfl rfl rfl (by decide +kernel) ⟨Nat.le_of_ble_eq_true rfl, Nat.le_of_ble_eq_true rfl⟩) (cut_LP_2 D kc a o13) hP hD hS hA 2 0 rfl rfl rfl hl.1 rfl (Nat.le_of_ble_eq_true rfl) dX3_ruinedBySwap_59 ⟨Nat.zero_le _, Nat.zero_le _⟩ (fun r15 u16 H locs h hP hD hS => ?_)
  obtain ⟨w14, rfl⟩ : ∃ z, z = u16 := ⟨_, rfl⟩
  obtain ⟨o17, eo17⟩ : ∃ z, z = (va_up o13 2 w14) := ⟨_, rfl⟩
  have h := nm_out h o17 eo17
  have hP : va_P D vwCl (cLP kc a o17) H := q_to hP (by subst eo17; rfl)
  have hD : va_D A (cLP kc a o17) := q_toD hD (by subst eo17; rfl)
  exact hret r15 o17 H locs ls _ h hP hD hS dX3_ruinedBySwap_62

def w_X3_swap (p1 : Int32) (p2 : Int32) (o : S3) (K : Int32 → S3 → Prop) : Prop := w_X3_within p1 (0 : Int32) (60 : Int32) (fun r1 => br (r1 = 0) (K (-1) o) (w_X3_within p2 (0 : Int32) (1 : Int32) (fun r4 => br (r4 = 0) (K (-1) o) (nm ((-4) : Int32) (fun x7 => w_X3_ruinedBehind p1 o (fun r9 o8 => lfp4 (fun G34 (i11 : Int32) (i12 : Int32) (i13 : Int32) (o14 : S3) => br ((o14 1 0 0) ≤ i13) (br (i11 = (-4)) (K i11 o14) (br (p2 = 0) (K i11 o14) (K i12 o14))) (nm ((i13 + 1) : Int32) (fun x18 => lfp4 (fun G52 (i19 : Int32) (i20 : Int32) (i21 : Int32) (o22 : S3) => br ((o22 1 0 0) ≤ i21) (nm (i13 + 1 : Int32) (fun x24 => G34 i19 i20 x24 o22)) (w_X3_ruinedBySwap i13 i21 p1 o22 (fun r26 o25 => jn (fun (i28 : Int32) (i29 : Int32) => nm (i21 + 1 : Int32) (fun x30 => G52 i28 i29 x30 o25)) (fun J95 => br (i20 ≤ r26) (J95 i19 i20) (nm (((10 * i13) + i21) : Int32) (fun x32 => J95 x32 r26)))))) i11 i12 x18 o14))) x7 r9 0 o8))))))
abbrev rm_X3_swap : Room := { frames := 5, cells := 0, slots := 0, locals := 152 }
set_option maxHeartbeats 4000000 in
set_option maxRecDepth 100000 in
theorem c_X3_swap (l : Launch) (D : va_G) (kc : Nat → ClassId) (a : Nat → Nat → Nat) (p1 : Int32) (p2 : Int32) (o : S3) (sz : Nat) (K : Int32 → S3 → Prop) (h : w_X3_swap p1 p2 o K) : MetI l yX3_swap wsX3_swap rm_X3_swap D kc (fun u : S3 => cLP kc a u) o [.ref (a 0 0), .int p1, .int p2] sz (fun r u => K r u) := by
  refine q_ei (code := cX3_swap) (maxL := 8) (by decide) rfl (Nat.le_of_ble_eq_true rfl) ?_
  intro p e s m args below meth c Q A hx hb hml hts hown hK hA hret ls hl hP hD hS
  have hown : s.vm.findClass RX3 = some m.cls := hown
  have hl : lv_has ls 8 [(0, .ref (a 0 0)), (1, .int p1), (2, .int p2)] := hl
  have hP : va_P D vwCl (cLP kc a o) s.heap := hP
  have hD : va_D A (cLP kc a o) := hD
  have hS : va_S A s.heap s.heap [] := hS
  obtain ⟨H, eH⟩ : ∃ z, z = s.heap := ⟨_, rfl⟩
  obtain ⟨locs, eL⟩ : ∃ z : List Loc, z = [] := ⟨_, rfl⟩
  have hP := q_heap hP eH
  have hS := q_heapS hS eH eL
  refine q_start eH eL ?_
  clear eH eL
  have hi2 : ∀ w ∈ u_ws RX2 TX2 13, w ∈ wsX3_swap := by decide +kernel
  have hi3 : ∀ w ∈ u_ws RX3 TX3 10, w ∈ wsX3_swap := by decide +kernel
  unfold w_X3_swap at h
  refine lv_iload_n hx hb dX3_swap_0 rfl (lv_at hl 1 rfl) ?_
  refine lv_iconst (v := 0) hx hb dX3_swap_1 (by decide) ?_
  refine lv_bipush (v := 60) hx hb dX3_swap_2 (by decide) ?_
  refine q_cSi (As := [.int p1, .int 0, .int 60]) (rest := []) ⟨hx, hb, hml, hown, hts⟩ hK (c_X3_within l D kc p1 (0 : Int32) (60 : Int32) H.size _ h) (va_cwS 3 hts gX3_swap_X3_within rfl rfl rfl (by decide +kernel) ⟨Nat.le_of_ble_eq_true rfl, Nat.le_of_ble_eq_true rfl⟩) (cut_nil _) hP hD hS hA rfl hl.1 rfl (Nat.le_of_ble_eq_true rfl) dX3_swap_4 ⟨Nat.zero_le _, Nat.zero_le _⟩ (fun r1 _ H locs h hP hD hS => ?_)
  have hP : va_P D vwCl (cLP kc a o) H := hP
  have hD : va_D A (cLP kc a o) := hD
  refine lv_if_eq (tgt := 19) hx hb dX3_swap_7 (by decide) (fun c3 => ?_) (fun c3 => ?_)
  · have h := br1 h c3
    refine lv_iconst (v := -1) hx hb dX3_swap_19 (by decide) ?_
    exact hret (-1) o H locs ls _ h hP hD hS dX3_swap_20
  · have h := br2 h c3
    refine lv_iload_n hx hb dX3_swap_10 rfl (lv_at hl 2 rfl) ?_
    refine lv_iconst (v := 0) hx hb dX3_swap_11 (by decide) ?_
    refine lv_iconst (v := 1) hx hb dX3_swap_12 (by decide) ?_
    refine q_cSi (As := [.int p2, .int 0, .int 1]) (rest := []) ⟨hx, hb, hml, hown, hts⟩ hK (c_X3_within l D kc p2 (0 : Int32) (1 : Int32) H.size _ h) (va_cwS 3 hts gX3_swap_X3_within rfl rfl rfl (by decide +kernel) ⟨Nat.le_of_ble_eq_true rfl, Nat.le_of_ble_eq_true rfl⟩) (cut_nil _) hP hD hS hA rfl hl.1 rfl (Nat.le_of_ble_eq_true rfl) dX3_swap_13 ⟨Nat.zero_le _, Nat.zero_le _⟩ (fun r4 _ H locs h hP hD hS => ?_)
    have hP : va_P D vwCl (cLP kc a o) H := hP
    have hD : va_D A (cLP kc a o) := hD
    refine lv_if_ne (tgt := 21) hx hb dX3_swap_16 (by decide) (fun c6 => ?_) (fun c6 => ?_)
    · have h := br2 h c6
      refine lv_bipush (v := -4) hx hb dX3_swap_21 (by decide) ?_
      refine lv_topi (fun x7 ex7 => ?_)
      have h := nm_out h x7 ex7
      refine lv_istore_n (lv' := [(3, .int x7), (0, .ref (a 0 0)), (1, .int p1), (2, .int p2)]) hx hb dX3_swap_23 rfl hl (by decide) rfl (fun ls hl => ?_)
      refine lv_aload_n hx hb dX3_swap_24 rfl (lv_at hl 1 rfl) ?_
      refine lv_iload_n hx hb dX3_swap_25 rfl (lv_at hl 2 rfl) ?_
      refine q_cVi (As := [.int p1]) (rest := []) ⟨hx, hb, hml, hown, hts⟩ hK (c_X3_ruinedBehind l D kc a p1 o H.size _ h) (cwV 1 hts gX3_swap_X3_ruinedBehind rfl rfl rfl (by decide +kernel) ⟨Nat.le_of_ble_eq_true rfl, Nat.le_of_ble_eq_true rfl⟩) (cut_same (fun u : S3 => cLP kc a u) o) hP hD hS hA 3 0 rfl rfl rfl hl.1 rfl (Nat.le_of_ble_eq_true rfl) dX3_swap_26 ⟨Nat.zero_le _, Nat.zero_le _⟩ (fun r9 u10 H locs h hP hD hS => ?_)
      obtain ⟨o8, rfl⟩ : ∃ z, z = u10 := ⟨_, rfl⟩
      have hP : va_P D vwCl (cLP kc a o8) H := hP
      have hD : va_D A (cLP kc a o8) := hD
      refine lv_istore (lv' := [(4, .int r9), (3, .int x7), (0, .ref (a 0 0)), (1, .int p1), (2, .int p2)]) hx hb dX3_swap_29 hl (by decide) rfl (fun ls hl => ?_)
      refine lv_iconst (v := 0) hx hb dX3_swap_31 (by decide) ?_
      refine lv_istore (lv' := [(5, .int 0), (4, .int r9), (3, .int x7), (0, .ref (a 0 0)), (1, .int p1), (2, .int p2)]) hx hb dX3_swap_32 hl (by decide) rfl (fun ls hl => ?_)
      refine h (fun (i11 : Int32) (i12 : Int32) (i13 : Int32) (o14 : S3) => ∀ (ls : Array Slot) (H : Heap) (locs : List Loc), lv_has ls 8 [(0, .ref (a 0 0)), (1, .int p1), (2, .int p2), (3, .int i11), (4, .int i12), (5, .int i13)] → va_P D vwCl (cLP kc a o14) H → va_D A (cLP kc a o14) → va_S A s.heap H locs → W p l e rm_X3_swap s m args below meth c H locs 0 0 Q (F0 m 34 ls [])) ?_ ls H locs (lv_sub hl [3, 4, 5, 2, 1, 0] rfl) hP hD hS
      intro i11 i12 i13 o14 h ls H locs hl hP hD hS
      refine lv_iload hx hb dX3_swap_34 (lv_at hl 5 rfl) ?_
      refine lv_aload_n hx hb dX3_swap_36 rfl (lv_at hl 0 rfl) ?_
      refine va_get (D := D) (ci := 3) (v := .ref (a 1 0)) (C := RX3) (T := TX3) (N := 10) hx hb hts hi3 hown hK.1 hP 0 rfl rfl 1 (by decide) (hts (.fieldLink RX3 19 "LastPenny" "now" "LLastPenny$World;") (by decide +kernel)) (fun _ h9 => h9) rfl dX3_swap_37 ?_
      refine va_get (D := D) (ci := 2) (v := .int (o14 1 0 0)) (C := RX2) (T := TX2) (N := 13) hx hb hts hi2 hown hK.1 hP 6 rfl rfl 0 (by decide) (hts (.fieldLink RX3 80 "LastPenny$World" "people" "I") (by decide +kernel)) (fun _ h9 => h9) rfl dX3_swap_40 ?_
      refine lv_icmp_ge (tgt := 107) hx hb dX3_swap_43 (by decide) (fun c15 => ?_) (fun c15 => ?_)
      · have h := br1 h c15
        refine lv_iload_n hx hb dX3_swap_107 rfl (lv_at hl 3 rfl) ?_
        refine lv_bipush (v := -4) hx hb dX3_swap_108 (by decide) ?_
        refine lv_icmp_eq (tgt := 117) hx hb dX3_swap_110 (by decide) (fun c16 => ?_) (fun c16 => ?_)
        · have h := br1 h c16
          refine lv_iload_n hx hb dX3_swap_117 rfl (lv_at hl 3 rfl) ?_
          refine lv_goto (tgt := 123) hx hb dX3_swap_118 (by decide) ?_
          exact hret i11 o14 H locs ls _ h hP hD hS dX3_swap_123
        · have h := br2 h c16
          refine lv_iload_n hx hb dX3_swap_113 rfl (lv_at hl 2 rfl) ?_
          refine lv_if_ne (tgt := 121) hx hb dX3_swap_114 (by decide) (fun c17 => ?_) (fun c17 => ?_)
          · have h := br2 h c17
            refine lv_iload hx hb dX3_swap_121 (lv_at hl 4 rfl) ?_
            exact hret i12 o14 H locs ls _ h hP hD hS dX3_swap_123
          · have h := br1 h c17
            refine lv_iload_n hx hb dX3_swap_117 rfl (lv_at hl 3 rfl) ?_
            refine lv_goto (tgt := 123) hx hb dX3_swap_118 (by decide) ?_
            exact hret i11 o14 H locs ls _ h hP hD hS dX3_swap_123
      · have h := br2 h c15
        refine lv_iload hx hb dX3_swap_46 (lv_at hl 5 rfl) ?_
        refine lv_iconst (v := 1) hx hb dX3_swap_48 (by decide) ?_
        refine lv_iadd hx hb dX3_swap_49 ?_
        refine lv_topi (fun x18 ex18 => ?_)
        have h := nm_out h x18 ex18
        refine lv_istore (lv' := [(6, .int x18), (0, .ref (a 0 0)), (1, .int p1), (2, .int p2), (3, .int i11), (4, .int i12), (5, .int i13)]) hx hb dX3_swap_50 hl (by decide) rfl (fun ls hl => ?_)
        refine h (fun (i19 : Int32) (i20 : Int32) (i21 : Int32) (o22 : S3) => ∀ (ls : Array Slot) (H : Heap) (locs : List Loc), lv_has ls 8 [(0, .ref (a 0 0)), (1, .int p1), (2, .int p2), (3, .int i19), (4, .int i20), (5, .int i13), (6, .int i21)] → va_P D vwCl (cLP kc a o22) H → va_D A (cLP kc a o22) → va_S A s.heap H locs → W p l e rm_X3_swap s m args below meth c H locs 0 0 Q (F0 m 52 ls [])) ?_ ls H locs (lv_sub hl [1, 2, 3, 4, 5, 6, 0] rfl) hP hD hS
        intro i19 i20 i21 o22 h ls H locs hl hP hD hS
        refine lv_iload hx hb dX3_swap_52 (lv_at hl 6 rfl) ?_
        refine lv_aload_n hx hb dX3_swap_54 rfl (lv_at hl 0 rfl) ?_
        refine va_get (D := D) (ci := 3) (v := .ref (a 1 0)) (C := RX3) (T := TX3) (N := 10) hx hb hts hi3 hown hK.1 hP 0 rfl rfl 1 (by decide) (hts (.fieldLink RX3 19 "LastPenny" "now" "LLastPenny$World;") (by decide +kernel)) (fun _ h9 => h9) rfl dX3_swap_55 ?_
        refine va_get (D := D) (ci := 2) (v := .int (o22 1 0 0)) (C := RX2) (T := TX2) (N := 13) hx hb hts hi2 hown hK.1 hP 6 rfl rfl 0 (by decide) (hts (.fieldLink RX3 80 "LastPenny$World" "people" "I") (by decide +kernel)) (fun _ h9 => h9) rfl dX3_swap_58 ?_
        refine lv_icmp_ge (tgt := 101) hx hb dX3_swap_61 (by decide) (fun c23 => ?_) (fun c23 => ?_)
        · have h := br1 h c23
          obtain ⟨x24, ex24⟩ : ∃ z : Int32, z = i13 + 1 := ⟨_, rfl⟩
          have h := nm_out h x24 ex24
          refine lv_iinc (v := x24) (lv' := [(5, .int x24), (0, .ref (a 0 0)), (1, .int p1), (2, .int p2), (3, .int i19), (4, .int i20), (6, .int i21)]) hx hb dX3_swap_101 hl (k := 5) rfl (by rw [ex24]; rfl) (by decide) rfl (fun ls hl => ?_)
          refine lv_goto (tgt := 34) hx hb dX3_swap_104 (by decide) ?_
          exact h ls H locs (lv_sub hl [1, 2, 3, 4, 5, 0] rfl) hP hD hS
        · have h := br2 h c23
          refine lv_aload_n hx hb dX3_swap_64 rfl (lv_at hl 0 rfl) ?_
          refine lv_iload hx hb dX3_swap_65 (lv_at hl 5 rfl) ?_
          refine lv_iload hx hb dX3_swap_67 (lv_at hl 6 rfl) ?_
          refine lv_iload_n hx hb dX3_swap_69 rfl (lv_at hl 1 rfl) ?_
          refine q_cVi (As := [.int i13, .int i21, .int p1]) (rest := []) ⟨hx, hb, hml, hown, hts⟩ hK (c_X3_ruinedBySwap l D kc a i13 i21 p1 o22 H.size _ h) (cwV 3 hts gX3_swap_X3_ruinedBySwap rfl rfl rfl (by decide +kernel) ⟨Nat.le_of_ble_eq_true rfl, Nat.le_of_ble_eq_true rfl⟩) (cut_same (fun u : S3 => cLP kc a u) o22) hP hD hS hA 3 0 rfl rfl rfl hl.1 rfl (Nat.le_of_ble_eq_true rfl) dX3_swap_70 ⟨Nat.zero_le _, Nat.zero_le _⟩ (fun r26 u27 H locs h hP hD hS => ?_)
          obtain ⟨o25, rfl⟩ : ∃ z, z = u27 := ⟨_, rfl⟩
          have hP : va_P D vwCl (cLP kc a o25) H := hP
          have hD : va_D A (cLP kc a o25) := hD
          refine lv_istore (lv' := [(7, .int r26), (0, .ref (a 0 0)), (1, .int p1), (2, .int p2), (3, .int i19), (4, .int i20), (5, .int i13), (6, .int i21)]) hx hb dX3_swap_73 hl (by decide) rfl (fun ls hl => ?_)
          refine lv_iload hx hb dX3_swap_75 (lv_at hl 0 rfl) ?_
          refine lv_iload hx hb dX3_swap_77 (lv_at hl 5 rfl) ?_
          refine jn_elim h (fun J95 eJ95 h => ?_)
          have hJ_95 : ∀ (i28 : Int32) (i29 : Int32) (ls : Array Slot), J95 i28 i29 → lv_has ls 8 [(0, .ref (a 0 0)), (1, .int p1), (2, .int p2), (3, .int i28), (4, .int i29), (5, .int i13), (6, .int i21)] → W p l e rm_X3_swap s m args below meth c H locs 0 0 Q (F0 m 95 ls []) := by
            intro i28 i29 ls h hl
            subst eJ95
            obtain ⟨x30, ex30⟩ : ∃ z : Int32, z = i21 + 1 := ⟨_, rfl⟩
            have h := nm_out h x30 ex30
            refine lv_iinc (v := x30) (lv' := [(6, .int x30), (0, .ref (a 0 0)), (1, .int p1), (2, .int p2), (3, .int i28), (4, .int i29), (5, .int i13)]) hx hb dX3_swap_95 hl (k := 6) rfl (by rw [ex30]; rfl) (by decide) rfl (fun ls hl => ?_)
            refine lv_goto (tgt := 52) hx hb dX3_swap_98 (by decide) ?_
            exact h ls H locs (lv_sub hl [1, 2, 3, 4, 5, 6, 0] rfl) hP hD hS
          refine lv_icmp_ge (tgt := 95) hx hb dX3_swap_79 (by decide) (fun c31 => ?_) (fun c31 => ?_)
          · have h := br1 h c31
            exact hJ_95 i19 i20 ls h (lv_sub hl [1, 2, 3, 4, 5, 6, 7] rfl)
          · have h := br2 h c31
            refine lv_bipush (v := 10) hx hb dX3_swap_82 (by decide) ?_
            refine lv_iload hx hb dX3_swap_84 (lv_at hl 6 rfl) ?_
            refine lv_imul hx hb dX3_swap_86 ?_
            refine lv_iload hx hb dX3_swap_87 (lv_at hl 7 rfl) ?_
            refine lv_iadd hx hb dX3_swap_89 ?_
            refine lv_topi (fun x32 ex32 => ?_)
            have h := nm_out h x32 ex32
            refine lv_istore_n (lv' := [(3, .int x32), (7, .int r26), (0, .ref (a 0 0)), (1, .int p1), (2, .int p2), (4, .int i20), (5, .int i13), (6, .int i21)]) hx hb dX3_swap_90 rfl hl (by decide) rfl (fun ls hl => ?_)
            refine lv_iload hx hb dX3_swap_91 (lv_at hl 1 rfl) ?_
            refine lv_istore (lv' := [(4, .int r26), (3, .int x32), (7, .int r26), (0, .ref (a 0 0)), (1, .int p1), (2, .int p2), (5, .int i13), (6, .int i21)]) hx hb dX3_swap_93 hl (by decide) rfl (fun ls hl => ?_)
            exact hJ_95 x32 r26 ls h (lv_sub hl [3, 4, 5, 1, 0, 6, 7] rfl)
    · have h := br1 h c6
      refine lv_iconst (v := -1) hx hb dX3_swap_19 (by decide) ?_
      exact hret (-1) o H locs ls _ h hP hD hS dX3_swap_20

def w_X3_weightOfWay (p0 : Int32) (p1 : Int32) (p2 : Int32) (K : Int64 → Prop) : Prop := lfp2 (fun G5 (i1 : Int64) (i2 : Int32) => br (p2 ≤ i2) (K i1) (jn (fun (k4 : Int64) => nm ((i1 * k4) : Int64) (fun x5 => nm (i2 + 1 : Int32) (fun x6 => G5 x5 x6))) (fun J32 => br (((p0 >>> (i2 &&& 31)) &&& 1) = 1) (J32 (p1.toInt64)) (J32 ((10 - p1).toInt64))))) 1 0
abbrev rm_X3_weightOfWay : Room := { frames := 0, cells := 0, slots := 0, locals := 0 }
set_option maxHeartbeats 4000000 in
set_option maxRecDepth 100000 in
theorem c_X3_weightOfWay (l : Launch) (D : va_G) (kc : Nat → ClassId) (p0 : Int32) (p1 : Int32) (p2 : Int32) (sz : Nat) (K : Int64 → Prop) (h : w_X3_weightOfWay p0 p1 p2 K) : MetL l yX3_weightOfWay wsX3_weightOfWay rm_X3_weightOfWay D kc (fun _ : Unit => []) () [.int p0, .int p1, .int p2] sz (fun r _ => K r) := by
  refine q_el (code := cX3_weightOfWay) (maxL := 6) (by decide) rfl (Nat.le_of_ble_eq_true rfl) ?_
  intro p e s m args below meth c Q A hx hb hml hts hown hK hA hret ls hl hP hD hS
  have hown : s.vm.findClass RX3 = some m.cls := hown
  have hl : lv_has ls 6 [(0, .int p0), (1, .int p1), (2, .int p2)] := hl
  have hP : va_P D vwCl [] s.heap := hP
  have hS : va_S A s.heap s.heap [] := hS
  obtain ⟨H, eH⟩ : ∃ z, z = s.heap := ⟨_, rfl⟩
  obtain ⟨locs, eL⟩ : ∃ z : List Loc, z = [] := ⟨_, rfl⟩
  have hP := q_heap hP eH
  have hS := q_heapS hS eH eL
  refine q_start eH eL ?_
  clear eH eL
  unfold w_X3_weightOfWay at h
  refine lv_lconst (v := 1) hx hb dX3_weightOfWay_0 (by decide) ?_
  refine lv_lstore_n (lv' := [(3, .long 1), (0, .int p0), (1, .int p1), (2, .int p2)]) hx hb dX3_weightOfWay_1 rfl hl (by decide) rfl (fun ls hl => ?_)
  refine lv_iconst (v := 0) hx hb dX3_weightOfWay_2 (by decide) ?_
  refine lv_istore (lv' := [(5, .int 0), (3, .long 1), (0, .int p0), (1, .int p1), (2, .int p2)]) hx hb dX3_weightOfWay_3 hl (by decide) rfl (fun ls hl => ?_)
  refine h (fun (i1 : Int64) (i2 : Int32) => ∀ (ls : Array Slot), lv_has ls 6 [(0, .int p0), (1, .int p1), (2, .int p2), (3, .long i1), (5, .int i2)] → W p l e rm_X3_weightOfWay s m args below meth c H locs 0 0 Q (F0 m 5 ls [])) ?_ ls (lv_sub hl [2, 3, 4, 1, 0] rfl)
  intro i1 i2 h ls hl
  refine lv_iload hx hb dX3_weightOfWay_5 (lv_at hl 4 rfl) ?_
  refine lv_iload_n hx hb dX3_weightOfWay_7 rfl (lv_at hl 2 rfl) ?_
  refine lv_icmp_ge (tgt := 40) hx hb dX3_weightOfWay_8 (by decide) (fun c3 => ?_) (fun c3 => ?_)
  · have h := br1 h c3
    refine lv_lload_n hx hb dX3_weightOfWay_40 rfl (lv_at hl 3 rfl) ?_
    exact hret i1 () H locs ls _ h hP hD hS dX3_weightOfWay_41
  · have h := br2 h c3
    refine lv_lload_n hx hb dX3_weightOfWay_11 rfl (lv_at hl 3 rfl) ?_
    refine lv_iload_n hx hb dX3_weightOfWay_12 rfl (lv_at hl 0 rfl) ?_
    refine lv_iload hx hb dX3_weightOfWay_13 (lv_at hl 4 rfl) ?_
    refine lv_ishr hx hb dX3_weightOfWay_15 ?_
    refine lv_iconst (v := 1) hx hb dX3_weightOfWay_16 (by decide) ?_
    refine lv_iand hx hb dX3_weightOfWay_17 ?_
    refine lv_iconst (v := 1) hx hb dX3_weightOfWay_18 (by decide) ?_
    refine jn_elim h (fun J32 eJ32 h => ?_)
    have hJ_32 : ∀ (k4 : Int64) (ls : Array Slot), J32 k4 → lv_has ls 6 [(0, .int p0), (1, .int p1), (2, .int p2), (5, .int i2)] → W p l e rm_X3_weightOfWay s m args below meth c H locs 0 0 Q (F0 m 32 ls [.long k4, .long i1]) := by
      intro k4 ls h hl
      subst eJ32
      refine lv_lmul hx hb dX3_weightOfWay_32 ?_
      refine lv_topl (fun x5 ex5 => ?_)
      have h := nm_out h x5 ex5
      refine lv_lstore_n (lv' := [(3, .long x5), (0, .int p0), (1, .int p1), (2, .int p2), (5, .int i2)]) hx hb dX3_weightOfWay_33 rfl hl (by decide) rfl (fun ls hl => ?_)
      obtain ⟨x6, ex6⟩ : ∃ z : Int32, z = i2 + 1 := ⟨_, rfl⟩
      have h := nm_out h x6 ex6
      refine lv_iinc (v := x6) (lv' := [(5, .int x6), (3, .long x5), (0, .int p0), (1, .int p1), (2, .int p2)]) hx hb dX3_weightOfWay_34 hl (k := 4) rfl (by rw [ex6]; rfl) (by decide) rfl (fun ls hl => ?_)
      refine lv_goto (tgt := 5) hx hb dX3_weightOfWay_37 (by decide) ?_
      exact h ls (lv_sub hl [2, 3, 4, 1, 0] rfl)
    refine lv_icmp_ne (tgt := 27) hx hb dX3_weightOfWay_19 (by decide) (fun c7 => ?_) (fun c7 => ?_)
    · have h := br2 h c7
      refine lv_bipush (v := 10) hx hb dX3_weightOfWay_27 (by decide) ?_
      refine lv_iload_n hx hb dX3_weightOfWay_29 rfl (lv_at hl 1 rfl) ?_
      refine lv_isub hx hb dX3_weightOfWay_30 ?_
      refine lv_i2l hx hb dX3_weightOfWay_31 rfl ?_
      exact hJ_32 ((10 - p1).toInt64) ls h (lv_sub hl [0, 1, 2, 4] rfl)
    · have h := br1 h c7
      refine lv_iload_n hx hb dX3_weightOfWay_22 rfl (lv_at hl 1 rfl) ?_
      refine lv_i2l hx hb dX3_weightOfWay_23 rfl ?_
      refine lv_goto (tgt := 32) hx hb dX3_weightOfWay_24 (by decide) ?_
      exact hJ_32 (p1.toInt64) ls h (lv_sub hl [0, 1, 2, 4] rfl)

def w_X3_goWay (p1 : Int32) (p2 : Int32) (o : S3) (K : S3 → Prop) : Prop := w_X2_become (o 2) (o 1) (fun w1 v2 => nm ((va_up (va_up o 2 w1) 1 v2) : S3) (fun o4 => lfp2 (fun G13 (i5 : Int32) (o6 : S3) => br (p2 ≤ i5) (K o6) (jn (fun (k8 : Int32) => nm ((va_up o6 2 (va_up (o6 2) 0 (upd ((o6 2) 0) 2 k8))) : S3) (fun o9 => w_X2_step (o9 2) (fun r11 w10 => nm ((va_up o9 2 w10) : S3) (fun o13 => nm (i5 + 1 : Int32) (fun x14 => G13 x14 o13))))) (fun J43 => br (((p1 >>> (i5 &&& 31)) &&& 1) = 1) (J43 9) (J43 (o6 1 0 2))))) 0 o4))
abbrev rm_X3_goWay : Room := { frames := 3, cells := 0, slots := 0, locals := 107 }
set_option maxHeartbeats 4000000 in
set_option maxRecDepth 100000 in
theorem c_X3_goWay (l : Launch) (D : va_G) (kc : Nat → ClassId) (a : Nat → Nat → Nat) (p1 : Int32) (p2 : Int32) (o : S3) (sz : Nat) (K : S3 → Prop) (h : w_X3_goWay p1 p2 o K) : MetV l yX3_goWay wsX3_goWay rm_X3_goWay D kc (fun u : S3 => cLP kc a u) o [.ref (a 0 0), .int p1, .int p2] sz (fun u => K u) := by
  refine q_ev (code := cX3_goWay) (maxL := 4) (by decide) rfl (Nat.le_of_ble_eq_true rfl) ?_
  intro p e s m args below meth c Q A hx hb hml hts hown hK hA hret ls hl hP hD hS
  have hown : s.vm.findClass RX3 = some m.cls := hown
  have hl : lv_has ls 4 [(0, .ref (a 0 0)), (1, .int p1), (2, .int p2)] := hl
  have hP : va_P D vwCl (cLP kc a o) s.heap := hP
  have hD : va_D A (cLP kc a o) := hD
  have hS : va_S A s.heap s.heap [] := hS
  obtain ⟨H, eH⟩ : ∃ z, z = s.heap := ⟨_, rfl⟩
  obtain ⟨locs, eL⟩ : ∃ z : List Loc, z = [] := ⟨_, rfl⟩
  have hP := q_heap hP eH
  have hS := q_heapS hS eH eL
  refine q_start eH eL ?_
  clear eH eL
  have hi2 : ∀ w ∈ u_ws RX2 TX2 13, w ∈ wsX3_goWay := by decide +kernel
  have hi3 : ∀ w ∈ u_ws RX3 TX3 10, w ∈ wsX3_goWay := by decide +kernel
  unfold w_X3_goWay at h
  refine lv_aload_n hx hb dX3_goWay_0 rfl (lv_at hl 0 rfl) ?_
  refine va_get (D := D) (ci := 3) (v := .ref (a 2 0)) (C := RX3) (T := TX3) (N := 10) hx hb hts hi3 hown hK.1 hP 0 rfl rfl 2 (by decide) (hts (.fieldLink RX3 23 "LastPenny" "trial" "LLastPenny$World;") (by decide +kernel)) (fun _ h9 => h9) rfl dX3_goWay_1 ?_
  refine lv_aload_n hx hb dX3_goWay_4 rfl (lv_at hl 0 rfl) ?_
  refine va_get (D := D) (ci := 3) (v := .ref (a 1 0)) (C := RX3) (T := TX3) (N := 10) hx hb hts hi3 hown hK.1 hP 0 rfl rfl 1 (by decide) (hts (.fieldLink RX3 19 "LastPenny" "now" "LLastPenny$World;") (by decide +kernel)) (fun _ h9 => h9) rfl dX3_goWay_5 ?_
  refine q_cVv (As := [.ref (a 1 0)]) (rest := []) ⟨hx, hb, hml, hown, hts⟩ hK (c_X2_become l D kc (a 2) (a 1) (o 2) (o 1) H.size _ h) (cwV 1 hts gX3_goWay_X2_become rfl rfl rfl (by decide +kernel) ⟨Nat.le_of_ble_eq_true rfl, Nat.le_of_ble_eq_true rfl⟩) (cut_LP_2_1 D kc a o) hP hD hS hA 2 0 rfl rfl rfl hl.1 rfl (Nat.le_of_ble_eq_true rfl) dX3_goWay_8 ⟨Nat.zero_le _, Nat.zero_le _⟩ (fun u3 H locs h hP hD hS => ?_)
  obtain ⟨w1, v2⟩ := u3
  obtain ⟨o4, eo4⟩ : ∃ z, z = (va_up (va_up o 2 w1) 1 v2) := ⟨_, rfl⟩
  have h := nm_out h o4 eo4
  have hP : va_P D vwCl (cLP kc a o4) H := q_to hP (by subst eo4; rfl)
  have hD : va_D A (cLP kc a o4) := q_toD hD (by subst eo4; rfl)
  refine lv_iconst (v := 0) hx hb dX3_goWay_11 (by decide) ?_
  refine lv_istore_n (lv' := [(3, .int 0), (0, .ref (a 0 0)), (1, .int p1), (2, .int p2)]) hx hb dX3_goWay_12 rfl hl (by decide) rfl (fun ls hl => ?_)
  refine h (fun (i5 : Int32) (o6 : S3) => ∀ (ls : Array Slot) (H : Heap) (locs : List Loc), lv_has ls 4 [(0, .ref (a 0 0)), (1, .int p1), (2, .int p2), (3, .int i5)] → va_P D vwCl (cLP kc a o6) H → va_D A (cLP kc a o6) → va_S A s.heap H locs → W p l e rm_X3_goWay s m args below meth c H locs 0 0 Q (F0 m 13 ls [])) ?_ ls H locs (lv_sub hl [1, 2, 3, 0] rfl) hP hD hS
  intro i5 o6 h ls H locs hl hP hD hS
  refine lv_iload_n hx hb dX3_goWay_13 rfl (lv_at hl 3 rfl) ?_
  refine lv_iload_n hx hb dX3_goWay_14 rfl (lv_at hl 2 rfl) ?_
  refine lv_icmp_ge (tgt := 60) hx hb dX3_goWay_15 (by decide) (fun c7 => ?_) (fun c7 => ?_)
  · have h := br1 h c7
    exact hret o6 H locs ls _ h hP hD hS dX3_goWay_60
  · have h := br2 h c7
    refine lv_aload_n hx hb dX3_goWay_18 rfl (lv_at hl 0 rfl) ?_
    refine va_get (D := D) (ci := 3) (v := .ref (a 2 0)) (C := RX3) (T := TX3) (N := 10) hx hb hts hi3 hown hK.1 hP 0 rfl rfl 2 (by decide) (hts (.fieldLink RX3 23 "LastPenny" "trial" "LLastPenny$World;") (by decide +kernel)) (fun _ h9 => h9) rfl dX3_goWay_19 ?_
    refine lv_iload_n hx hb dX3_goWay_22 rfl (lv_at hl 1 rfl) ?_
    refine lv_iload_n hx hb dX3_goWay_23 rfl (lv_at hl 3 rfl) ?_
    refine lv_ishr hx hb dX3_goWay_24 ?_
    refine lv_iconst (v := 1) hx hb dX3_goWay_25 (by decide) ?_
    refine lv_iand hx hb dX3_goWay_26 ?_
    refine lv_iconst (v := 1) hx hb dX3_goWay_27 (by decide) ?_
    refine jn_elim h (fun J43 eJ43 h => ?_)
    have hJ_43 : ∀ (k8 : Int32) (ls : Array Slot), J43 k8 → lv_has ls 4 [(0, .ref (a 0 0)), (1, .int p1), (2, .int p2), (3, .int i5)] → W p l e rm_X3_goWay s m args below meth c H locs 0 0 Q (F0 m 43 ls [.int k8, .ref (a 2 0)]) := by
      intro k8 ls h hl
      subst eJ43
      refine va_put (D := D) (ci := 2) (v := .int k8) (ty := .int) (C := RX2) (T := TX2) (N := 13) hx hb hts hi2 tyX2 tyX2_ok nmX2 hown hK.1 hP hD hS 14 rfl rfl 2 (by decide) (hts (.fieldLink RX3 86 "LastPenny$World" "slumpNow" "I") (by decide +kernel)) (fun _ h9 => h9) rfl (by decide +kernel) rfl rfl (Nat.le_of_ble_eq_true rfl) dX3_goWay_43 (fun H locs hP hD hS => ?_)
      obtain ⟨o9, eo9⟩ : ∃ z, z = (va_up o6 2 (va_up (o6 2) 0 (upd ((o6 2) 0) 2 k8))) := ⟨_, rfl⟩
      have h := nm_out h o9 eo9
      have hP : va_P D vwCl (cLP kc a o9) H := q_to hP (by subst eo9; rfl)
      have hD : va_D A (cLP kc a o9) := q_toD hD (by subst eo9; rfl)
      refine lv_aload_n hx hb dX3_goWay_46 rfl (lv_at hl 0 rfl) ?_
      refine va_get (D := D) (ci := 3) (v := .ref (a 2 0)) (C := RX3) (T := TX3) (N := 10) hx hb hts hi3 hown hK.1 hP 0 rfl rfl 2 (by decide) (hts (.fieldLink RX3 23 "LastPenny" "trial" "LLastPenny$World;") (by decide +kernel)) (fun _ h9 => h9) rfl dX3_goWay_47 ?_
      refine q_cVi (As := []) (rest := []) ⟨hx, hb, hml, hown, hts⟩ hK (c_X2_step l D kc (a 2) (o9 2) H.size _ h) (cwV 0 hts gX3_goWay_X2_step rfl rfl rfl (by decide +kernel) ⟨Nat.le_of_ble_eq_true rfl, Nat.le_of_ble_eq_true rfl⟩) (cut_LP_2 D kc a o9) hP hD hS hA 2 0 rfl rfl rfl hl.1 rfl (Nat.le_of_ble_eq_true rfl) dX3_goWay_50 ⟨Nat.zero_le _, Nat.zero_le _⟩ (fun r11 u12 H locs h hP hD hS => ?_)
      obtain ⟨w10, rfl⟩ : ∃ z, z = u12 := ⟨_, rfl⟩
      obtain ⟨o13, eo13⟩ : ∃ z, z = (va_up o9 2 w10) := ⟨_, rfl⟩
      have h := nm_out h o13 eo13
      have hP : va_P D vwCl (cLP kc a o13) H := q_to hP (by subst eo13; rfl)
      have hD : va_D A (cLP kc a o13) := q_toD hD (by subst eo13; rfl)
      refine lv_pop hx hb dX3_goWay_53 rfl ?_
      obtain ⟨x14, ex14⟩ : ∃ z : Int32, z = i5 + 1 := ⟨_, rfl⟩
      have h := nm_out h x14 ex14
      refine lv_iinc (v := x14) (lv' := [(3, .int x14), (0, .ref (a 0 0)), (1, .int p1), (2, .int p2)]) hx hb dX3_goWay_54 hl (k := 3) rfl (by rw [ex14]; rfl) (by decide) rfl (fun ls hl => ?_)
      refine lv_goto (tgt := 13) hx hb dX3_goWay_57 (by decide) ?_
      exact h ls H locs (lv_sub hl [1, 2, 3, 0] rfl) hP hD hS
    refine lv_icmp_ne (tgt := 36) hx hb dX3_goWay_28 (by decide) (fun c15 => ?_) (fun c15 => ?_)
    · have h := br2 h c15
      refine lv_aload_n hx hb dX3_goWay_36 rfl (lv_at hl 0 rfl) ?_
      refine va_get (D := D) (ci := 3) (v := .ref (a 1 0)) (C := RX3) (T := TX3) (N := 10) hx hb hts hi3 hown hK.1 hP 0 rfl rfl 1 (by decide) (hts (.fieldLink RX3 19 "LastPenny" "now" "LLastPenny$World;") (by decide +kernel)) (fun _ h9 => h9) rfl dX3_goWay_37 ?_
      refine va_get (D := D) (ci := 2) (v := .int (o6 1 0 2)) (C := RX2) (T := TX2) (N := 13) hx hb hts hi2 hown hK.1 hP 6 rfl rfl 2 (by decide) (hts (.fieldLink RX3 86 "LastPenny$World" "slumpNow" "I") (by decide +kernel)) (fun _ h9 => h9) rfl dX3_goWay_40 ?_
      exact hJ_43 (o6 1 0 2) ls h (lv_sub hl [0, 1, 2, 3] rfl)
    · have h := br1 h c15
      refine lv_bipush (v := 9) hx hb dX3_goWay_31 (by decide) ?_
      refine lv_goto (tgt := 43) hx hb dX3_goWay_33 (by decide) ?_
      exact hJ_43 9 ls h (lv_sub hl [0, 1, 2, 3] rfl)

