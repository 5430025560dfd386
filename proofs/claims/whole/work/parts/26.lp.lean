def w_X3_lay (p1 : Int32) (p2 : Int32) (p3 : Int32) (o : S3) (K : Int32 → S3 → Prop) : Prop := w_X3_within p1 (0 : Int32) (3 : Int32) (fun r1 => br (r1 = 0) (K (-1) o) (vp_in p1 4 ∧ (w_X0_faultAt p2 (o (gi 7 p1)) (fun r7 w6 => nm ((va_up o (gi 7 p1) w6) : S3) (fun o9 => br (r7 = 0) (vp_in p1 4 ∧ (w_X0_setCell p2 p3 (o9 (gi 7 p1)) (fun w13 => nm ((va_up o9 (gi 7 p1) w13) : S3) (fun o15 => K 1 o15)))) (K ((-10) - r7) o9))))))
abbrev rm_X3_lay : Room := { frames := 2, cells := 0, slots := 0, locals := 43 }
set_option maxHeartbeats 4000000 in
set_option maxRecDepth 100000 in
theorem c_X3_lay (l : Launch) (D : va_G) (kc : Nat → ClassId) (a : Nat → Nat → Nat) (p1 : Int32) (p2 : Int32) (p3 : Int32) (o : S3) (sz : Nat) (K : Int32 → S3 → Prop) (h : w_X3_lay p1 p2 p3 o K) : MetI l yX3_lay wsX3_lay rm_X3_lay D kc (fun u : S3 => cLP kc a u) o [.ref (a 0 0), .int p1, .int p2, .int p3] sz (fun r u => K r u) := by
  refine q_ei (code := cX3_lay) (maxL := 5) (by decide) rfl (Nat.le_of_ble_eq_true rfl) ?_
  intro p e s m args below meth c Q A hx hb hml hts hown hK hA hret ls hl hP hD hS
  have hown : s.vm.findClass RX3 = some m.cls := hown
  have hl : lv_has ls 5 [(0, .ref (a 0 0)), (1, .int p1), (2, .int p2), (3, .int p3)] := hl
  have hP : va_P D vwCl (cLP kc a o) s.heap := hP
  have hD : va_D A (cLP kc a o) := hD
  have hS : va_S A s.heap s.heap [] := hS
  obtain ⟨H, eH⟩ : ∃ z, z = s.heap := ⟨_, rfl⟩
  obtain ⟨locs, eL⟩ : ∃ z : List Loc, z = [] := ⟨_, rfl⟩
  have hP := q_heap hP eH
  have hS := q_heapS hS eH eL
  refine q_start eH eL ?_
  clear eH eL
  have hi3 : ∀ w ∈ u_ws RX3 TX3 10, w ∈ wsX3_lay := by decide +kernel
  unfold w_X3_lay at h
  refine lv_iload_n hx hb dX3_lay_0 rfl (lv_at hl 1 rfl) ?_
  refine lv_iconst (v := 0) hx hb dX3_lay_1 (by decide) ?_
  refine lv_iconst (v := 3) hx hb dX3_lay_2 (by decide) ?_
  refine q_cSi (As := [.int p1, .int 0, .int 3]) (rest := []) ⟨hx, hb, hml, hown, hts⟩ hK (c_X3_within l D kc p1 (0 : Int32) (3 : Int32) H.size _ h) (va_cwS 3 hts gX3_lay_X3_within rfl rfl rfl (by decide +kernel) ⟨Nat.le_of_ble_eq_true rfl, Nat.le_of_ble_eq_true rfl⟩) (cut_nil _) hP hD hS hA rfl hl.1 rfl (Nat.le_of_ble_eq_true rfl) dX3_lay_3 ⟨Nat.zero_le _, Nat.zero_le _⟩ (fun r1 _ H locs h hP hD hS => ?_)
  have hP : va_P D vwCl (cLP kc a o) H := hP
  have hD : va_D A (cLP kc a o) := hD
  refine lv_if_ne (tgt := 11) hx hb dX3_lay_6 (by decide) (fun c3 => ?_) (fun c3 => ?_)
  · have h := br2 h c3
    refine lv_aload_n hx hb dX3_lay_11 rfl (lv_at hl 0 rfl) ?_
    refine va_get (D := D) (ci := 3) (v := .ref (a 0 3)) (C := RX3) (T := TX3) (N := 10) hx hb hts hi3 hown hK.1 hP 0 rfl rfl 6 (by decide) (hts (.fieldLink RX3 39 "LastPenny" "sheets" "[LLastPenny$Sheet;") (by decide +kernel)) (fun _ h9 => h9) rfl dX3_lay_12 ?_
    refine lv_iload_n hx hb dX3_lay_15 rfl (lv_at hl 1 rfl) ?_
    obtain ⟨hi_4, h⟩ := h
    refine va_aldq hx hb hK.1 hP 3 4 rfl rfl hi_4 dX3_lay_16 ?_
    obtain ⟨j5, hj5, ej5⟩ := vp_in_of hi_4 (by decide)
    rcases (show j5 = 0 ∨ j5 = 1 ∨ j5 = 2 ∨ j5 = 3 by omega) with rfl | rfl | rfl | rfl
    · subst ej5
      simp only [gi_7_0] at h
      refine W.eq (g2 := F0 m 17 ls [.ref (a 7 0)]) rfl ?_
      refine lv_iload_n hx hb dX3_lay_17 rfl (lv_at hl 2 rfl) ?_
      refine q_cVi (As := [.int p2]) (rest := []) ⟨hx, hb, hml, hown, hts⟩ hK (c_X0_faultAt l D kc (a 7) p2 (o 7) H.size _ h) (cwV 1 hts gX3_lay_X0_faultAt rfl rfl rfl (by decide +kernel) ⟨Nat.le_of_ble_eq_true rfl, Nat.le_of_ble_eq_true rfl⟩) (cut_LP_7 D kc a o) hP hD hS hA 0 0 rfl rfl rfl hl.1 rfl (Nat.le_of_ble_eq_true rfl) dX3_lay_18 ⟨Nat.zero_le _, Nat.zero_le _⟩ (fun r7 u8 H locs h hP hD hS => ?_)
      obtain ⟨w6, rfl⟩ : ∃ z, z = u8 := ⟨_, rfl⟩
      obtain ⟨o9, eo9⟩ : ∃ z, z = (va_up o 7 w6) := ⟨_, rfl⟩
      have h := nm_out h o9 eo9
      have hP : va_P D vwCl (cLP kc a o9) H := q_to hP (by subst eo9; rfl)
      have hD : va_D A (cLP kc a o9) := q_toD hD (by subst eo9; rfl)
      refine lv_istore (lv' := [(4, .int r7), (0, .ref (a 0 0)), (1, .int (nI 0)), (2, .int p2), (3, .int p3)]) hx hb dX3_lay_21 hl (by decide) rfl (fun ls hl => ?_)
      refine lv_iload hx hb dX3_lay_23 (lv_at hl 0 rfl) ?_
      refine lv_if_eq (tgt := 34) hx hb dX3_lay_25 (by decide) (fun c10 => ?_) (fun c10 => ?_)
      · have h := br1 h c10
        refine lv_aload_n hx hb dX3_lay_34 rfl (lv_at hl 1 rfl) ?_
        refine va_get (D := D) (ci := 3) (v := .ref (a 0 3)) (C := RX3) (T := TX3) (N := 10) hx hb hts hi3 hown hK.1 hP 0 rfl rfl 6 (by decide) (hts (.fieldLink RX3 39 "LastPenny" "sheets" "[LLastPenny$Sheet;") (by decide +kernel)) (fun _ h9 => h9) rfl dX3_lay_35 ?_
        refine lv_iload_n hx hb dX3_lay_38 rfl (lv_at hl 2 rfl) ?_
        obtain ⟨hi_11, h⟩ := h
        refine va_aldq hx hb hK.1 hP 3 4 rfl rfl hi_11 dX3_lay_39 ?_
        refine W.eq (g2 := F0 m 40 ls [.ref (a 7 0)]) rfl ?_
        refine lv_iload_n hx hb dX3_lay_40 rfl (lv_at hl 3 rfl) ?_
        refine lv_iload_n hx hb dX3_lay_41 rfl (lv_at hl 4 rfl) ?_
        refine q_cVv (As := [.int p2, .int p3]) (rest := []) ⟨hx, hb, hml, hown, hts⟩ hK (c_X0_setCell l D kc (a 7) p2 p3 (o9 7) H.size _ h) (cwV 2 hts gX3_lay_X0_setCell rfl rfl rfl (by decide +kernel) ⟨Nat.le_of_ble_eq_true rfl, Nat.le_of_ble_eq_true rfl⟩) (cut_LP_7 D kc a o9) hP hD hS hA 0 0 rfl rfl rfl hl.1 rfl (Nat.le_of_ble_eq_true rfl) dX3_lay_42 ⟨Nat.zero_le _, Nat.zero_le _⟩ (fun u13 H locs h hP hD hS => ?_)
        obtain ⟨w12, rfl⟩ : ∃ z, z = u13 := ⟨_, rfl⟩
        obtain ⟨o14, eo14⟩ : ∃ z, z = (va_up o9 7 w12) := ⟨_, rfl⟩
        have h := nm_out h o14 eo14
        have hP : va_P D vwCl (cLP kc a o14) H := q_to hP (by subst eo14; rfl)
        have hD : va_D A (cLP kc a o14) := q_toD hD (by subst eo14; rfl)
        refine lv_iconst (v := 1) hx hb dX3_lay_45 (by decide) ?_
        exact hret 1 o14 H locs ls _ h hP hD hS dX3_lay_46
      · have h := br2 h c10
        refine lv_bipush (v := -10) hx hb dX3_lay_28 (by decide) ?_
        refine lv_iload hx hb dX3_lay_30 (lv_at hl 0 rfl) ?_
        refine lv_isub hx hb dX3_lay_32 ?_
        exact hret ((-10) - r7) o9 H locs ls _ h hP hD hS dX3_lay_33
    · subst ej5
      simp only [gi_7_1] at h
      refine W.eq (g2 := F0 m 17 ls [.ref (a 8 0)]) rfl ?_
      refine lv_iload_n hx hb dX3_lay_17 rfl (lv_at hl 2 rfl) ?_
      refine q_cVi (As := [.int p2]) (rest := []) ⟨hx, hb, hml, hown, hts⟩ hK (c_X0_faultAt l D kc (a 8) p2 (o 8) H.size _ h) (cwV 1 hts gX3_lay_X0_faultAt rfl rfl rfl (by decide +kernel) ⟨Nat.le_of_ble_eq_true rfl, Nat.le_of_ble_eq_true rfl⟩) (cut_LP_8 D kc a o) hP hD hS hA 0 0 rfl rfl rfl hl.1 rfl (Nat.le_of_ble_eq_true rfl) dX3_lay_18 ⟨Nat.zero_le _, Nat.zero_le _⟩ (fun r7 u8 H locs h hP hD hS => ?_)
      obtain ⟨w6, rfl⟩ : ∃ z, z = u8 := ⟨_, rfl⟩
      obtain ⟨o9, eo9⟩ : ∃ z, z = (va_up o 8 w6) := ⟨_, rfl⟩
      have h := nm_out h o9 eo9
      have hP : va_P D vwCl (cLP kc a o9) H := q_to hP (by subst eo9; rfl)
      have hD : va_D A (cLP kc a o9) := q_toD hD (by subst eo9; rfl)
      refine lv_istore (lv' := [(4, .int r7), (0, .ref (a 0 0)), (1, .int (nI 1)), (2, .int p2), (3, .int p3)]) hx hb dX3_lay_21 hl (by decide) rfl (fun ls hl => ?_)
      refine lv_iload hx hb dX3_lay_23 (lv_at hl 0 rfl) ?_
      refine lv_if_eq (tgt := 34) hx hb dX3_lay_25 (by decide) (fun c10 => ?_) (fun c10 => ?_)
      · have h := br1 h c10
        refine lv_aload_n hx hb dX3_lay_34 rfl (lv_at hl 1 rfl) ?_
        refine va_get (D := D) (ci := 3) (v := .ref (a 0 3)) (C := RX3) (T := TX3) (N := 10) hx hb hts hi3 hown hK.1 hP 0 rfl rfl 6 (by decide) (hts (.fieldLink RX3 39 "LastPenny" "sheets" "[LLastPenny$Sheet;") (by decide +kernel)) (fun _ h9 => h9) rfl dX3_lay_35 ?_
        refine lv_iload_n hx hb dX3_lay_38 rfl (lv_at hl 2 rfl) ?_
        obtain ⟨hi_11, h⟩ := h
        refine va_aldq hx hb hK.1 hP 3 4 rfl rfl hi_11 dX3_lay_39 ?_
        refine W.eq (g2 := F0 m 40 ls [.ref (a 8 0)]) rfl ?_
        refine lv_iload_n hx hb dX3_lay_40 rfl (lv_at hl 3 rfl) ?_
        refine lv_iload_n hx hb dX3_lay_41 rfl (lv_at hl 4 rfl) ?_
        refine q_cVv (As := [.int p2, .int p3]) (rest := []) ⟨hx, hb, hml, hown, hts⟩ hK (c_X0_setCell l D kc (a 8) p2 p3 (o9 8) H.size _ h) (cwV 2 hts gX3_lay_X0_setCell rfl rfl rfl (by decide +kernel) ⟨Nat.le_of_ble_eq_true rfl, Nat.le_of_ble_eq_true rfl⟩) (cut_LP_8 D kc a o9) hP hD hS hA 0 0 rfl rfl rfl hl.1 rfl (Nat.le_of_ble_eq_true rfl) dX3_lay_42 ⟨Nat.zero_le _, Nat.zero_le _⟩ (fun u13 H locs h hP hD hS => ?_)
        obtain ⟨w12, rfl⟩ : ∃ z, z = u13 := ⟨_, rfl⟩
        obtain ⟨o14, eo14⟩ : ∃ z, z = (va_up o9 8 w12) := ⟨_, rfl⟩
        have h := nm_out h o14 eo14
        have hP : va_P D vwCl (cLP kc a o14) H := q_to hP (by subst eo14; rfl)
        have hD : va_D A (cLP kc a o14) := q_toD hD (by subst eo14; rfl)
        refine lv_iconst (v := 1) hx hb dX3_lay_45 (by decide) ?_
        exact hret 1 o14 H locs ls _ h hP hD hS dX3_lay_46
      · have h := br2 h c10
        refine lv_bipush (v := -10) hx hb dX3_lay_28 (by decide) ?_
        refine lv_iload hx hb dX3_lay_30 (lv_at hl 0 rfl) ?_
        refine lv_isub hx hb dX3_lay_32 ?_
        exact hret ((-10) - r7) o9 H locs ls _ h hP hD hS dX3_lay_33
    · subst ej5
      simp only [gi_7_2] at h
      refine W.eq (g2 := F0 m 17 ls [.ref (a 9 0)]) rfl ?_
      refine lv_iload_n hx hb dX3_lay_17 rfl (lv_at hl 2 rfl) ?_
      refine q_cVi (As := [.int p2]) (rest := []) ⟨hx, hb, hml, hown, hts⟩ hK (c_X0_faultAt l D kc (a 9) p2 (o 9) H.size _ h) (cwV 1 hts gX3_lay_X0_faultAt rfl rfl rfl (by decide +kernel) ⟨Nat.le_of_ble_eq_true rfl, Nat.le_of_ble_eq_true rfl⟩) (cut_LP_9 D kc a o) hP hD hS hA 0 0 rfl rfl rfl hl.1 rfl (Nat.le_of_ble_eq_true rfl) dX3_lay_18 ⟨Nat.zero_le _, Nat.zero_le _⟩ (fun r7 u8 H locs h hP hD hS => ?_)
      obtain ⟨w6, rfl⟩ : ∃ z, z = u8 := ⟨_, rfl⟩
      obtain ⟨o9, eo9⟩ : ∃ z, z = (va_up o 9 w6) := ⟨_, rfl⟩
      have h := nm_out h o9 eo9
      have hP : va_P D vwCl (cLP kc a o9) H := q_to hP (by subst eo9; rfl)
      have hD : va_D A (cLP kc a o9) := q_toD hD (by subst eo9; rfl)
      refine lv_istore (lv' := [(4, .int r7), (0, .ref (a 0 0)), (1, .int (nI 2)), (2, .int p2), (3, .int p3)]) hx hb dX3_lay_21 hl (by decide) rfl (fun ls hl => ?_)
      refine lv_iload hx hb dX3_lay_23 (lv_at hl 0 rfl) ?_
      refine lv_if_eq (tgt := 34) hx hb dX3_lay_25 (by decide) (fun c10 => ?_) (fun c10 => ?_)
      · have h := br1 h c10
        refine lv_aload_n hx hb dX3_lay_34 rfl (lv_at hl 1 rfl) ?_
        refine va_get (D := D) (ci := 3) (v := .ref (a 0 3)) (C := RX3) (T := TX3) (N := 10) hx hb hts hi3 hown hK.1 hP 0 rfl rfl 6 (by decide) (hts (.fieldLink RX3 39 "LastPenny" "sheets" "[LLastPenny$Sheet;") (by decide +kernel)) (fun _ h9 => h9) rfl dX3_lay_35 ?_
        refine lv_iload_n hx hb dX3_lay_38 rfl (lv_at hl 2 rfl) ?_
        obtain ⟨hi_11, h⟩ := h
        refine va_aldq hx hb hK.1 hP 3 4 rfl rfl hi_11 dX3_lay_39 ?_
        refine W.eq (g2 := F0 m 40 ls [.ref (a 9 0)]) rfl ?_
        refine lv_iload_n hx hb dX3_lay_40 rfl (lv_at hl 3 rfl) ?_
        refine lv_iload_n hx hb dX3_lay_41 rfl (lv_at hl 4 rfl) ?_
        refine q_cVv (As := [.int p2, .int p3]) (rest := []) ⟨hx, hb, hml, hown, hts⟩ hK (c_X0_setCell l D kc (a 9) p2 p3 (o9 9) H.size _ h) (cwV 2 hts gX3_lay_X0_setCell rfl rfl rfl (by decide +kernel) ⟨Nat.le_of_ble_eq_true rfl, Nat.le_of_ble_eq_true rfl⟩) (cut_LP_9 D kc a o9) hP hD hS hA 0 0 rfl rfl rfl hl.1 rfl (Nat.le_of_ble_eq_true rfl) dX3_lay_42 ⟨Nat.zero_le _, Nat.zero_le _⟩ (fun u13 H locs h hP hD hS => ?_)
        obtain ⟨w12, rfl⟩ : ∃ z, z = u13 := ⟨_, rfl⟩
        obtain ⟨o14, eo14⟩ : ∃ z, z = (va_up o9 9 w12) := ⟨_, rfl⟩
        have h := nm_out h o14 eo14
        have hP : va_P D vwCl (cLP kc a o14) H := q_to hP (by subst eo14; rfl)
        have hD : va_D A (cLP kc a o14) := q_toD hD (by subst eo14; rfl)
        refine lv_iconst (v := 1) hx hb dX3_lay_45 (by decide) ?_
        exact hret 1 o14 H locs ls _ h hP hD hS dX3_lay_46
      · have h := br2 h c10
        refine lv_bipush (v := -10) hx hb dX3_lay_28 (by decide) ?_
        refine lv_iload hx hb dX3_lay_30 (lv_at hl 0 rfl) ?_
        refine lv_isub hx hb dX3_lay_32 ?_
        exact hret ((-10) - r7) o9 H locs ls _ h hP hD hS dX3_lay_33
    · subst ej5
      simp only [gi_7_3] at h
      refine W.eq (g2 := F0 m 17 ls [.ref (a 10 0)]) rfl ?_
      refine lv_iload_n hx hb dX3_lay_17 rfl (lv_at hl 2 rfl) ?_
      refine q_cVi (As := [.int p2]) (rest := []) ⟨hx, hb, hml, hown, hts⟩ hK (c_X0_faultAt l D kc (a 10) p2 (o 10) H.size _ h) (cwV 1 hts gX3_lay_X0_faultAt rfl rfl rfl (by decide +kernel) ⟨Nat.le_of_ble_eq_true rfl, Nat.le_of_ble_eq_true rfl⟩) (cut_LP_10 D kc a o) hP hD hS hA 0 0 rfl rfl rfl hl.1 rfl (Nat.le_of_ble_eq_true rfl) dX3_lay_18 ⟨Nat.zero_le _, Nat.zero_le _⟩ (fun r7 u8 H locs h hP hD hS => ?_)
      obtain ⟨w6, rfl⟩ : ∃ z, z = u8 := ⟨_, rfl⟩
      obtain ⟨o9, eo9⟩ : ∃ z, z = (va_up o 10 w6) := ⟨_, rfl⟩
      have h := nm_out h o9 eo9
      have hP : va_P D vwCl (cLP kc a o9) H := q_to hP (by subst eo9; rfl)
      have hD : va_D A (cLP kc a o9) := q_toD hD (by subst eo9; rfl)
      refine lv_istore (lv' := [(4, .int r7), (0, .ref (a 0 0)), (1, .int (nI 3)), (2, .int p2), (3, .int p3)]) hx hb dX3_lay_21 hl (by decide) rfl (fun ls hl => ?_)
      refine lv_iload hx hb dX3_lay_23 (lv_at hl 0 rfl) ?_
      refine lv_if_eq (tgt := 34) hx hb dX3_lay_25 (by decide) (fun c10 => ?_) (fun c10 => ?_)
      · have h := br1 h c10
        refine lv_aload_n hx hb dX3_lay_34 rfl (lv_at hl 1 rfl) ?_
        refine va_get (D := D) (ci := 3) (v := .ref (a 0 3)) (C := RX3) (T := TX3) (N := 10) hx hb hts hi3 hown hK.1 hP 0 rfl rfl 6 (by decide) (hts (.fieldLink RX3 39 "LastPenny" "sheets" "[LLastPenny$Sheet;") (by decide +kernel)) (fun _ h9 => h9) rfl dX3_lay_35 ?_
        refine lv_iload_n hx hb dX3_lay_38 rfl (lv_at hl 2 rfl) ?_
        obtain ⟨hi_11, h⟩ := h
        refine va_aldq hx hb hK.1 hP 3 4 rfl rfl hi_11 dX3_lay_39 ?_
        refine W.eq (g2 := F0 m 40 ls [.ref (a 10 0)]) rfl ?_
        refine lv_iload_n hx hb dX3_lay_40 rfl (lv_at hl 3 rfl) ?_
        refine lv_iload_n hx hb dX3_lay_41 rfl (lv_at hl 4 rfl) ?_
        refine q_cVv (As := [.int p2, .int p3]) (rest := []) ⟨hx, hb, hml, hown, hts⟩ hK (c_X0_setCell l D kc (a 10) p2 p3 (o9 10) H.size _ h) (cwV 2 hts gX3_lay_X0_setCell rfl rfl rfl (by decide +kernel) ⟨Nat.le_of_ble_eq_true rfl, Nat.le_of_ble_eq_true rfl⟩) (cut_LP_10 D kc a o9) hP hD hS hA 0 0 rfl rfl rfl hl.1 rfl (Nat.le_of_ble_eq_true rfl) dX3_lay_42 ⟨Nat.zero_le _, Nat.zero_le _⟩ (fun u13 H locs h hP hD hS => ?_)
        obtain ⟨w12, rfl⟩ : ∃ z, z = u13 := ⟨_, rfl⟩
        obtain ⟨o14, eo14⟩ : ∃ z, z = (va_up o9 10 w12) := ⟨_, rfl⟩
        have h := nm_out h o14 eo14
        have hP : va_P D vwCl (cLP kc a o14) H := q_to hP (by subst eo14; rfl)
        have hD : va_D A (cLP kc a o14) := q_toD hD (by subst eo14; rfl)
        refine lv_iconst (v := 1) hx hb dX3_lay_45 (by decide) ?_
        exact hret 1 o14 H locs ls _ h hP hD hS dX3_lay_46
      · have h := br2 h c10
        refine lv_bipush (v := -10) hx hb dX3_lay_28 (by decide) ?_
        refine lv_iload hx hb dX3_lay_30 (lv_at hl 0 rfl) ?_
        refine lv_isub hx hb dX3_lay_32 ?_
        exact hret ((-10) - r7) o9 H locs ls _ h hP hD hS dX3_lay_33
  · have h := br1 h c3
    refine lv_iconst (v := -1) hx hb dX3_lay_9 (by decide) ?_
    exact hret (-1) o H locs ls _ h hP hD hS dX3_lay_10

def w_X3_takeMeans (p1 : Int32) (p2 : Int32) (o : S3) (K : Int32 → S3 → Prop) : Prop := br (999 ≤ (o 1 0 1)) (K 0 o) (w_X3_alter p1 (1 : Int32) p2 o (fun r3 o2 => br (r3 = (-1)) (K 0 o2) (w_X2_step (o2 1) (fun r7 w6 => nm ((va_up o2 1 w6) : S3) (fun o9 => K 1 o9)))))
abbrev rm_X3_takeMeans : Room := { frames := 3, cells := 0, slots := 0, locals := 107 }
set_option maxHeartbeats 4000000 in
set_option maxRecDepth 100000 in
theorem c_X3_takeMeans (l : Launch) (D : va_G) (kc : Nat → ClassId) (a : Nat → Nat → Nat) (p1 : Int32) (p2 : Int32) (o : S3) (sz : Nat) (K : Int32 → S3 → Prop) (h : w_X3_takeMeans p1 p2 o K) : MetI l yX3_takeMeans wsX3_takeMeans rm_X3_takeMeans D kc (fun u : S3 => cLP kc a u) o [.ref (a 0 0), .int p1, .int p2] sz (fun r u => K r u) := by
  refine q_ez (code := cX3_takeMeans) (maxL := 3) (by decide) rfl (Nat.le_of_ble_eq_true rfl) ?_
  intro p e s m args below meth c Q A hx hb hml hts hown hK hA hret ls hl hP hD hS
  have hown : s.vm.findClass RX3 = some m.cls := hown
  have hl : lv_has ls 3 [(0, .ref (a 0 0)), (1, .int p1), (2, .int p2)] := hl
  have hP : va_P D vwCl (cLP kc a o) s.heap := hP
  have hD : va_D A (cLP kc a o) := hD
  have hS : va_S A s.heap s.heap [] := hS
  obtain ⟨H, eH⟩ : ∃ z, z = s.heap := ⟨_, rfl⟩
  obtain ⟨locs, eL⟩ : ∃ z : List Loc, z = [] := ⟨_, rfl⟩
  have hP := q_heap hP eH
  have hS := q_heapS hS eH eL
  refine q_start eH eL ?_
  clear eH eL
  have hi2 : ∀ w ∈ u_ws RX2 TX2 13, w ∈ wsX3_takeMeans := by decide +kernel
  have hi3 : ∀ w ∈ u_ws RX3 TX3 10, w ∈ wsX3_takeMeans := by decide +kernel
  unfold w_X3_takeMeans at h
  refine lv_aload_n hx hb dX3_takeMeans_0 rfl (lv_at hl 0 rfl) ?_
  refine va_get (D := D) (ci := 3) (v := .ref (a 1 0)) (C := RX3) (T := TX3) (N := 10) hx hb hts hi3 hown hK.1 hP 0 rfl rfl 1 (by decide) (hts (.fieldLink RX3 19 "LastPenny" "now" "LLastPenny$World;") (by decide +kernel)) (fun _ h9 => h9) rfl dX3_takeMeans_1 ?_
  refine va_get (D := D) (ci := 2) (v := .int (o 1 0 1)) (C := RX2) (T := TX2) (N := 13) hx hb hts hi2 hown hK.1 hP 6 rfl rfl 1 (by decide) (hts (.fieldLink RX3 83 "LastPenny$World" "quarter" "I") (by decide +kernel)) (fun _ h9 => h9) rfl dX3_takeMeans_4 ?_
  refine lv_sipush (v := 999) hx hb dX3_takeMeans_7 (by decide) ?_
  refine lv_icmp_ge (tgt := 24) hx hb dX3_takeMeans_10 (by decide) (fun c1 => ?_) (fun c1 => ?_)
  · have h := br1 h c1
    refine lv_iconst (v := 0) hx hb dX3_takeMeans_24 (by decide) ?_
    exact hret 0 o H locs ls _ rfl h hP hD hS dX3_takeMeans_25
  · have h := br2 h c1
    refine lv_aload_n hx hb dX3_takeMeans_13 rfl (lv_at hl 0 rfl) ?_
    refine lv_iload_n hx hb dX3_takeMeans_14 rfl (lv_at hl 1 rfl) ?_
    refine lv_iconst (v := 1) hx hb dX3_takeMeans_15 (by decide) ?_
    refine lv_iload_n hx hb dX3_takeMeans_16 rfl (lv_at hl 2 rfl) ?_
    refine q_cVi (As := [.int p1, .int 1, .int p2]) (rest := []) ⟨hx, hb, hml, hown, hts⟩ hK (c_X3_alter l D kc a p1 (1 : Int32) p2 o H.size _ h) (cwV 3 hts gX3_takeMeans_X3_alter rfl rfl rfl (by decide +kernel) ⟨Nat.le_of_ble_eq_true rfl, Nat.le_of_ble_eq_true rfl⟩) (cut_same (fun u : S3 => cLP kc a u) o) hP hD hS hA 3 0 rfl rfl rfl hl.1 rfl (Nat.le_of_ble_eq_true rfl) dX3_takeMeans_17 ⟨Nat.zero_le _, Nat.zero_le _⟩ (fun r3 u4 H locs h hP hD hS => ?_)
    obtain ⟨o2, rfl⟩ : ∃ z, z = u4 := ⟨_, rfl⟩
    have hP : va_P D vwCl (cLP kc a o2) H := hP
    have hD : va_D A (cLP kc a o2) := hD
    refine lv_iconst (v := -1) hx hb dX3_takeMeans_20 (by decide) ?_
    refine lv_icmp_ne (tgt := 26) hx hb dX3_takeMeans_21 (by decide) (fun c5 => ?_) (fun c5 => ?_)
    · have h := br2 h c5
      refine lv_aload_n hx hb dX3_takeMeans_26 rfl (lv_at hl 0 rfl) ?_
      refine va_get (D := D) (ci := 3) (v := .ref (a 1 0)) (C := RX3) (T := TX3) (N := 10) hx hb hts hi3 hown hK.1 hP 0 rfl rfl 1 (by decide) (hts (.fieldLink RX3 19 "LastPenny" "now" "LLastPenny$World;") (by decide +kernel)) (fun _ h9 => h9) rfl dX3_takeMeans_27 ?_
      refine q_cVi (As := []) (rest := []) ⟨hx, hb, hml, hown, hts⟩ hK (c_X2_step l D kc (a 1) (o2 1) H.size _ h) (cwV 0 hts gX3_takeMeans_X2_step rfl rfl rfl (by decide +kernel) ⟨Nat.le_of_ble_eq_true rfl, Nat.le_of_ble_eq_true rfl⟩) (cut_LP_1 D kc a o2) hP hD hS hA 2 0 rfl rfl rfl hl.1 rfl (Nat.le_of_ble_eq_true rfl) dX3_takeMeans_30 ⟨Nat.zero_le _, Nat.zero_le _⟩ (fun r7 u8 H locs h hP hD hS => ?_)
      obtain ⟨w6, rfl⟩ : ∃ z, z = u8 := ⟨_, rfl⟩
      obtain ⟨o9, eo9⟩ : ∃ z, z = (va_up o2 1 w6) := ⟨_, rfl⟩
      have h := nm_out h o9 eo9
      have hP : va_P D vwCl (cLP kc a o9) H := q_to hP (by subst eo9; rfl)
      have hD : va_D A (cLP kc a o9) := q_toD hD (by subst eo9; rfl)
      refine lv_pop hx hb dX3_takeMeans_33 rfl ?_
      refine lv_iconst (v := 1) hx hb dX3_takeMeans_34 (by decide) ?_
      exact hret 1 o9 H locs ls _ rfl h hP hD hS dX3_takeMeans_35
    · have h := br1 h c5
      refine lv_iconst (v := 0) hx hb dX3_takeMeans_24 (by decide) ?_
      exact hret 0 o2 H locs ls _ rfl h hP hD hS dX3_takeMeans_25

