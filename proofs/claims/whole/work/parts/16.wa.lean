def w_X2_become (w : S2) (v : S2) (K : S2 → S2 → Prop) : Prop := nm ((va_up w 0 (upd (w 0) 0 (v 0 0))) : S2) (fun w1 => nm ((va_up w1 0 (upd (w1 0) 1 (v 0 1))) : S2) (fun w2 => nm ((va_up w2 0 (upd (w2 0) 2 (v 0 2))) : S2) (fun w3 => nm ((va_up w3 0 (upd (w3 0) 3 (v 0 3))) : S2) (fun w4 => nm ((va_up w4 0 (upd (w4 0) 4 (v 0 4))) : S2) (fun w5 => nm ((va_up w5 0 (upd (w5 0) 5 (v 0 5))) : S2) (fun w6 => (¬ (w6 0 0) < 0 ∧ (w6 0 0).toNatClampNeg ≤ 5) ∧ (nm ((va_up w6 1 (va_cpy (v 1) (w6 1) (0 : Int32).toNatClampNeg (0 : Int32).toNatClampNeg (w6 0 0).toNatClampNeg)) : S2) (fun w8 => (¬ (w8 0 0) < 0 ∧ (w8 0 0).toNatClampNeg ≤ 5) ∧ (nm ((va_up w8 2 (va_cpy (v 2) (w8 2) (0 : Int32).toNatClampNeg (0 : Int32).toNatClampNeg (w8 0 0).toNatClampNeg)) : S2) (fun w10 => (¬ (w10 0 0) < 0 ∧ (w10 0 0).toNatClampNeg ≤ 5) ∧ (nm ((va_up w10 3 (va_cpy (v 3) (w10 3) (0 : Int32).toNatClampNeg (0 : Int32).toNatClampNeg (w10 0 0).toNatClampNeg)) : S2) (fun w12 => (¬ (w12 0 0) < 0 ∧ (w12 0 0).toNatClampNeg ≤ 5) ∧ (nm ((va_up w12 4 (va_cpy (v 4) (w12 4) (0 : Int32).toNatClampNeg (0 : Int32).toNatClampNeg (w12 0 0).toNatClampNeg)) : S2) (fun w14 => (¬ ((w14 0 4) * 4) < 0 ∧ ((w14 0 4) * 4).toNatClampNeg ≤ 16) ∧ (nm ((va_up w14 5 (va_cpy (v 5) (w14 5) (0 : Int32).toNatClampNeg (0 : Int32).toNatClampNeg ((w14 0 4) * 4).toNatClampNeg)) : S2) (fun w16 => (¬ (w16 0 5) < 0 ∧ (w16 0 5).toNatClampNeg ≤ 6) ∧ (nm ((va_up w16 6 (va_cpy (v 6) (w16 6) (0 : Int32).toNatClampNeg (0 : Int32).toNatClampNeg (w16 0 5).toNatClampNeg)) : S2) (fun w18 => (¬ (w18 0 5) < 0 ∧ (w18 0 5).toNatClampNeg ≤ 6) ∧ (nm ((va_up w18 7 (va_cpy (v 7) (w18 7) (0 : Int32).toNatClampNeg (0 : Int32).toNatClampNeg (w18 0 5).toNatClampNeg)) : S2) (fun w20 => K w20 v))))))))))))))))))))
abbrev rm_X2_become : Room := { frames := 1, cells := 0, slots := 0, locals := 60 }
set_option maxHeartbeats 4000000 in
set_option maxRecDepth 100000 in
theorem c_X2_become (l : Launch) (D : va_G) (kc : Nat → ClassId) (a : Nat → Nat) (b : Nat → Nat) (w : S2) (v : S2) (sz : Nat) (K : S2 → S2 → Prop) (h : w_X2_become w v K) : MetV l yX2_become wsX2_become rm_X2_become D kc (fun u : S2 × S2 => cWl kc a u.1 ++ cWl kc b u.2) (w, v) [.ref (a 0), .ref (b 0)] sz (fun u => K u.1 u.2) := by
  refine q_ev (code := cX2_become) (maxL := 2) (by decide) rfl (Nat.le_of_ble_eq_true rfl) ?_
  intro p e s m args below meth c Q A hx hb hml hts hown hK hA hret ls hl hP hD hS
  have hown : s.vm.findClass RX2 = some m.cls := hown
  have hl : lv_has ls 2 [(0, .ref (a 0)), (1, .ref (b 0))] := hl
  have hP : va_P D vwCl (cWl kc a w ++ cWl kc b v) s.heap := hP
  have hD : va_D A (cWl kc a w ++ cWl kc b v) := hD
  have hS : va_S A s.heap s.heap [] := hS
  obtain ⟨H, eH⟩ : ∃ z, z = s.heap := ⟨_, rfl⟩
  obtain ⟨locs, eL⟩ : ∃ z : List Loc, z = [] := ⟨_, rfl⟩
  have hP := q_heap hP eH
  have hS := q_heapS hS eH eL
  refine q_start eH eL ?_
  clear eH eL
  have hi2 : ∀ w ∈ u_ws RX2 TX2 13, w ∈ wsX2_become := by decide +kernel
  unfold w_X2_become at h
  refine lv_aload_n hx hb dX2_become_0 rfl (lv_at hl 0 rfl) ?_
  refine lv_aload_n hx hb dX2_become_1 rfl (lv_at hl 1 rfl) ?_
  refine va_get (D := D) (ci := 2) (v := .int (v 0 0)) (C := RX2) (T := TX2) (N := 13) hx hb hts hi2 hown hK.1 hP 8 rfl rfl 0 (by decide) (hts (.fieldLink RX2 33 "LastPenny$World" "people" "I") (by decide +kernel)) (fun _ h9 => h9) rfl dX2_become_2 ?_
  refine va_put (D := D) (ci := 2) (v := .int (v 0 0)) (ty := .int) (C := RX2) (T := TX2) (N := 13) hx hb hts hi2 tyX2 tyX2_ok nmX2 hown hK.1 hP hD hS 0 rfl rfl 0 (by decide) (hts (.fieldLink RX2 33 "LastPenny$World" "people" "I") (by decide +kernel)) (fun _ h9 => h9) rfl (by decide +kernel) rfl rfl (Nat.le_of_ble_eq_true rfl) dX2_become_5 (fun H locs hP hD hS => ?_)
  obtain ⟨w1, ew1⟩ : ∃ z, z = (va_up w 0 (upd (w 0) 0 (v 0 0))) := ⟨_, rfl⟩
  have h := nm_out h w1 ew1
  have hP : va_P D vwCl (cWl kc a w1 ++ cWl kc b v) H := q_to hP (by subst ew1; rfl)
  have hD : va_D A (cWl kc a w1 ++ cWl kc b v) := q_toD hD (by subst ew1; rfl)
  refine lv_aload_n hx hb dX2_become_8 rfl (lv_at hl 0 rfl) ?_
  refine lv_aload_n hx hb dX2_become_9 rfl (lv_at hl 1 rfl) ?_
  refine va_get (D := D) (ci := 2) (v := .int (v 0 1)) (C := RX2) (T := TX2) (N := 13) hx hb hts hi2 hown hK.1 hP 8 rfl rfl 1 (by decide) (hts (.fieldLink RX2 37 "LastPenny$World" "quarter" "I") (by decide +kernel)) (fun _ h9 => h9) rfl dX2_become_10 ?_
  refine va_put (D := D) (ci := 2) (v := .int (v 0 1)) (ty := .int) (C := RX2) (T := TX2) (N := 13) hx hb hts hi2 tyX2 tyX2_ok nmX2 hown hK.1 hP hD hS 0 rfl rfl 1 (by decide) (hts (.fieldLink RX2 37 "LastPenny$World" "quarter" "I") (by decide +kernel)) (fun _ h9 => h9) rfl (by decide +kernel) rfl rfl (Nat.le_of_ble_eq_true rfl) dX2_become_13 (fun H locs hP hD hS => ?_)
  obtain ⟨w2, ew2⟩ : ∃ z, z = (va_up w1 0 (upd (w1 0) 1 (v 0 1))) := ⟨_, rfl⟩
  have h := nm_out h w2 ew2
  have hP : va_P D vwCl (cWl kc a w2 ++ cWl kc b v) H := q_to hP (by subst ew2; rfl)
  have hD : va_D A (cWl kc a w2 ++ cWl kc b v) := q_toD hD (by subst ew2; rfl)
  refine lv_aload_n hx hb dX2_become_16 rfl (lv_at hl 0 rfl) ?_
  refine lv_aload_n hx hb dX2_become_17 rfl (lv_at hl 1 rfl) ?_
  refine va_get (D := D) (ci := 2) (v := .int (v 0 2)) (C := RX2) (T := TX2) (N := 13) hx hb hts hi2 hown hK.1 hP 8 rfl rfl 2 (by decide) (hts (.fieldLink RX2 40 "LastPenny$World" "slumpNow" "I") (by decide +kernel)) (fun _ h9 => h9) rfl dX2_become_18 ?_
  refine va_put (D := D) (ci := 2) (v := .int (v 0 2)) (ty := .int) (C := RX2) (T := TX2) (N := 13) hx hb hts hi2 tyX2 tyX2_ok nmX2 hown hK.1 hP hD hS 0 rfl rfl 2 (by decide) (hts (.fieldLink RX2 40 "LastPenny$World" "slumpNow" "I") (by decide +kernel)) (fun _ h9 => h9) rfl (by decide +kernel) rfl rfl (Nat.le_of_ble_eq_true rfl) dX2_become_21 (fun H locs hP hD hS => ?_)
  obtain ⟨w3, ew3⟩ : ∃ z, z = (va_up w2 0 (upd (w2 0) 2 (v 0 2))) := ⟨_, rfl⟩
  have h := nm_out h w3 ew3
  have hP : va_P D vwCl (cWl kc a w3 ++ cWl kc b v) H := q_to hP (by subst ew3; rfl)
  have hD : va_D A (cWl kc a w3 ++ cWl kc b v) := q_toD hD (by subst ew3; rfl)
  refine lv_aload_n hx hb dX2_become_24 rfl (lv_at hl 0 rfl) ?_
  refine lv_aload_n hx hb dX2_become_25 rfl (lv_at hl 1 rfl) ?_
  refine va_get (D := D) (ci := 2) (v := .int (v 0 3)) (C := RX2) (T := TX2) (N := 13) hx hb hts hi2 hown hK.1 hP 8 rfl rfl 3 (by decide) (hts (.fieldLink RX2 43 "LastPenny$World" "holder" "I") (by decide +kernel)) (fun _ h9 => h9) rfl dX2_become_26 ?_
  refine va_put (D := D) (ci := 2) (v := .int (v 0 3)) (ty := .int) (C := RX2) (T := TX2) (N := 13) hx hb hts hi2 tyX2 tyX2_ok nmX2 hown hK.1 hP hD hS 0 rfl rfl 3 (by decide) (hts (.fieldLink RX2 43 "LastPenny$World" "holder" "I") (by decide +kernel)) (fun _ h9 => h9) rfl (by decide +kernel) rfl rfl (Nat.le_of_ble_eq_true rfl) dX2_become_29 (fun H locs hP hD hS => ?_)
  obtain ⟨w4, ew4⟩ : ∃ z, z = (va_up w3 0 (upd (w3 0) 3 (v 0 3))) := ⟨_, rfl⟩
  have h := nm_out h w4 ew4
  have hP : va_P D vwCl (cWl kc a w4 ++ cWl kc b v) H := q_to hP (by subst ew4; rfl)
  have hD : va_D A (cWl kc a w4 ++ cWl kc b v) := q_toD hD (by subst ew4; rfl)
  refine lv_aload_n hx hb dX2_become_32 rfl (lv_at hl 0 rfl) ?_
  refine lv_aload_n hx hb dX2_become_33 rfl (lv_at hl 1 rfl) ?_
  refine va_get (D := D) (ci := 2) (v := .int (v 0 4)) (C := RX2) (T := TX2) (N := 13) hx hb hts hi2 hown hK.1 hP 8 rfl rfl 4 (by decide) (hts (.fieldLink RX2 46 "LastPenny$World" "gifts" "I") (by decide +kernel)) (fun _ h9 => h9) rfl dX2_become_34 ?_
  refine va_put (D := D) (ci := 2) (v := .int (v 0 4)) (ty := .int) (C := RX2) (T := TX2) (N := 13) hx hb hts hi2 tyX2 tyX2_ok nmX2 hown hK.1 hP hD hS 0 rfl rfl 4 (by decide) (hts (.fieldLink RX2 46 "LastPenny$World" "gifts" "I") (by decide +kernel)) (fun _ h9 => h9) rfl (by decide +kernel) rfl rfl (Nat.le_of_ble_eq_true rfl) dX2_become_37 (fun H locs hP hD hS => ?_)
  obtain ⟨w5, ew5⟩ : ∃ z, z = (va_up w4 0 (upd (w4 0) 4 (v 0 4))) := ⟨_, rfl⟩
  have h := nm_out h w5 ew5
  have hP : va_P D vwCl (cWl kc a w5 ++ cWl kc b v) H := q_to hP (by subst ew5; rfl)
  have hD : va_D A (cWl kc a w5 ++ cWl kc b v) := q_toD hD (by subst ew5; rfl)
  refine lv_aload_n hx hb dX2_become_40 rfl (lv_at hl 0 rfl) ?_
  refine lv_aload_n hx hb dX2_become_41 rfl (lv_at hl 1 rfl) ?_
  refine va_get (D := D) (ci := 2) (v := .int (v 0 5)) (C := RX2) (T := TX2) (N := 13) hx hb hts hi2 hown hK.1 hP 8 rfl rfl 5 (by decide) (hts (.fieldLink RX2 49 "LastPenny$World" "seen" "I") (by decide +kernel)) (fun _ h9 => h9) rfl dX2_become_42 ?_
  refine va_put (D := D) (ci := 2) (v := .int (v 0 5)) (ty := .int) (C := RX2) (T := TX2) (N := 13) hx hb hts hi2 tyX2 tyX2_ok nmX2 hown hK.1 hP hD hS 0 rfl rfl 5 (by decide) (hts (.fieldLink RX2 49 "LastPenny$World" "seen" "I") (by decide +kernel)) (fun _ h9 => h9) rfl (by decide +kernel) rfl rfl (Nat.le_of_ble_eq_true rfl) dX2_become_45 (fun H locs hP hD hS => ?_)
  obtain ⟨w6, ew6⟩ : ∃ z, z = (va_up w5 0 (upd (w5 0) 5 (v 0 5))) := ⟨_, rfl⟩
  have h := nm_out h w6 ew6
  have hP : va_P D vwCl (cWl kc a w6 ++ cWl kc b v) H := q_to hP (by subst ew6; rfl)
  have hD : va_D A (cWl kc a w6 ++ cWl kc b v) := q_toD hD (by subst ew6; rfl)
  refine lv_aload_n hx hb dX2_become_48 rfl (lv_at hl 1 rfl) ?_
  refine va_get (D := D) (ci := 2) (v := .ref (b 1)) (C := RX2) (T := TX2) (N := 13) hx hb hts hi2 hown hK.1 hP 8 rfl rfl 6 (by decide) (hts (.fieldLink RX2 9 "LastPenny$World" "kindOf" "[I") (by decide +kernel)) (fun _ h9 => h9) rfl dX2_become_49 ?_
  refine lv_iconst (v := 0) hx hb dX2_become_52 (by decide) ?_
  refine lv_aload_n hx hb dX2_become_53 rfl (lv_at hl 0 rfl) ?_
  refine va_get (D := D) (ci := 2) (v := .ref (a 1)) (C := RX2) (T := TX2) (N := 13) hx hb hts hi2 hown hK.1 hP 0 rfl rfl 6 (by decide) (hts (.fieldLink RX2 9 "LastPenny$World" "kindOf" "[I") (by decide +kernel)) (fun _ h9 => h9) rfl dX2_become_54 ?_
  refine lv_iconst (v := 0) hx hb dX2_become_57 (by decide) ?_
  refine lv_aload_n hx hb dX2_become_58 rfl (lv_at hl 0 rfl) ?_
  refine va_get (D := D) (ci := 2) (v := .int (w6 0 0)) (C := RX2) (T := TX2) (N := 13) hx hb hts hi2 hown hK.1 hP 0 rfl rfl 0 (by decide) (hts (.fieldLink RX2 33 "LastPenny$World" "people" "I") (by decide +kernel)) (fun _ h9 => h9) rfl dX2_become_59 ?_
  obtain ⟨hc7, h⟩ := h
  refine va_copyi (ty := .int) hx hb (by rw [hml]; exact hl.1.symm) hown (hts (.methodLink RX2 52 arraycopyName) (by decide +kernel)) (hts (.native arraycopyName) (by decide +kernel)) (hts (.static arraycopyName) (by decide +kernel)) (hts (.initialized "java/lang/System") (by decide +kernel)) hK.1 hP hD hS 9 1 0 0 rfl rfl rfl rfl rfl (by decide) (by decide) hc7.1 (by rw [sb_cl0, Nat.zero_add]; exact hc7.2) (by rw [sb_cl0, Nat.zero_add]; exact hc7.2) (fun _ _ => rfl) (Nat.le_of_ble_eq_true rfl) (Nat.le_of_ble_eq_true rfl) dX2_become_62 (fun H locs hP hD hS => ?_)
  obtain ⟨w8, ew8⟩ : ∃ z, z = (va_up w6 1 (va_cpy (v 1) (w6 1) (0 : Int32).toNatClampNeg (0 : Int32).toNatClampNeg (w6 0 0).toNatClampNeg)) := ⟨_, rfl⟩
  have h := nm_out h w8 ew8
  have hP : va_P D vwCl (cWl kc a w8 ++ cWl kc b v) H := q_to hP (by subst ew8; rfl)
  have hD : va_D A (cWl kc a w8 ++ cWl kc b v) := q_toD hD (by subst ew8; rfl)
  refine lv_aload_n hx hb dX2_become_65 rfl (lv_at hl 1 rfl) ?_
  refine va_get (D := D) (ci := 2) (v := .ref (b 2)) (C := RX2) (T := TX2) (N := 13) hx hb hts hi2 hown hK.1 hP 8 rfl rfl 7 (by decide) (hts (.fieldLink RX2 15 "LastPenny$World" "meansOf" "[I") (by decide +kernel)) (fun _ h9 => h9) rfl dX2_become_66 ?_
  refine lv_iconst (v := 0) hx hb dX2_become_69 (by decide) ?_
  refine lv_aload_n hx hb dX2_become_70 rfl (lv_at hl 0 rfl) ?_
  refine va_get (D := D) (ci := 2) (v := .ref (a 2)) (C := RX2) (T := TX2) (N := 13) hx hb hts hi2 hown hK.1 hP 0 rfl rfl 7 (by decide) (hts (.fieldLink RX2 15 "LastPenny$World" "meansOf" "[I") (by decide +kernel)) (fun _ h9 => h9) rfl dX2_become_71 ?_
  refine lv_iconst (v := 0) hx hb dX2_become_74 (by decide) ?_
  refine lv_aload_n hx hb dX2_become_75 rfl (lv_at hl 0 rfl) ?_
  refine va_get (D := D) (ci := 2) (v := .int (w8 0 0)) (C := RX2) (T := TX2) (N := 13) hx hb hts hi2 hown hK.1 hP 0 rfl rfl 0 (by decide) (hts (.fieldLink RX2 33 "LastPenny$World" "people" "I") (by decide +kernel)) (fun _ h9 => h9) rfl dX2_become_76 ?_
  obtain ⟨hc9, h⟩ := h
  refine va_copyi (ty := .int) hx hb (by rw [hml]; exact hl.1.symm) hown (hts (.methodLink RX2 52 arraycopyName) (by decide +kernel)) (hts (.native arraycopyName) (by decide +kernel)) (hts (.static arraycopyName) (by decide +kernel)) (hts (.initialized "java/lang/System") (by decide +kernel)) hK.1 hP hD hS 10 2 0 0 rfl rfl rfl rfl rfl (by decide) (by decide) hc9.1 (by rw [sb_cl0, Nat.zero_add]; exact hc9.2) (by rw [sb_cl0, Nat.zero_add]; exact hc9.2) (fun _ _ => rfl) (Nat.le_of_ble_eq_true rfl) (Nat.le_of_ble_eq_true rfl) dX2_become_79 (fun H locs hP hD hS => ?_)
  obtain ⟨w10, ew10⟩ : ∃ z, z = (va_up w8 2 (va_cpy (v 2) (w8 2) (0 : Int32).toNatClampNeg (0 : Int32).toNatClampNeg (w8 0 0).toNatClampNeg)) := ⟨_, rfl⟩
  have h := nm_out h w10 ew10
  have hP : va_P D vwCl (cWl kc a w10 ++ cWl kc b v) H := q_to hP (by subst ew10; rfl)
  have hD : va_D A (cWl kc a w10 ++ cWl kc b v) := q_toD hD (by subst ew10; rfl)
  refine lv_aload_n hx hb dX2_become_82 rfl (lv_at hl 1 rfl) ?_
  refine va_get (D := D) (ci := 2) (v := .ref (b 3)) (C := RX2) (T := TX2) (N := 13) hx hb hts hi2 hown hK.1 hP 8 rfl rfl 8 (by decide) (hts (.fieldLink RX2 18 "LastPenny$World" "tradeOf" "[I") (by decide +kernel)) (fun _ h9 => h9) rfl dX2_become_83 ?_
  refine lv_iconst (v := 0) hx hb dX2_become_86 (by decide) ?_
  refine lv_aload_n hx hb dX2_become_87 rfl (lv_at hl 0 rfl) ?_
  refine va_get (D := D) (ci := 2) (v := .ref (a 3)) (C := RX2) (T := TX2) (N := 13) hx hb hts hi2 hown hK.1 hP 0 rfl rfl 8 (by decide) (hts (.fieldLink RX2 18 "LastPenny$World" "tradeOf" "[I") (by decide +kernel)) (fun _ h9 => h9) rfl dX2_become_88 ?_
  refine lv_iconst (v := 0) hx hb dX2_become_91 (by decide) ?_
  refine lv_aload_n hx hb dX2_become_92 rfl (lv_at hl 0 rfl) ?_
  refine va_get (D := D) (ci := 2) (v := .int (w10 0 0)) (C := RX2) (T := TX2) (N := 13) hx hb hts hi2 hown hK.1 hP 0 rfl rfl 0 (by decide) (hts (.fieldLink RX2 33 "LastPenny$World" "people" "I") (by decide +kernel)) (fun _ h9 => h9) rfl dX2_become_93 ?_
  obtain ⟨hc11, h⟩ := h
  refine va_copyi (ty := .int) hx hb (by rw [hml]; exact hl.1.symm) hown (hts (.methodLink RX2 52 arraycopyName) (by decide +kernel)) (hts (.native arraycopyName) (by decide +kernel)) (hts (.static arraycopyName) (by decide +kernel)) (hts (.initialized "java/lang/System") (by decide +kernel)) hK.1 hP hD hS 11 3 0 0 rfl rfl rfl rfl rfl (by decide) (by decide) hc11.1 (by rw [sb_cl0, Nat.zero_add]; exact hc11.2) (by rw [sb_cl0, Nat.zero_add]; exact hc11.2) (fun _ _ => rfl) (Nat.le_of_ble_eq_true rfl) (Nat.le_of_ble_eq_true rfl) dX2_become_96 (fun H locs hP hD hS => ?_)
  obtain ⟨w12, ew12⟩ : ∃ z, z = (va_up w10 3 (va_cpy (v 3) (w10 3) (0 : Int32).toNatClampNeg (0 : Int32).toNatClampNeg (w10 0 0).toNatClampNeg)) := ⟨_, rfl⟩
  have h := nm_out h w12 ew12
  have hP : va_P D vwCl (cWl kc a w12 ++ cWl kc b v) H := q_to hP (by subst ew12; rfl)
  have hD : va_D A (cWl kc a w12 ++ cWl kc b v) := q_toD hD (by subst ew12; rfl)
  refine lv_aload_n hx hb dX2_become_99 rfl (lv_at hl 1 rfl) ?_
  refine va_get (D := D) (ci := 2) (v := .ref (b 4)) (C := RX2) (T := TX2) (N := 13) hx hb hts hi2 hown hK.1 hP 8 rfl rfl 9 (by decide) (hts (.fieldLink RX2 21 "LastPenny$World" "keptOf" "[I") (by decide +kernel)) (fun _ h9 => h9) rfl dX2_become_100 ?_
  refine lv_iconst (v := 0) hx hb dX2_become_103 (by decide) ?_
  refine lv_aload_n hx hb dX2_become_104 rfl (lv_at hl 0 rfl) ?_
  refine va_get (D := D) (ci := 2) (v := .ref (a 4)) (C := RX2) (T := TX2) (N := 13) hx hb hts hi2 hown hK.1 hP 0 rfl rfl 9 (by decide) (hts (.fieldLink RX2 21 "LastPenny$World" "keptOf" "[I") (by decide +kernel)) (fun _ h9 => h9) rfl dX2_become_105 ?_
  refine lv_iconst (v := 0) hx hb dX2_become_108 (by decide) ?_
  refine lv_aload_n hx hb dX2_become_109 rfl (lv_at hl 0 rfl) ?_
  refine va_get (D := D) (ci := 2) (v := .int (w12 0 0)) (C := RX2) (T := TX2) (N := 13) hx hb hts hi2 hown hK.1 hP 0 rfl rfl 0 (by decide) (hts (.fieldLink RX2 33 "LastPenny$World" "people" "I") (by decide +kernel)) (fun _ h9 => h9) rfl dX2_become_110 ?_
  obtain ⟨hc13, h⟩ := h
  refine va_copyi (ty := .int) hx hb (by rw [hml]; exact hl.1.symm) hown (hts (.methodLink RX2 52 arraycopyName) (by decide +kernel)) (hts (.native arraycopyName) (by decide +kernel)) (hts (.static arraycopyName) (by decide +kernel)) (hts (.initialized "java/lang/System") (by decide +kernel)) hK.1 hP hD hS 12 4 0 0 rfl rfl rfl rfl rfl (by decide) (by decide) hc13.1 (by rw [sb_cl0, Nat.zero_add]; exact hc13.2) (by rw [sb_cl0, Nat.zero_add]; exact hc13.2) (fun _ _ => rfl) (Nat.le_of_ble_eq_true rfl) (Nat.le_of_ble_eq_true rfl) dX2_become_113 (fun H locs hP hD hS => ?_)
  obtain ⟨w14, ew14⟩ : ∃ z, z = (va_up w12 4 (va_cpy (v 4) (w12 4) (0 : Int32).toNatClampNeg (0 : Int32).toNatClampNeg (w12 0 0).toNatClampNeg)) := ⟨_, rfl⟩
  have h := nm_out h w14 ew14
  have hP : va_P D vwCl (cWl kc a w14 ++ cWl kc b v) H := q_to hP (by subst ew14; rfl)
  have hD : va_D A (cWl kc a w14 ++ cWl kc b v) := q_toD hD (by subst ew14; rfl)
  refine lv_aload_n hx hb dX2_become_116 rfl (lv_at hl 1 rfl) ?_
  refine va_get (D := D) (ci := 2) (v := .ref (b 5)) (C := RX2) (T := TX2) (N := 13) hx hb hts hi2 hown hK.1 hP 8 rfl rfl 10 (by decide) (hts (.fieldLink RX2 24 "LastPenny$World" "giftCells" "[I") (by decide +kernel)) (fun _ h9 => h9) rfl dX2_become_117 ?_
  refine lv_iconst (v := 0) hx hb dX2_become_120 (by decide) ?_
  refine lv_aload_n hx hb dX2_become_121 rfl (lv_at hl 0 rfl) ?_
  refine va_get (D := D) (ci := 2) (v := .ref (a 5)) (C := RX2) (T := TX2) (N := 13) hx hb hts hi2 hown hK.1 hP 0 rfl rfl 10 (by decide) (hts (.fieldLink RX2 24 "LastPenny$World" "giftCells" "[I") (by decide +kernel)) (fun _ h9 => h9) rfl dX2_become_122 ?_
  refine lv_iconst (v := 0) hx hb dX2_become_125 (by decide) ?_
  refine lv_aload_n hx hb dX2_become_126 rfl (lv_at hl 0 rfl) ?_
  refine va_get (D := D) (ci := 2) (v := .int (w14 0 4)) (C := RX2) (T := TX2) (N := 13) hx hb hts hi2 hown hK.1 hP 0 rfl rfl 4 (by decide) (hts (.fieldLink RX2 46 "LastPenny$World" "gifts" "I") (by decide +kernel)) (fun _ h9 => h9) rfl dX2_become_127 ?_
  refine lv_iconst (v := 4) hx hb dX2_become_130 (by decide) ?_
  refine lv_imul hx hb dX2_become_131 ?_
  obtain ⟨hc15, h⟩ := h
  refine va_copyi (ty := .int) hx hb (by rw [hml]; exact hl.1.symm) hown (hts (.methodLink RX2 52 arraycopyName) (by decide +kernel)) (hts (.native arraycopyName) (by decide +kernel)) (hts (.static arraycopyName) (by decide +kernel)) (hts (.initialized "java/lang/System") (by decide +kernel)) hK.1 hP hD hS 13 5 0 0 rfl rfl rfl rfl rfl (by decide) (by decide) hc15.1 (by rw [sb_cl0, Nat.zero_add]; exact hc15.2) (by rw [sb_cl0, Nat.zero_add]; exact hc15.2) (fun _ _ => rfl) (Nat.le_of_ble_eq_true rfl) (Nat.le_of_ble_eq_true rfl) dX2_become_132 (fun H locs hP hD hS => ?_)
  obtain ⟨w16, ew16⟩ : ∃ z, z = (va_up w14 5 (va_cpy (v 5) (w14 5) (0 : Int32).toNatClampNeg (0 : Int32).toNatClampNeg ((w14 0 4) * 4).toNatClampNeg)) := ⟨_, rfl⟩
  have h := nm_out h w16 ew16
  have hP : va_P D vwCl (cWl kc a w16 ++ cWl kc b v) H := q_to hP (by subst ew16; rfl)
  have hD : va_D A (cWl kc a w16 ++ cWl kc b v) := q_toD hD (by subst ew16; rfl)
  refine lv_aload_n hx hb dX2_become_135 rfl (lv_at hl 1 rfl) ?_
  refine va_get (D := D) (ci := 2) (v := .ref (b 6)) (C := RX2) (T := TX2) (N := 13) hx hb hts hi2 hown hK.1 hP 8 rfl rfl 11 (by decide) (hts (.fieldLink RX2 27 "LastPenny$World" "seenBehind" "[I") (by decide +kernel)) (fun _ h9 => h9) rfl dX2_become_136 ?_
  refine lv_iconst (v := 0) hx hb dX2_become_139 (by decide) ?_
  refine lv_aload_n hx hb dX2_become_140 rfl (lv_at hl 0 rfl) ?_
  refine va_get (D := D) (ci := 2) (v := .ref (a 6)) (C := RX2) (T := TX2) (N := 13) hx hb hts hi2 hown hK.1 hP 0 rfl rfl 11 (by decide) (hts (.fieldLink RX2 27 "LastPenny$World" "seenBehind" "[I") (by decide +kernel)) (fun _ h9 => h9) rfl dX2_become_141 ?_
  refine lv_iconst (v := 0) hx hb dX2_become_144 (by decide) ?_
  refine lv_aload_n hx hb dX2_become_145 rfl (lv_at hl 0 rfl) ?_
  refine va_get (D := D) (ci := 2) (v := .int (w16 0 5)) (C := RX2) (T := TX2) (N := 13) hx hb hts hi2 hown hK.1 hP 0 rfl rfl 5 (by decide) (hts (.fieldLink RX2 49 "LastPenny$World" "seen" "I") (by decide +kernel)) (fun _ h9 => h9) rfl dX2_become_146 ?_
  obtain ⟨hc17, h⟩ := h
  refine va_copyi (ty := .int) hx hb (by rw [hml]; exact hl.1.symm) hown (hts (.methodLink RX2 52 arraycopyName) (by decide +kernel)) (hts (.native arraycopyName) (by decide +kernel)) (hts (.static arraycopyName) (by decide +kernel)) (hts (.initialized "java/lang/System") (by decide +kernel)) hK.1 hP hD hS 14 6 0 0 rfl rfl rfl rfl rfl (by decide) (by decide) hc17.1 (by rw [sb_cl0, Nat.zero_add]; exact hc17.2) (by rw [sb_cl0, Nat.zero_add]; exact hc17.2) (fun _ _ => rfl) (Nat.le_of_ble_eq_true rfl) (Nat.le_of_ble_eq_true rfl) dX2_become_149 (fun H locs hP hD hS => ?_)
  obtain ⟨w18, ew18⟩ : ∃ z, z = (va_up w16 6 (va_cpy (v 6) (w16 6) (0 : Int32).toNatClampNeg (0 : Int32).toNatClampNeg (w16 0 5).toNatClampNeg)) := ⟨_, rfl⟩
  have h := nm_out h w18 ew18
  have hP : va_P D vwCl (cWl kc a w18 ++ cWl kc b v) H := q_to hP (by subst ew18; rfl)
  have hD : va_D A (cWl kc a w18 ++ cWl kc b v) := q_toD hD (by subst ew18; rfl)
  refine lv_aload_n hx hb dX2_become_152 rfl (lv_at hl 1 rfl) ?_
  refine va_get (D := D) (ci := 2) (v := .ref (b 7)) (C := RX2) (T := TX2) (N := 13) hx hb hts hi2 hown hK.1 hP 8 rfl rfl 12 (by decide) (hts (.fieldLink RX2 30 "LastPenny$World" "seenWith" "[I") (by decide +kernel)) (fun _ h9 => h9) rfl dX2_become_153 ?_
  refine lv_iconst (v := 0) hx hb dX2_become_156 (by decide) ?_
  refine lv_aload_n hx hb dX2_become_157 rfl (lv_at hl 0 rfl) ?_
  refine va_get (D := D) (ci := 2) (v := .ref (a 7)) (C := RX2) (T := TX2) (N := 13) hx hb hts hi2 hown hK.1 hP 0 rfl rfl 12 (by decide) (hts (.fieldLink RX2 30 "LastPenny$World" "seenWith" "[I") (by decide +kernel)) (fun _ h9 => h9) rfl dX2_become_158 ?_
  refine lv_iconst (v := 0) hx hb dX2_become_161 (by decide) ?_
  refine lv_aload_n hx hb dX2_become_162 rfl (lv_at hl 0 rfl) ?_
  refine va_get (D := D) (ci := 2) (v := .int (w18 0 5)) (C := RX2) (T := TX2) (N := 13) hx hb hts hi2 hown hK.1 hP 0 rfl rfl 5 (by decide) (hts (.fieldLink RX2 49 "LastPenny$World" "seen" "I") (by decide +kernel)) (fun _ h9 => h9) rfl dX2_become_163 ?_
  obtain ⟨hc19, h⟩ := h
  refine va_copyi (ty := .int) hx hb (by rw [hml]; exact hl.1.symm) hown (hts (.methodLink RX2 52 arraycopyName) (by decide +kernel)) (hts (.native arraycopyName) (by decide +kernel)) (hts (.static arraycopyName) (by decide +kernel)) (hts (.initialized "java/lang/System") (by decide +kernel)) hK.1 hP hD hS 15 7 0 0 rfl rfl rfl rfl rfl (by decide) (by decide) hc19.1 (by rw [sb_cl0, Nat.zero_add]; exact hc19.2) (by rw [sb_cl0, Nat.zero_add]; exact hc19.2) (fun _ _ => rfl) (Nat.le_of_ble_eq_true rfl) (Nat.le_of_ble_eq_true rfl) dX2_become_166 (fun H locs hP hD hS => ?_)
  obtain ⟨w20, ew20⟩ : ∃ z, z = (va_up w18 7 (va_cpy (v 7) (w18 7) (0 : Int32).toNatClampNeg (0 : Int32).toNatClampNeg (w18 0 5).toNatClampNeg)) := ⟨_, rfl⟩
  have h := nm_out h w20 ew20
  have hP : va_P D vwCl (cWl kc a w20 ++ cWl kc b v) H := q_to hP (by subst ew20; rfl)
  have hD : va_D A (cWl kc a w20 ++ cWl kc b v) := q_toD hD (by subst ew20; rfl)
  exact hret (w20, v) H locs ls _ h hP hD hS dX2_become_169

def w_X2_addSeen (p1 : Int32) (p2 : Int32) (w : S2) (K : Int32 → S2 → Prop) : Prop := br ((w 0 5) < 6) (vp_in (w 0 5) 6 ∧ (nm ((va_up w 6 (upd (w 6) (w 0 5).toNatClampNeg p1)) : S2) (fun w3 => vp_in (w3 0 5) 6 ∧ (nm ((va_up w3 7 (upd (w3 7) (w3 0 5).toNatClampNeg p2)) : S2) (fun w5 => nm ((va_up w5 0 (upd (w5 0) 5 ((w5 0 5) + 1))) : S2) (fun w6 => K 1 w6)))))) (K 0 w)
abbrev rm_X2_addSeen : Room := { frames := 0, cells := 0, slots := 0, locals := 0 }
set_option maxHeartbeats 4000000 in
set_option maxRecDepth 100000 in
theorem c_X2_addSeen (l : Launch) (D : va_G) (kc : Nat → ClassId) (a : Nat → Nat) (p1 : Int32) (p2 : Int32) (w : S2) (sz : Nat) (K : Int32 → S2 → Prop) (h : w_X2_addSeen p1 p2 w K) : MetI l yX2_addSeen wsX2_addSeen rm_X2_addSeen D kc (fun u : S2 => cWl kc a u) w [.ref (a 0), .int p1, .int p2] sz (fun r u => K r u) := by
  refine q_ez (code := cX2_addSeen) (maxL := 3) (by decide) rfl (Nat.le_of_ble_eq_true rfl) ?_
  intro p e s m args below meth c Q A hx hb hml hts hown hK hA hret ls hl hP hD hS
  have hown : s.vm.findClass RX2 = some m.cls := hown
  have hl : lv_has ls 3 [(0, .ref (a 0)), (1, .int p1), (2, .int p2)] := hl
  have hP : va_P D vwCl (cWl kc a w) s.heap := hP
  have hD : va_D A (cWl kc a w) := hD
  have hS : va_S A s.heap s.heap [] := hS
  obtain ⟨H, eH⟩ : ∃ z, z = s.heap := ⟨_, rfl⟩
  obtain ⟨locs, eL⟩ : ∃ z : List Loc, z = [] := ⟨_, rfl⟩
  have hP := q_heap hP eH
  have hS := q_heapS hS eH eL
  refine q_start eH eL ?_
  clear eH eL
  have hi2 : ∀ w ∈ u_ws RX2 TX2 13, w ∈ wsX2_addSeen := by decide +kernel
  unfold w_X2_addSeen at h
  refine lv_aload_n hx hb dX2_addSeen_0 rfl (lv_at hl 0 rfl) ?_
  refine va_get (D := D) (ci := 2) (v := .int (w 0 5)) (C := RX2) (T := TX2) (N := 13) hx hb hts hi2 hown hK.1 hP 0 rfl rfl 5 (by decide) (hts (.fieldLink RX2 49 "LastPenny$World" "seen" "I") (by decide +kernel)) (fun _ h9 => h9) rfl dX2_addSeen_1 ?_
  refine lv_bipush (v := 6) hx hb dX2_addSeen_4 (by decide) ?_
  refine lv_icmp_lt (tgt := 11) hx hb dX2_addSeen_6 (by decide) (fun c1 => ?_) (fun c1 => ?_)
  · have h := br1 h c1
    refine lv_aload_n hx hb dX2_addSeen_11 rfl (lv_at hl 0 rfl) ?_
    refine va_get (D := D) (ci := 2) (v := .ref (a 6)) (C := RX2) (T := TX2) (N := 13) hx hb hts hi2 hown hK.1 hP 0 rfl rfl 11 (by decide) (hts (.fieldLink RX2 27 "LastPenny$World" "seenBehind" "[I") (by decide +kernel)) (fun _ h9 => h9) rfl dX2_addSeen_12 ?_
    refine lv_aload_n hx hb dX2_addSeen_15 rfl (lv_at hl 0 rfl) ?_
    refine va_get (D := D) (ci := 2) (v := .int (w 0 5)) (C := RX2) (T := TX2) (N := 13) hx hb hts hi2 hown hK.1 hP 0 rfl rfl 5 (by decide) (hts (.fieldLink RX2 49 "LastPenny$World" "seen" "I") (by decide +kernel)) (fun _ h9 => h9) rfl dX2_addSeen_16 ?_
    refine lv_iload_n hx hb dX2_addSeen_19 rfl (lv_at hl 1 rfl) ?_
    obtain ⟨hi_2, h⟩ := h
    refine va_iast hx hb hK.1 hP hD hS 6 0 rfl rfl hi_2 dX2_addSeen_20 (fun H locs hP hD hS => ?_)
    obtain ⟨w3, ew3⟩ : ∃ z, z = (va_up w 6 (upd (w 6) (w 0 5).toNatClampNeg p1)) := ⟨_, rfl⟩
    have h := nm_out h w3 ew3
    have hP : va_P D vwCl (cWl kc a w3) H := q_to hP (by subst ew3; rfl)
    have hD : va_D A (cWl kc a w3) := q_toD hD (by subst ew3; rfl)
    refine lv_aload_n hx hb dX2_addSeen_21 rfl (lv_at hl 0 rfl) ?_
    refine va_get (D := D) (ci := 2) (v := .ref (a 7)) (C := RX2) (T := TX2) (N := 13) hx hb hts hi2 hown hK.1 hP 0 rfl rfl 12 (by decide) (hts (.fieldLink RX2 30 "LastPenny$World" "seenWith" "[I") (by decide +kernel)) (fun _ h9 => h9) rfl dX2_addSeen_22 ?_
    refine lv_aload_n hx hb dX2_addSeen_25 rfl (lv_at hl 0 rfl) ?_
    refine va_get (D := D) (ci := 2) (v := .int (w3 0 5)) (C := RX2) (T := TX2) (N := 13) hx hb hts hi2 hown hK.1 hP 0 rfl rfl 5 (by decide) (hts (.fieldLink RX2 49 "LastPenny$World" "seen" "I") (by decide +kernel)) (fun _ h9 => h9) rfl dX2_addSeen_26 ?_
    refine lv_iload_n hx hb dX2_addSeen_29 rfl (lv_at hl 2 rfl) ?_
    obtain ⟨hi_4, h⟩ := h
    refine va_iast hx hb hK.1 hP hD hS 7 0 rfl rfl hi_4 dX2_addSeen_30 (fun H locs hP hD hS => ?_)
    obtain ⟨w5, ew5⟩ : ∃ z, z = (va_up w3 7 (upd (w3 7) (w3 0 5).toNatClampNeg p2)) := ⟨_, rfl⟩
    have h := nm_out h w5 ew5
    have hP : va_P D vwCl (cWl kc a w5) H := q_to hP (by subst ew5; rfl)
    have hD : va_D A (cWl kc a w5) := q_toD hD (by subst ew5; rfl)
    refine lv_aload_n hx hb dX2_addSeen_31 rfl (lv_at hl 0 rfl) ?_
    refine lv_dup hx hb dX2_addSeen_32 rfl ?_
    refine va_get (D := D) (ci := 2) (v := .int (w5 0 5)) (C := RX2) (T := TX2) (N := 13) hx hb hts hi2 hown hK.1 hP 0 rfl rfl 5 (by decide) (hts (.fieldLink RX2 49 "LastPenny$World" "seen" "I") (by decide +kernel)) (fun _ h9 => h9) rfl dX2_addSeen_33 ?_
    refine lv_iconst (v := 1) hx hb dX2_addSeen_36 (by decide) ?_
    refine lv_iadd hx hb dX2_addSeen_37 ?_
    refine va_put (D := D) (ci := 2) (v := .int ((w5 0 5) + 1)) (ty := .int) (C := RX2) (T := TX2) (N := 13) hx hb hts hi2 tyX2 tyX2_ok nmX2 hown hK.1 hP hD hS 0 rfl rfl 5 (by decide) (hts (.fieldLink RX2 49 "LastPenny$World" "seen" "I") (by decide +kernel)) (fun _ h9 => h9) rfl (by decide +kernel) rfl rfl (Nat.le_of_ble_eq_true rfl) dX2_addSeen_38 (fun H locs hP hD hS => ?_)
    obtain ⟨w6, ew6⟩ : ∃ z, z = (va_up w5 0 (upd (w5 0) 5 ((w5 0 5) + 1))) := ⟨_, rfl⟩
    have h := nm_out h w6 ew6
    have hP : va_P D vwCl (cWl kc a w6) H := q_to hP (by subst ew6; rfl)
    have hD : va_D A (cWl kc a w6) := q_toD hD (by subst ew6; rfl)
    refine lv_iconst (v := 1) hx hb dX2_addSeen_41 (by decide) ?_
    exact hret 1 w6 H locs ls _ rfl h hP hD hS dX2_addSeen_42
  · have h := br2 h c1
    refine lv_iconst (v := 0) hx hb dX2_addSeen_9 (by decide) ?_
    exact hret 0 w H locs ls _ rfl h hP hD hS dX2_addSeen_10

def w_X2_holderOrNone (w : S2) (K : Int32 → S2 → Prop) : Prop := br ((w 0 0) = 0) (K (-4) w) (K (w 0 3) w)
abbrev rm_X2_holderOrNone : Room := { frames := 0, cells := 0, slots := 0, locals := 0 }
set_option maxHeartbeats 4000000 in
set_option maxRecDepth 100000 in
theorem c_X2_holderOrNone (l : Launch) (D : va_G) (kc : Nat → ClassId) (a : Nat → Nat) (w : S2) (sz : Nat) (K : Int32 → S2 → Prop) (h : w_X2_holderOrNone w K) : MetI l yX2_holderOrNone wsX2_holderOrNone rm_X2_holderOrNone D kc (fun u : S2 => cWl kc a u) w [.ref (a 0)] sz (fun r u => K r u) := by
  refine q_ei (code := cX2_holderOrNone) (maxL := 1) (by decide) rfl (Nat.le_of_ble_eq_true rfl) ?_
  intro p e s m args below meth c Q A hx hb hml hts hown hK hA hret ls hl hP hD hS
  have hown : s.vm.findClass RX2 = some m.cls := hown
  have hl : lv_has ls 1 [(0, .ref (a 0))] := hl
  have hP : va_P D vwCl (cWl kc a w) s.heap := hP
  have hD : va_D A (cWl kc a w) := hD
  have hS : va_S A s.heap s.heap [] := hS
  obtain ⟨H, eH⟩ : ∃ z, z = s.heap := ⟨_, rfl⟩
  obtain ⟨locs, eL⟩ : ∃ z : List Loc, z = [] := ⟨_, rfl⟩
  have hP := q_heap hP eH
  have hS := q_heapS hS eH eL
  refine q_start eH eL ?_
  clear eH eL
  have hi2 : ∀ w ∈ u_ws RX2 TX2 13, w ∈ wsX2_holderOrNone := by decide +kernel
  unfold w_X2_holderOrNone at h
  refine lv_aload_n hx hb dX2_holderOrNone_0 rfl (lv_at hl 0 rfl) ?_
  refine va_get (D := D) (ci := 2) (v := .int (w 0 0)) (C := RX2) (T := TX2) (N := 13) hx hb hts hi2 hown hK.1 hP 0 rfl rfl 0 (by decide) (hts (.fieldLink RX2 33 "LastPenny$World" "people" "I") (by decide +kernel)) (fun _ h9 => h9) rfl dX2_holderOrNone_1 ?_
  refine lv_if_ne (tgt := 12) hx hb dX2_holderOrNone_4 (by decide) (fun c1 => ?_) (fun c1 => ?_)
  · have h := br2 h c1
    refine lv_aload_n hx hb dX2_holderOrNone_12 rfl (lv_at hl 0 rfl) ?_
    refine va_get (D := D) (ci := 2) (v := .int (w 0 3)) (C := RX2) (T := TX2) (N := 13) hx hb hts hi2 hown hK.1 hP 0 rfl rfl 3 (by decide) (hts (.fieldLink RX2 43 "LastPenny$World" "holder" "I") (by decide +kernel)) (fun _ h9 => h9) rfl dX2_holderOrNone_13 ?_
    exact hret (w 0 3) w H locs ls _ h hP hD hS dX2_holderOrNone_16
  · have h := br1 h c1
    refine lv_bipush (v := -4) hx hb dX2_holderOrNone_7 (by decide) ?_
    refine lv_goto (tgt := 16) hx hb dX2_holderOrNone_9 (by decide) ?_
    exact hret (-4) w H locs ls _ h hP hD hS dX2_holderOrNone_16

def w_X2_meansOfAll (w : S2) (K : Int32 → S2 → Prop) : Prop := lfp2 (fun G4 (i1 : Int32) (i2 : Int32) => br ((w 0 0) ≤ i2) (K i1 w) (vp_in i2 5 ∧ (nm ((i1 + (w 2 i2.toNatClampNeg)) : Int32) (fun x5 => nm (i2 + 1 : Int32) (fun x6 => G4 x5 x6))))) 0 0
abbrev rm_X2_meansOfAll : Room := { frames := 0, cells := 0, slots := 0, locals := 0 }
set_option maxHeartbeats 4000000 in
set_option maxRecDepth 100000 in
theorem c_X2_meansOfAll (l : Launch) (D : va_G) (kc : Nat → ClassId) (a : Nat → Nat) (w : S2) (sz : Nat) (K : Int32 → S2 → Prop) (h : w_X2_meansOfAll w K) : MetI l yX2_meansOfAll wsX2_meansOfAll rm_X2_meansOfAll D kc (fun u : S2 => cWl kc a u) w [.ref (a 0)] sz (fun r u => K r u) := by
  refine q_ei (code := cX2_meansOfAll) (maxL := 3) (by decide) rfl (Nat.le_of_ble_eq_true rfl) ?_
  intro p e s m args below meth c Q A hx hb hml hts hown hK hA hret ls hl hP hD hS
  have hown : s.vm.findClass RX2 = some m.cls := hown
  have hl : lv_has ls 3 [(0, .ref (a 0))] := hl
  have hP : va_P D vwCl (cWl kc a w) s.heap := hP
  have hD : va_D A (cWl kc a w) := hD
  have hS : va_S A s.heap s.heap [] := hS
  obtain ⟨H, eH⟩ : ∃ z, z = s.heap := ⟨_, rfl⟩
  obtain ⟨locs, eL⟩ : ∃ z : List Loc, z = [] := ⟨_, rfl⟩
  have hP := q_heap hP eH
  have hS := q_heapS hS eH eL
  refine q_start eH eL ?_
  clear eH eL
  have hi2 : ∀ w ∈ u_ws RX2 TX2 13, w ∈ wsX2_meansOfAll := by decide +kernel
  unfold w_X2_meansOfAll at h
  refine lv_iconst (v := 0) hx hb dX2_meansOfAll_0 (by decide) ?_
  refine lv_istore_n (lv' := [(1, .int 0), (0, .ref (a 0))]) hx hb dX2_meansOfAll_1 rfl hl (by decide) rfl (fun ls hl => ?_)
  refine lv_iconst (v := 0) hx hb dX2_meansOfAll_2 (by decide) ?_
  refine lv_istore_n (lv' := [(2, .int 0), (1, .int 0), (0, .ref (a 0))]) hx hb dX2_meansOfAll_3 rfl hl (by decide) rfl (fun ls hl => ?_)
  refine h (fun (i1 : Int32) (i2 : Int32) => ∀ (ls : Array Slot), lv_has ls 3 [(0, .ref (a 0)), (1, .int i1), (2, .int i2)] → W p l e rm_X2_meansOfAll s m args below meth c H locs 0 0 Q (F0 m 4 ls [])) ?_ ls (lv_sub hl [2, 1, 0] rfl)
  intro i1 i2 h ls hl
  refine lv_iload_n hx hb dX2_meansOfAll_4 rfl (lv_at hl 2 rfl) ?_
  refine lv_aload_n hx hb dX2_meansOfAll_5 rfl (lv_at hl 0 rfl) ?_
  refine va_get (D := D) (ci := 2) (v := .int (w 0 0)) (C := RX2) (T := TX2) (N := 13) hx hb hts hi2 hown hK.1 hP 0 rfl rfl 0 (by decide) (hts (.fieldLink RX2 33 "LastPenny$World" "people" "I") (by decide +kernel)) (fun _ h9 => h9) rfl dX2_meansOfAll_6 ?_
  refine lv_icmp_ge (tgt := 27) hx hb dX2_meansOfAll_9 (by decide) (fun c3 => ?_) (fun c3 => ?_)
  · have h := br1 h c3
    refine lv_iload_n hx hb dX2_meansOfAll_27 rfl (lv_at hl 1 rfl) ?_
    exact hret i1 w H locs ls _ h hP hD hS dX2_meansOfAll_28
  · have h := br2 h c3
    refine lv_iload_n hx hb dX2_meansOfAll_12 rfl (lv_at hl 1 rfl) ?_
    refine lv_aload_n hx hb dX2_meansOfAll_13 rfl (lv_at hl 0 rfl) ?_
    refine va_get (D := D) (ci := 2) (v := .ref (a 2)) (C := RX2) (T := TX2) (N := 13) hx hb hts hi2 hown hK.1 hP 0 rfl rfl 7 (by decide) (hts (.fieldLink RX2 15 "LastPenny$World" "meansOf" "[I") (by decide +kernel)) (fun _ h9 => h9) rfl dX2_meansOfAll_14 ?_
    refine lv_iload_n hx hb dX2_meansOfAll_17 rfl (lv_at hl 2 rfl) ?_
    obtain ⟨hi_4, h⟩ := h
    refine va_iald hx hb hK.1 hP 2 0 rfl rfl hi_4 dX2_meansOfAll_18 ?_
    refine lv_iadd hx hb dX2_meansOfAll_19 ?_
    refine lv_topi (fun x5 ex5 => ?_)
    have h := nm_out h x5 ex5
    refine lv_istore_n (lv' := [(1, .int x5), (0, .ref (a 0)), (2, .int i2)]) hx hb dX2_meansOfAll_20 rfl hl (by decide) rfl (fun ls hl => ?_)
    obtain ⟨x6, ex6⟩ : ∃ z : Int32, z = i2 + 1 := ⟨_, rfl⟩
    have h := nm_out h x6 ex6
    refine lv_iinc (v := x6) (lv' := [(2, .int x6), (1, .int x5), (0, .ref (a 0))]) hx hb dX2_meansOfAll_21 hl (k := 2) rfl (by rw [ex6]; rfl) (by decide) rfl (fun ls hl => ?_)
    refine lv_goto (tgt := 4) hx hb dX2_meansOfAll_24 (by decide) ?_
    exact h ls (lv_sub hl [2, 1, 0] rfl)

def w_X2_keptByAll (w : S2) (K : Int32 → S2 → Prop) : Prop := lfp2 (fun G4 (i1 : Int32) (i2 : Int32) => br ((w 0 0) ≤ i2) (K i1 w) (vp_in i2 5 ∧ (nm ((i1 + (w 4 i2.toNatClampNeg)) : Int32) (fun x5 => nm (i2 + 1 : Int32) (fun x6 => G4 x5 x6))))) 0 0
abbrev rm_X2_keptByAll : Room := { frames := 0, cells := 0, slots := 0, locals := 0 }
set_option maxHeartbeats 4000000 in
set_option maxRecDepth 100000 in
theorem c_X2_keptByAll (l : Launch) (D : va_G) (kc : Nat → ClassId) (a : Nat → Nat) (w : S2) (sz : Nat) (K : Int32 → S2 → Prop) (h : w_X2_keptByAll w K) : MetI l yX2_keptByAll wsX2_keptByAll rm_X2_keptByAll D kc (fun u : S2 => cWl kc a u) w [.ref (a 0)] sz (fun r u => K r u) := by
  refine q_ei (code := cX2_keptByAll) (maxL := 3) (by decide) rfl (Nat.le_of_ble_eq_true rfl) ?_
  intro p e s m args below meth c Q A hx hb hml hts hown hK hA hret ls hl hP hD hS
  have hown : s.vm.findClass RX2 = some m.cls := hown
  have hl : lv_has ls 3 [(0, .ref (a 0))] := hl
  have hP : va_P D vwCl (cWl kc a w) s.heap := hP
  have hD : va_D A (cWl kc a w) := hD
  have hS : va_S A s.heap s.heap [] := hS
  obtain ⟨H, eH⟩ : ∃ z, z = s.heap := ⟨_, rfl⟩
  obtain ⟨locs, eL⟩ : ∃ z : List Loc, z = [] := ⟨_, rfl⟩
  have hP := q_heap hP eH
  have hS := q_heapS hS eH eL
  refine q_start eH eL ?_
  clear eH eL
  have hi2 : ∀ w ∈ u_ws RX2 TX2 13, w ∈ wsX2_keptByAll := by decide +kernel
  unfold w_X2_keptByAll at h
  refine lv_iconst (v := 0) hx hb dX2_keptByAll_0 (by decide) ?_
  refine lv_istore_n (lv' := [(1, .int 0), (0, .ref (a 0))]) hx hb dX2_keptByAll_1 rfl hl (by decide) rfl (fun ls hl => ?_)
  refine lv_iconst (v := 0) hx hb dX2_keptByAll_2 (by decide) ?_
  refine lv_istore_n (lv' := [(2, .int 0), (1, .int 0), (0, .ref (a 0))]) hx hb dX2_keptByAll_3 rfl hl (by decide) rfl (fun ls hl => ?_)
  refine h (fun (i1 : Int32) (i2 : Int32) => ∀ (ls : Array Slot), lv_has ls 3 [(0, .ref (a 0)), (1, .int i1), (2, .int i2)] → W p l e rm_X2_keptByAll s m args below meth c H locs 0 0 Q (F0 m 4 ls [])) ?_ ls (lv_sub hl [2, 1, 0] rfl)
  intro i1 i2 h ls hl
  refine lv_iload_n hx hb dX2_keptByAll_4 rfl (lv_at hl 2 rfl) ?_
  refine lv_aload_n hx hb dX2_keptByAll_5 rfl (lv_at hl 0 rfl) ?_
  refine va_get (D := D) (ci := 2) (v := .int (w 0 0)) (C := RX2) (T := TX2) (N := 13) hx hb hts hi2 hown hK.1 hP 0 rfl rfl 0 (by decide) (hts (.fieldLink RX2 33 "LastPenny$World" "people" "I") (by decide +kernel)) (fun _ h9 => h9) rfl dX2_keptByAll_6 ?_
  refine lv_icmp_ge (tgt := 27) hx hb dX2_keptByAll_9 (by decide) (fun c3 => ?_) (fun c3 => ?_)
  · have h := br1 h c3
    refine lv_iload_n hx hb dX2_keptByAll_27 rfl (lv_at hl 1 rfl) ?_
    exact hret i1 w H locs ls _ h hP hD hS dX2_keptByAll_28
  · have h := br2 h c3
    refine lv_iload_n hx hb dX2_keptByAll_12 rfl (lv_at hl 1 rfl) ?_
    refine lv_aload_n hx hb dX2_keptByAll_13 rfl (lv_at hl 0 rfl) ?_
    refine va_get (D := D) (ci := 2) (v := .ref (a 4)) (C := RX2) (T := TX2) (N := 13) hx hb hts hi2 hown hK.1 hP 0 rfl rfl 9 (by decide) (hts (.fieldLink RX2 21 "LastPenny$World" "keptOf" "[I") (by decide +kernel)) (fun _ h9 => h9) rfl dX2_keptByAll_14 ?_
    refine lv_iload_n hx hb dX2_keptByAll_17 rfl (lv_at hl 2 rfl) ?_
    obtain ⟨hi_4, h⟩ := h
    refine va_iald hx hb hK.1 hP 4 0 rfl rfl hi_4 dX2_keptByAll_18 ?_
    refine lv_iadd hx hb dX2_keptByAll_19 ?_
    refine lv_topi (fun x5 ex5 => ?_)
    have h := nm_out h x5 ex5
    refine lv_istore_n (lv' := [(1, .int x5), (0, .ref (a 0)), (2, .int i2)]) hx hb dX2_keptByAll_20 rfl hl (by decide) rfl (fun ls hl => ?_)
    obtain ⟨x6, ex6⟩ : ∃ z : Int32, z = i2 + 1 := ⟨_, rfl⟩
    have h := nm_out h x6 ex6
    refine lv_iinc (v := x6) (lv' := [(2, .int x6), (1, .int x5), (0, .ref (a 0))]) hx hb dX2_keptByAll_21 hl (k := 2) rfl (by rw [ex6]; rfl) (by decide) rfl (fun ls hl => ?_)
    refine lv_goto (tgt := 4) hx hb dX2_keptByAll_24 (by decide) ?_
    exact h ls (lv_sub hl [2, 1, 0] rfl)

def w_X2_isRuined (p1 : Int32) (w : S2) (K : Int32 → S2 → Prop) : Prop := vp_in p1 5 ∧ (br ((w 2 p1.toNatClampNeg) = 0) (K 1 w) (K 0 w))
abbrev rm_X2_isRuined : Room := { frames := 0, cells := 0, slots := 0, locals := 0 }
set_option maxHeartbeats 4000000 in
set_option maxRecDepth 100000 in
theorem c_X2_isRuined (l : Launch) (D : va_G) (kc : Nat → ClassId) (a : Nat → Nat) (p1 : Int32) (w : S2) (sz : Nat) (K : Int32 → S2 → Prop) (h : w_X2_isRuined p1 w K) : MetI l yX2_isRuined wsX2_isRuined rm_X2_isRuined D kc (fun u : S2 => cWl kc a u) w [.ref (a 0), .int p1] sz (fun r u => K r u) := by
  refine q_ez (code := cX2_isRuined) (maxL := 2) (by decide) rfl (Nat.le_of_ble_eq_true rfl) ?_
  intro p e s m args below meth c Q A hx hb hml hts hown hK hA hret ls hl hP hD hS
  have hown : s.vm.findClass RX2 = some m.cls := hown
  have hl : lv_has ls 2 [(0, .ref (a 0)), (1, .int p1)] := hl
  have hP : va_P D vwCl (cWl kc a w) s.heap := hP
  have hD : va_D A (cWl kc a w) := hD
  have hS : va_S A s.heap s.heap [] := hS
  obtain ⟨H, eH⟩ : ∃ z, z = s.heap := ⟨_, rfl⟩
  obtain ⟨locs, eL⟩ : ∃ z : List Loc, z = [] := ⟨_, rfl⟩
  have hP := q_heap hP eH
  have hS := q_heapS hS eH eL
  refine q_start eH eL ?_
  clear eH eL
  have hi2 : ∀ w ∈ u_ws RX2 TX2 13, w ∈ wsX2_isRuined := by decide +kernel
  unfold w_X2_isRuined at h
  refine lv_aload_n hx hb dX2_isRuined_0 rfl (lv_at hl 0 rfl) ?_
  refine va_get (D := D) (ci := 2) (v := .ref (a 2)) (C := RX2) (T := TX2) (N := 13) hx hb hts hi2 hown hK.1 hP 0 rfl rfl 7 (by decide) (hts (.fieldLink RX2 15 "LastPenny$World" "meansOf" "[I") (by decide +kernel)) (fun _ h9 => h9) rfl dX2_isRuined_1 ?_
  refine lv_iload_n hx hb dX2_isRuined_4 rfl (lv_at hl 1 rfl) ?_
  obtain ⟨hi_1, h⟩ := h
  refine va_iald hx hb hK.1 hP 2 0 rfl rfl hi_1 dX2_isRuined_5 ?_
  refine lv_if_ne (tgt := 13) hx hb dX2_isRuined_6 (by decide) (fun c2 => ?_) (fun c2 => ?_)
  · have h := br2 h c2
    refine lv_iconst (v := 0) hx hb dX2_isRuined_13 (by decide) ?_
    exact hret 0 w H locs ls _ rfl h hP hD hS dX2_isRuined_14
  · have h := br1 h c2
    refine lv_iconst (v := 1) hx hb dX2_isRuined_9 (by decide) ?_
    refine lv_goto (tgt := 14) hx hb dX2_isRuined_10 (by decide) ?_
    exact hret 1 w H locs ls _ rfl h hP hD hS dX2_isRuined_14

def w_X2_ruinedBits (w : S2) (K : Int32 → S2 → Prop) : Prop := lfp3 (fun G4 (i1 : Int32) (i2 : Int32) (w3 : S2) => br ((w3 0 0) ≤ i2) (K i1 w3) (w_X2_isRuined i2 w3 (fun r6 w5 => jn (fun (i8 : Int32) => nm (i2 + 1 : Int32) (fun x9 => G4 i8 x9 w5)) (fun J26 => br (r6 = 0) (J26 i1) (nm ((i1 ||| (1 <<< (i2 &&& 31))) : Int32) (fun x11 => J26 x11)))))) 0 0 w
abbrev rm_X2_ruinedBits : Room := { frames := 1, cells := 0, slots := 0, locals := 21 }
set_option maxHeartbeats 4000000 in
set_option maxRecDepth 100000 in
theorem c_X2_ruinedBits (l : Launch) (D : va_G) (kc : Nat → ClassId) (a : Nat → Nat) (w : S2) (sz : Nat) (K : Int32 → S2 → Prop) (h : w_X2_ruinedBits w K) : MetI l yX2_ruinedBits wsX2_ruinedBits rm_X2_ruinedBits D kc (fun u : S2 => cWl kc a u) w [.ref (a 0)] sz (fun r u => K r u) := by
  refine q_ei (code := cX2_ruinedBits) (maxL := 3) (by decide) rfl (Nat.le_of_ble_eq_true rfl) ?_
  intro p e s m args below meth c Q A hx hb hml hts hown hK hA hret ls hl hP hD hS
  have hown : s.vm.findClass RX2 = some m.cls := hown
  have hl : lv_has ls 3 [(0, .ref (a 0))] := hl
  have hP : va_P D vwCl (cWl kc a w) s.heap := hP
  have hD : va_D A (cWl kc a w) := hD
  have hS : va_S A s.heap s.heap [] := hS
  obtain ⟨H, eH⟩ : ∃ z, z = s.heap := ⟨_, rfl⟩
  obtain ⟨locs, eL⟩ : ∃ z : List Loc, z = [] := ⟨_, rfl⟩
  have hP := q_heap hP eH
  have hS := q_heapS hS eH eL
  refine q_start eH eL ?_
  clear eH eL
  have hi2 : ∀ w ∈ u_ws RX2 TX2 13, w ∈ wsX2_ruinedBits := by decide +kernel
  unfold w_X2_ruinedBits at h
  refine lv_iconst (v := 0) hx hb dX2_ruinedBits_0 (by decide) ?_
  refine lv_istore_n (lv' := [(1, .int 0), (0, .ref (a 0))]) hx hb dX2_ruinedBits_1 rfl hl (by decide) rfl (fun ls hl => ?_)
  refine lv_iconst (v := 0) hx hb dX2_ruinedBits_2 (by decide) ?_
  refine lv_istore_n (lv' := [(2, .int 0), (1, .int 0), (0, .ref (a 0))]) hx hb dX2_ruinedBits_3 rfl hl (by decide) rfl (fun ls hl => ?_)
  refine h (fun (i1 : Int32) (i2 : Int32) (w3 : S2) => ∀ (ls : Array Slot) (H : Heap) (locs : List Loc), lv_has ls 3 [(0, .ref (a 0)), (1, .int i1), (2, .int i2)] → va_P D vwCl (cWl kc a w3) H → va_D A (cWl kc a w3) → va_S A s.heap H locs → W p l e rm_X2_ruinedBits s m args below meth c H locs 0 0 Q (F0 m 4 ls [])) ?_ ls H locs (lv_sub hl [2, 1, 0] rfl) hP hD hS
  intro i1 i2 w3 h ls H locs hl hP hD hS
  refine lv_iload_n hx hb dX2_ruinedBits_4 rfl (lv_at hl 2 rfl) ?_
  refine lv_aload_n hx hb dX2_ruinedBits_5 rfl (lv_at hl 0 rfl) ?_
  refine va_get (D := D) (ci := 2) (v := .int (w3 0 0)) (C := RX2) (T := TX2) (N := 13) hx hb hts hi2 hown hK.1 hP 0 rfl rfl 0 (by decide) (hts (.fieldLink RX2 33 "LastPenny$World" "people" "I") (by decide +kernel)) (fun _ h9 => h9) rfl dX2_ruinedBits_6 ?_
  refine lv_icmp_ge (tgt := 32) hx hb dX2_ruinedBits_9 (by decide) (fun c4 => ?_) (fun c4 => ?_)
  · have h := br1 h c4
    refine lv_iload_n hx hb dX2_ruinedBits_32 rfl (lv_at hl 1 rfl) ?_
    exact hret i1 w3 H locs ls _ h hP hD hS dX2_ruinedBits_33
  · have h := br2 h c4
    refine lv_aload_n hx hb dX2_ruinedBits_12 rfl (lv_at hl 0 rfl) ?_
    refine lv_iload_n hx hb dX2_ruinedBits_13 rfl (lv_at hl 2 rfl) ?_
    refine q_cVi (As := [.int i2]) (rest := []) ⟨hx, hb, hml, hown, hts⟩ hK (c_X2_isRuined l D kc a i2 w3 H.size _ h) (cwV 1 hts gX2_ruinedBits_X2_isRuined rfl rfl rfl (by decide +kernel) ⟨Nat.le_of_ble_eq_true rfl, Nat.le_of_ble_eq_true rfl⟩) (cut_same (fun u : S2 => cWl kc a u) w3) hP hD hS hA 2 0 rfl rfl rfl hl.1 rfl (Nat.le_of_ble_eq_true rfl) dX2_ruinedBits_14 ⟨Nat.zero_le _, Nat.zero_le _⟩ (fun r6 u7 H locs h hP hD hS => ?_)
    obtain ⟨w5, rfl⟩ : ∃ z, z = u7 := ⟨_, rfl⟩
    have hP : va_P D vwCl (cWl kc a w5) H := hP
    have hD : va_D A (cWl kc a w5) := hD
    refine jn_elim h (fun J26 eJ26 h => ?_)
    have hJ_26 : ∀ (i8 : Int32) (ls : Array Slot), J26 i8 → lv_has ls 3 [(0, .ref (a 0)), (1, .int i8), (2, .int i2)] → W p l e rm_X2_ruinedBits s m args below meth c H locs 0 0 Q (F0 m 26 ls []) := by
      intro i8 ls h hl
      subst eJ26
      obtain ⟨x9, ex9⟩ : ∃ z : Int32, z = i2 + 1 := ⟨_, rfl⟩
      have h := nm_out h x9 ex9
      refine lv_iinc (v := x9) (lv' := [(2, .int x9), (0, .ref (a 0)), (1, .int i8)]) hx hb dX2_ruinedBits_26 hl (k := 2) rfl (by rw [ex9]; rfl) (by decide) rfl (fun ls hl => ?_)
      refine lv_goto (tgt := 4) hx hb dX2_ruinedBits_29 (by decide) ?_
      exact h ls H locs (lv_sub hl [1, 2, 0] rfl) hP hD hS
    refine lv_if_eq (tgt := 26) hx hb dX2_ruinedBits_17 (by decide) (fun c10 => ?_) (fun c10 => ?_)
    · have h := br1 h c10
      exact hJ_26 i1 ls h (lv_sub hl [0, 1, 2] rfl)
    · have h := br2 h c10
      refine lv_iload_n hx hb dX2_ruinedBits_20 rfl (lv_at hl 1 rfl) ?_
      refine lv_iconst (v := 1) hx hb dX2_ruinedBits_21 (by decide) ?_
      refine lv_iload_n hx hb dX2_ruinedBits_22 rfl (lv_at hl 2 rfl) ?_
      refine lv_ishl hx hb dX2_ruinedBits_23 ?_
      refine lv_ior hx hb dX2_ruinedBits_24 ?_
      refine lv_topi (fun x11 ex11 => ?_)
      have h := nm_out h x11 ex11
      refine lv_istore_n (lv' := [(1, .int x11), (0, .ref (a 0)), (2, .int i2)]) hx hb dX2_ruinedBits_25 rfl hl (by decide) rfl (fun ls hl => ?_)
      exact hJ_26 x11 ls h (lv_sub hl [1, 0, 2] rfl)

def w_J6_bitCount_0f7a4 (p0 : Int32) (K : Int32 → Prop) : Prop := nm ((p0 - (((p0.toUInt32 >>> ((1 : Int32).toUInt32 &&& Int32.toUInt32 31)).toInt32) &&& 1431655765)) : Int32) (fun x1 => nm (((x1 &&& 858993459) + (((x1.toUInt32 >>> ((2 : Int32).toUInt32 &&& Int32.toUInt32 31)).toInt32) &&& 858993459)) : Int32) (fun x2 => nm (((x2 + ((x2.toUInt32 >>> ((4 : Int32).toUInt32 &&& Int32.toUInt32 31)).toInt32)) &&& 252645135) : Int32) (fun x3 => nm ((x3 + ((x3.toUInt32 >>> ((8 : Int32).toUInt32 &&& Int32.toUInt32 31)).toInt32)) : Int32) (fun x4 => nm ((x4 + ((x4.toUInt32 >>> ((16 : Int32).toUInt32 &&& Int32.toUInt32 31)).toInt32)) : Int32) (fun x5 => K (x5 &&& 63))))))
abbrev rm_J6_bitCount_0f7a4 : Room := { frames := 0, cells := 0, slots := 0, locals := 0 }
set_option maxHeartbeats 4000000 in
set_option maxRecDepth 100000 in
theorem c_J6_bitCount_0f7a4 (l : Launch) (D : va_G) (kc : Nat → ClassId) (p0 : Int32) (sz : Nat) (K : Int32 → Prop) (h : w_J6_bitCount_0f7a4 p0 K) : MetI l yJ6_bitCount_0f7a4 wsJ6_bitCount_0f7a4 rm_J6_bitCount_0f7a4 D kc (fun _ : Unit => []) () [.int p0] sz (fun r _ => K r) := by
  refine q_ei (code := cJ6_bitCount_0f7a4) (maxL := 1) (by decide) rfl (Nat.le_of_ble_eq_true rfl) ?_
  intro p e s m args below meth c Q A hx hb hml hts hown hK hA hret ls hl hP hD hS
  have hown : s.vm.findClass RJ6 = some m.cls := hown
  have hl : lv_has ls 1 [(0, .int p0)] := hl
  have hP : va_P D vwCl [] s.heap := hP
  have hS : va_S A s.heap s.heap [] := hS
  obtain ⟨H, eH⟩ : ∃ z, z = s.heap := ⟨_, rfl⟩
  obtain ⟨locs, eL⟩ : ∃ z : List Loc, z = [] := ⟨_, rfl⟩
  have hP := q_heap hP eH
  have hS := q_heapS hS eH eL
  refine q_start eH eL ?_
  clear eH eL
  unfold w_J6_bitCount_0f7a4 at h
  refine lv_iload_n hx hb dJ6_bitCount_0f7a4_0 rfl (lv_at hl 0 rfl) ?_
  refine lv_iload_n hx hb dJ6_bitCount_0f7a4_1 rfl (lv_at hl 0 rfl) ?_
  refine lv_iconst (v := 1) hx hb dJ6_bitCount_0f7a4_2 (by decide) ?_
  refine lv_iushr hx hb dJ6_bitCount_0f7a4_3 rfl ?_
  refine lv_ldcw (v := 1431655765) hx hb hown (hts (.constant RJ6 265 (1431655765)) (by decide +kernel)) dJ6_bitCount_0f7a4_4 ?_
  refine lv_iand hx hb dJ6_bitCount_0f7a4_7 ?_
  refine lv_isub hx hb dJ6_bitCount_0f7a4_8 ?_
  refine lv_topi (fun x1 ex1 => ?_)
  have h := nm_out h x1 ex1
  refine lv_istore_n (lv' := [(0, .int x1)]) hx hb dJ6_bitCount_0f7a4_9 rfl hl (by decide) rfl (fun ls hl => ?_)
  refine lv_iload_n hx hb dJ6_bitCount_0f7a4_10 rfl (lv_at hl 0 rfl) ?_
  refine lv_ldcw (v := 858993459) hx hb hown (hts (.constant RJ6 266 (858993459)) (by decide +kernel)) dJ6_bitCount_0f7a4_11 ?_
  refine lv_iand hx hb dJ6_bitCount_0f7a4_14 ?_
  refine lv_iload_n hx hb dJ6_bitCount_0f7a4_15 rfl (lv_at hl 0 rfl) ?_
  refine lv_iconst (v := 2) hx hb dJ6_bitCount_0f7a4_16 (by decide) ?_
  refine lv_iushr hx hb dJ6_bitCount_0f7a4_17 rfl ?_
  refine lv_ldcw (v := 858993459) hx hb hown (hts (.constant RJ6 266 (858993459)) (by decide +kernel)) dJ6_bitCount_0f7a4_18 ?_
  refine lv_iand hx hb dJ6_bitCount_0f7a4_21 ?_
  refine lv_iadd hx hb dJ6_bitCount_0f7a4_22 ?_
  refine lv_topi (fun x2 ex2 => ?_)
  have h := nm_out h x2 ex2
  refine lv_istore_n (lv' := [(0, .int x2)]) hx hb dJ6_bitCount_0f7a4_23 rfl hl (by decide) rfl (fun ls hl => ?_)
  refine lv_iload_n hx hb dJ6_bitCount_0f7a4_24 rfl (lv_at hl 0 rfl) ?_
  refine lv_iload_n hx hb dJ6_bitCount_0f7a4_25 rfl (lv_at hl 0 rfl) ?_
  refine lv_iconst (v := 4) hx hb dJ6_bitCount_0f7a4_26 (by decide) ?_
  refine lv_iushr hx hb dJ6_bitCount_0f7a4_27 rfl ?_
  refine lv_iadd hx hb dJ6_bitCount_0f7a4_28 ?_
  refine lv_ldcw (v := 252645135) hx hb hown (hts (.constant RJ6 267 (252645135)) (by decide +kernel)) dJ6_bitCount_0f7a4_29 ?_
  refine lv_iand hx hb dJ6_bitCount_0f7a4_32 ?_
  refine lv_topi (fun x3 ex3 => ?_)
  have h := nm_out h x3 ex3
  refine lv_istore_n (lv' := [(0, .int x3)]) hx hb dJ6_bitCount_0f7a4_33 rfl hl (by decide) rfl (fun ls hl => ?_)
  refine lv_iload_n hx hb dJ6_bitCount_0f7a4_34 rfl (lv_at hl 0 rfl) ?_
  refine lv_iload_n hx hb dJ6_bitCount_0f7a4_35 rfl (lv_at hl 0 rfl) ?_
  refine lv_bipush (v := 8) hx hb dJ6_bitCount_0f7a4_36 (by decide) ?_
  refine lv_iushr hx hb dJ6_bitCount_0f7a4_38 rfl ?_
  refine lv_iadd hx hb dJ6_bitCount_0f7a4_39 ?_
  refine lv_topi (fun x4 ex4 => ?_)
  have h := nm_out h x4 ex4
  refine lv_istore_n (lv' := [(0, .int x4)]) hx hb dJ6_bitCount_0f7a4_40 rfl hl (by decide) rfl (fun ls hl => ?_)
  refine lv_iload_n hx hb dJ6_bitCount_0f7a4_41 rfl (lv_at hl 0 rfl) ?_
  refine lv_iload_n hx hb dJ6_bitCount_0f7a4_42 rfl (lv_at hl 0 rfl) ?_
  refine lv_bipush (v := 16) hx hb dJ6_bitCount_0f7a4_43 (by decide) ?_
  refine lv_iushr hx hb dJ6_bitCount_0f7a4_45 rfl ?_
  refine lv_iadd hx hb dJ6_bitCount_0f7a4_46 ?_
  refine lv_topi (fun x5 ex5 => ?_)
  have h := nm_out h x5 ex5
  refine lv_istore_n (lv' := [(0, .int x5)]) hx hb dJ6_bitCount_0f7a4_47 rfl hl (by decide) rfl (fun ls hl => ?_)
  refine lv_iload_n hx hb dJ6_bitCount_0f7a4_48 rfl (lv_at hl 0 rfl) ?_
  refine lv_bipush (v := 63) hx hb dJ6_bitCount_0f7a4_49 (by decide) ?_
  refine lv_iand hx hb dJ6_bitCount_0f7a4_51 ?_
  exact hret (x5 &&& 63) () H locs ls _ h hP hD hS dJ6_bitCount_0f7a4_52

def w_X2_ruinedCount (w : S2) (K : Int32 → S2 → Prop) : Prop := w_X2_ruinedBits w (fun r2 w1 => w_J6_bitCount_0f7a4 r2 (fun r4 => K r4 w1))
abbrev rm_X2_ruinedCount : Room := { frames := 2, cells := 0, slots := 0, locals := 43 }
set_option maxHeartbeats 4000000 in
set_option maxRecDepth 100000 in
theorem c_X2_ruinedCount (l : Launch) (D : va_G) (kc : Nat → ClassId) (a : Nat → Nat) (w : S2) (sz : Nat) (K : Int32 → S2 → Prop) (h : w_X2_ruinedCount w K) : MetI l yX2_ruinedCount wsX2_ruinedCount rm_X2_ruinedCount D kc (fun u : S2 => cWl kc a u) w [.ref (a 0)] sz (fun r u => K r u) := by
  refine q_ei (code := cX2_ruinedCount) (maxL := 1) (by decide) rfl (Nat.le_of_ble_eq_true rfl) ?_
  intro p e s m args below meth c Q A hx hb hml hts hown hK hA hret ls hl hP hD hS
  have hown : s.vm.findClass RX2 = some m.cls := hown
  have hl : lv_has ls 1 [(0, .ref (a 0))] := hl
  have hP : va_P D vwCl (cWl kc a w) s.heap := hP
  have hD : va_D A (cWl kc a w) := hD
  have hS : va_S A s.heap s.heap [] := hS
  obtain ⟨H, eH⟩ : ∃ z, z = s.heap := ⟨_, rfl⟩
  obtain ⟨locs, eL⟩ : ∃ z : List Loc, z = [] := ⟨_, rfl⟩
  have hP := q_heap hP eH
  have hS := q_heapS hS eH eL
  refine q_start eH eL ?_
  clear eH eL
  unfold w_X2_ruinedCount at h
  refine lv_aload_n hx hb dX2_ruinedCount_0 rfl (lv_at hl 0 rfl) ?_
  refine q_cVi (As := []) (rest := []) ⟨hx, hb, hml, hown, hts⟩ hK (c_X2_ruinedBits l D kc a w H.size _ h) (cwV 0 hts gX2_ruinedCount_X2_ruinedBits rfl rfl rfl (by decide +kernel) ⟨Nat.le_of_ble_eq_true rfl, Nat.le_of_ble_eq_true rfl⟩) (cut_same (fun u : S2 => cWl kc a u) w) hP hD hS hA 2 0 rfl rfl rfl hl.1 rfl (Nat.le_of_ble_eq_true rfl) dX2_ruinedCount_1 ⟨Nat.zero_le _, Nat.zero_le _⟩ (fun r2 u3 H locs h hP hD hS => ?_)
  obtain ⟨w1, rfl⟩ : ∃ z, z = u3 := ⟨_, rfl⟩
  have hP : va_P D vwCl (cWl kc a w1) H := hP
  have hD : va_D A (cWl kc a w1) := hD
  refine q_cSi (As := [.int r2]) (rest := []) ⟨hx, hb, hml, hown, hts⟩ hK (c_J6_bitCount_0f7a4 l D kc r2 H.size _ h) (va_cwS 1 hts gX2_ruinedCount_J6_bitCount_0f7a4 rfl rfl rfl (by decide +kernel) ⟨Nat.le_of_ble_eq_true rfl, Nat.le_of_ble_eq_true rfl⟩) (cut_nil _) hP hD hS hA rfl hl.1 rfl (Nat.le_of_ble_eq_true rfl) dX2_ruinedCount_4 ⟨Nat.zero_le _, Nat.zero_le _⟩ (fun r4 _ H locs h hP hD hS => ?_)
  have hP : va_P D vwCl (cWl kc a w1) H := hP
  have hD : va_D A (cWl kc a w1) := hD
  exact hret r4 w1 H locs ls _ h hP hD hS dX2_ruinedCount_7

def w_X2_tradeBrings (p1 : Int32) (w : S2) (K : Int32 → S2 → Prop) : Prop := vp_in p1 5 ∧ (nm ((((w 3 p1.toNatClampNeg) - 10) - (w 0 2)) : Int32) (fun x2 => vp_in p1 5 ∧ (br ((w 1 p1.toNatClampNeg) = 1) (K (x2 + 1) w) (br ((w 1 p1.toNatClampNeg) = 2) (K ((x2 + 1) / 2) w) (K x2 w)))))
abbrev rm_X2_tradeBrings : Room := { frames := 0, cells := 0, slots := 0, locals := 0 }
set_option maxHeartbeats 4000000 in
set_option maxRecDepth 100000 in
theorem c_X2_tradeBrings (l : Launch) (D : va_G) (kc : Nat → ClassId) (a : Nat → Nat) (p1 : Int32) (w : S2) (sz : Nat) (K : Int32 → S2 → Prop) (h : w_X2_tradeBrings p1 w K) : MetI l yX2_tradeBrings wsX2_tradeBrings rm_X2_tradeBrings D kc (fun u : S2 => cWl kc a u) w [.ref (a 0), .int p1] sz (fun r u => K r u) := by
  refine q_ei (code := cX2_tradeBrings) (maxL := 3) (by decide) rfl (Nat.le_of_ble_eq_true rfl) ?_
  intro p e s m args below meth c Q A hx hb hml hts hown hK hA hret ls hl hP hD hS
  have hown : s.vm.findClass RX2 = some m.cls := hown
  have hl : lv_has ls 3 [(0, .ref (a 0)), (1, .int p1)] := hl
  have hP : va_P D vwCl (cWl kc a w) s.heap := hP
  have hD : va_D A (cWl kc a w) := hD
  have hS : va_S A s.heap s.heap [] := hS
  obtain ⟨H, eH⟩ : ∃ z, z = s.heap := ⟨_, rfl⟩
  obtain ⟨locs, eL⟩ : ∃ z : List Loc, z = [] := ⟨_, rfl⟩
  have hP := q_heap hP eH
  have hS := q_heapS hS eH eL
  refine q_start eH eL ?_
  clear eH eL
  have hi2 : ∀ w ∈ u_ws RX2 TX2 13, w ∈ wsX2_tradeBrings := by decide +kernel
  unfold w_X2_tradeBrings at h
  refine lv_aload_n hx hb dX2_tradeBrings_0 rfl (lv_at hl 0 rfl) ?_
  refine va_get (D := D) (ci := 2) (v := .ref (a 3)) (C := RX2) (T := TX2) (N := 13) hx hb hts hi2 hown hK.1 hP 0 rfl rfl 8 (by decide) (hts (.fieldLink RX2 18 "LastPenny$World" "tradeOf" "[I") (by decide +kernel)) (fun _ h9 => h9) rfl dX2_tradeBrings_1 ?_
  refine lv_iload_n hx hb dX2_tradeBrings_4 rfl (lv_at hl 1 rfl) ?_
  obtain ⟨hi_1, h⟩ := h
  refine va_iald hx hb hK.1 hP 3 0 rfl rfl hi_1 dX2_tradeBrings_5 ?_
  refine lv_bipush (v := 10) hx hb dX2_tradeBrings_6 (by decide) ?_
  refine lv_isub hx hb dX2_tradeBrings_8 ?_
  refine lv_aload_n hx hb dX2_tradeBrings_9 rfl (lv_at hl 0 rfl) ?_
  refine va_get (D := D) (ci := 2) (v := .int (w 0 2)) (C := RX2) (T := TX2) (N := 13) hx hb hts hi2 hown hK.1 hP 0 rfl rfl 2 (by decide) (hts (.fieldLink RX2 40 "LastPenny$World" "slumpNow" "I") (by decide +kernel)) (fun _ h9 => h9) rfl dX2_tradeBrings_10 ?_
  refine lv_isub hx hb dX2_tradeBrings_13 ?_
  refine lv_topi (fun x2 ex2 => ?_)
  have h := nm_out h x2 ex2
  refine lv_istore_n (lv' := [(2, .int x2), (0, .ref (a 0)), (1, .int p1)]) hx hb dX2_tradeBrings_14 rfl hl (by decide) rfl (fun ls hl => ?_)
  refine lv_aload_n hx hb dX2_tradeBrings_15 rfl (lv_at hl 1 rfl) ?_
  refine va_get (D := D) (ci := 2) (v := .ref (a 1)) (C := RX2) (T := TX2) (N := 13) hx hb hts hi2 hown hK.1 hP 0 rfl rfl 6 (by decide) (hts (.fieldLink RX2 9 "LastPenny$World" "kindOf" "[I") (by decide +kernel)) (fun _ h9 => h9) rfl dX2_tradeBrings_16 ?_
  refine lv_iload_n hx hb dX2_tradeBrings_19 rfl (lv_at hl 2 rfl) ?_
  obtain ⟨hi_3, h⟩ := h
  refine va_iald hx hb hK.1 hP 1 0 rfl rfl hi_3 dX2_tradeBrings_20 ?_
  by_cases c4 : (w 1 p1.toNatClampNeg) = 1
  · have h := br1 h c4
    refine lv_lookup (tgt := 48) hx hb dX2_tradeBrings_21 (by decide) (by rw [c4]; all_goals rfl) (by decide) ?_
    refine lv_iload_n hx hb dX2_tradeBrings_48 rfl (lv_at hl 0 rfl) ?_
    refine lv_iconst (v := 1) hx hb dX2_tradeBrings_49 (by decide) ?_
    refine lv_iadd hx hb dX2_tradeBrings_50 ?_
    exact hret (x2 + 1) w H locs ls _ h hP hD hS dX2_tradeBrings_51
  have h := br2 h c4
  by_cases c5 : (w 1 p1.toNatClampNeg) = 2
  · have h := br1 h c5
    refine lv_lookup (tgt := 52) hx hb dX2_tradeBrings_21 (by decide) (by rw [c5]; all_goals rfl) (by decide) ?_
    refine lv_iload_n hx hb dX2_tradeBrings_52 rfl (lv_at hl 0 rfl) ?_
    refine lv_iconst (v := 1) hx hb dX2_tradeBrings_53 (by decide) ?_
    refine lv_iadd hx hb dX2_tradeBrings_54 ?_
    refine lv_iconst (v := 2) hx hb dX2_tradeBrings_55 (by decide) ?_
    refine lv_idiv hx hb dX2_tradeBrings_56 (by decide) ?_
    exact hret ((x2 + 1) / 2) w H locs ls _ h hP hD hS dX2_tradeBrings_57
  have h := br2 h c5
  refine lv_lookup (tgt := 58) hx hb dX2_tradeBrings_21 (by decide) (by show Op.lookupswitch.offset [(1, 27), (2, 31)] 37 _ = 37; rw [lv_osw c4 (by decide)]; rw [lv_osw c5 (by decide)]; all_goals rfl) (by decide) ?_
  refine lv_iload_n hx hb dX2_tradeBrings_58 rfl (lv_at hl 0 rfl) ?_
  exact hret x2 w H locs ls _ h hP hD hS dX2_tradeBrings_59

def w_X2_poorerThan (p1 : Int32) (w : S2) (K : Int32 → S2 → Prop) : Prop := lfp2 (fun G4 (i1 : Int32) (i2 : Int32) => br ((w 0 0) ≤ i2) (K i1 w) (vp_in i2 5 ∧ (vp_in p1 5 ∧ (jn (fun (i6 : Int32) => nm (i2 + 1 : Int32) (fun x7 => G4 i6 x7)) (fun J30 => br ((w 2 p1.toNatClampNeg) ≤ (w 2 i2.toNatClampNeg)) (J30 i1) (nm (i1 + 1 : Int32) (fun x9 => J30 x9))))))) 0 0
abbrev rm_X2_poorerThan : Room := { frames := 0, cells := 0, slots := 0, locals := 0 }
set_option maxHeartbeats 4000000 in
set_option maxRecDepth 100000 in
theorem c_X2_poorerThan (l : Launch) (D : va_G) (kc : Nat → ClassId) (a : Nat → Nat) (p1 : Int32) (w : S2) (sz : Nat) (K : Int32 → S2 → Prop) (h : w_X2_poorerThan p1 w K) : MetI l yX2_poorerThan wsX2_poorerThan rm_X2_poorerThan D kc (fun u : S2 => cWl kc a u) w [.ref (a 0), .int p1] sz (fun r u => K r u) := by
  refine q_ei (code := cX2_poorerThan) (maxL := 4) (by decide) rfl (Nat.le_of_ble_eq_true rfl) ?_
  intro p e s m args below meth c Q A hx hb hml hts hown hK hA hret ls hl hP hD hS
  have hown : s.vm.findClass RX2 = some m.cls := hown
  have hl : lv_has ls 4 [(0, .ref (a 0)), (1, .int p1)] := hl
  have hP : va_P D vwCl (cWl kc a w) s.heap := hP
  have hD : va_D A (cWl kc a w) := hD
  have hS : va_S A s.heap s.heap [] := hS
  obtain ⟨H, eH⟩ : ∃ z, z = s.heap := ⟨_, rfl⟩
  obtain ⟨locs, eL⟩ : ∃ z : List Loc, z = [] := ⟨_, rfl⟩
  have hP := q_heap hP eH
  have hS := q_heapS hS eH eL
  refine q_start eH eL ?_
  clear eH eL
  have hi2 : ∀ w ∈ u_ws RX2 TX2 13, w ∈ wsX2_poorerThan := by decide +kernel
  unfold w_X2_poorerThan at h
  refine lv_iconst (v := 0) hx hb dX2_poorerThan_0 (by decide) ?_
  refine lv_istore_n (lv' := [(2, .int 0), (0, .ref (a 0)), (1, .int p1)]) hx hb dX2_poorerThan_1 rfl hl (by decide) rfl (fun ls hl => ?_)
  refine lv_iconst (v := 0) hx hb dX2_poorerThan_2 (by decide) ?_
  refine lv_istore_n (lv' := [(3, .int 0), (2, .int 0), (0, .ref (a 0)), (1, .int p1)]) hx hb dX2_poorerThan_3 rfl hl (by decide) rfl (fun ls hl => ?_)
  refine h (fun (i1 : Int32) (i2 : Int32) => ∀ (ls : Array Slot), lv_has ls 4 [(0, .ref (a 0)), (1, .int p1), (2, .int i1), (3, .int i2)] → W p l e rm_X2_poorerThan s m args below meth c H locs 0 0 Q (F0 m 4 ls [])) ?_ ls (lv_sub hl [2, 3, 1, 0] rfl)
  intro i1 i2 h ls hl
  refine lv_iload_n hx hb dX2_poorerThan_4 rfl (lv_at hl 3 rfl) ?_
  refine lv_aload_n hx hb dX2_poorerThan_5 rfl (lv_at hl 0 rfl) ?_
  refine va_get (D := D) (ci := 2) (v := .int (w 0 0)) (C := RX2) (T := TX2) (N := 13) hx hb hts hi2 hown hK.1 hP 0 rfl rfl 0 (by decide) (hts (.fieldLink RX2 33 "LastPenny$World" "people" "I") (by decide +kernel)) (fun _ h9 => h9) rfl dX2_poorerThan_6 ?_
  refine lv_icmp_ge (tgt := 36) hx hb dX2_poorerThan_9 (by decide) (fun c3 => ?_) (fun c3 => ?_)
  · have h := br1 h c3
    refine lv_iload_n hx hb dX2_poorerThan_36 rfl (lv_at hl 2 rfl) ?_
    exact hret i1 w H locs ls _ h hP hD hS dX2_poorerThan_37
  · have h := br2 h c3
    refine lv_aload_n hx hb dX2_poorerThan_12 rfl (lv_at hl 0 rfl) ?_
    refine va_get (D := D) (ci := 2) (v := .ref (a 2)) (C := RX2) (T := TX2) (N := 13) hx hb hts hi2 hown hK.1 hP 0 rfl rfl 7 (by decide) (hts (.fieldLink RX2 15 "LastPenny$World" "meansOf" "[I") (by decide +kernel)) (fun _ h9 => h9) rfl dX2_poorerThan_13 ?_
    refine lv_iload_n hx hb dX2_poorerThan_16 rfl (lv_at hl 3 rfl) ?_
    obtain ⟨hi_4, h⟩ := h
    refine va_iald hx hb hK.1 hP 2 0 rfl rfl hi_4 dX2_poorerThan_17 ?_
    refine lv_aload_n hx hb dX2_poorerThan_18 rfl (lv_at hl 0 rfl) ?_
    refine va_get (D := D) (ci := 2) (v := .ref (a 2)) (C := RX2) (T := TX2) (N := 13) hx hb hts hi2 hown hK.1 hP 0 rfl rfl 7 (by decide) (hts (.fieldLink RX2 15 "LastPenny$World" "meansOf" "[I") (by decide +kernel)) (fun _ h9 => h9) rfl dX2_poorerThan_19 ?_
    refine lv_iload_n hx hb dX2_poorerThan_22 rfl (lv_at hl 1 rfl) ?_
    obtain ⟨hi_5, h⟩ := h
    refine va_iald hx hb hK.1 hP 2 0 rfl rfl hi_5 dX2_poorerThan_23 ?_
    refine jn_elim h (fun J30 eJ30 h => ?_)
    have hJ_30 : ∀ (i6 : Int32) (ls : Array Slot), J30 i6 → lv_has ls 4 [(0, .ref (a 0)), (1, .int p1), (2, .int i6), (3, .int i2)] → W p l e rm_X2_poorerThan s m args below meth c H locs 0 0 Q (F0 m 30 ls []) := by
      intro i6 ls h hl
      subst eJ30
      obtain ⟨x7, ex7⟩ : ∃ z : Int32, z = i2 + 1 := ⟨_, rfl⟩
      have h := nm_out h x7 ex7
      refine lv_iinc (v := x7) (lv' := [(3, .int x7), (0, .ref (a 0)), (1, .int p1), (2, .int i6)]) hx hb dX2_poorerThan_30 hl (k := 3) rfl (by rw [ex7]; rfl) (by decide) rfl (fun ls hl => ?_)
      refine lv_goto (tgt := 4) hx hb dX2_poorerThan_33 (by decide) ?_
      exact h ls (lv_sub hl [1, 2, 3, 0] rfl)
    refine lv_icmp_ge (tgt := 30) hx hb dX2_poorerThan_24 (by decide) (fun c8 => ?_) (fun c8 => ?_)
    · have h := br1 h c8
      exact hJ_30 i1 ls h (lv_sub hl [0, 1, 2, 3] rfl)
    · have h := br2 h c8
      obtain ⟨x9, ex9⟩ : ∃ z : Int32, z = i1 + 1 := ⟨_, rfl⟩
      have h := nm_out h x9 ex9
      refine lv_iinc (v := x9) (lv' := [(2, .int x9), (0, .ref (a 0)), (1, .int p1), (3, .int i2)]) hx hb dX2_poorerThan_27 hl (k := 2) rfl (by rw [ex9]; rfl) (by decide) rfl (fun ls hl => ?_)
      exact hJ_30 x9 ls h (lv_sub hl [1, 2, 0, 3] rfl)

def w_X2_coinBrings (p1 : Int32) (w : S2) (K : Int32 → S2 → Prop) : Prop := vp_in p1 5 ∧ (br ((w 1 p1.toNatClampNeg) = 1) (K 0 w) (br ((w 1 p1.toNatClampNeg) = 2) (K 15 w) (br ((w 1 p1.toNatClampNeg) = 3) (w_X2_poorerThan p1 w (fun r6 w5 => K (5 + (2 * r6)) w5)) (K 5 w))))
abbrev rm_X2_coinBrings : Room := { frames := 1, cells := 0, slots := 0, locals := 23 }
set_option maxHeartbeats 4000000 in
set_option maxRecDepth 100000 in
theorem c_X2_coinBrings (l : Launch) (D : va_G) (kc : Nat → ClassId) (a : Nat → Nat) (p1 : Int32) (w : S2) (sz : Nat) (K : Int32 → S2 → Prop) (h : w_X2_coinBrings p1 w K) : MetI l yX2_coinBrings wsX2_coinBrings rm_X2_coinBrings D kc (fun u : S2 => cWl kc a u) w [.ref (a 0), .int p1] sz (fun r u => K r u) := by
  refine q_ei (code := cX2_coinBrings) (maxL := 2) (by decide) rfl (Nat.le_of_ble_eq_true rfl) ?_
  intro p e s m args below meth c Q A hx hb hml hts hown hK hA hret ls hl hP hD hS
  have hown : s.vm.findClass RX2 = some m.cls := hown
  have hl : lv_has ls 2 [(0, .ref (a 0)), (1, .int p1)] := hl
  have hP : va_P D vwCl (cWl kc a w) s.heap := hP
  have hD : va_D A (cWl kc a w) := hD
  have hS : va_S A s.heap s.heap [] := hS
  obtain ⟨H, eH⟩ : ∃ z, z = s.heap := ⟨_, rfl⟩
  obtain ⟨locs, eL⟩ : ∃ z : List Loc, z = [] := ⟨_, rfl⟩
  have hP := q_heap hP eH
  have hS := q_heapS hS eH eL
  refine q_start eH eL ?_
  clear eH eL
  have hi2 : ∀ w ∈ u_ws RX2 TX2 13, w ∈ wsX2_coinBrings := by decide +kernel
  unfold w_X2_coinBrings at h
  refine lv_aload_n hx hb dX2_coinBrings_0 rfl (lv_at hl 0 rfl) ?_
  refine va_get (D := D) (ci := 2) (v := .ref (a 1)) (C := RX2) (T := TX2) (N := 13) hx hb hts hi2 hown hK.1 hP 0 rfl rfl 6 (by decide) (hts (.fieldLink RX2 9 "LastPenny$World" "kindOf" "[I") (by decide +kernel)) (fun _ h9 => h9) rfl dX2_coinBrings_1 ?_
  refine lv_iload_n hx hb dX2_coinBrings_4 rfl (lv_at hl 1 rfl) ?_
  obtain ⟨hi_1, h⟩ := h
  refine va_iald hx hb hK.1 hP 1 0 rfl rfl hi_1 dX2_coinBrings_5 ?_
  by_cases c2 : (w 1 p1.toNatClampNeg) = 1
  · have h := br1 h c2
    refine lv_tableIn (tgt := 32) hx hb dX2_coinBrings_6 (by rw [c2]; all_goals decide) (by rw [c2]; all_goals decide) (by rw [c2]; all_goals rfl) (by decide) ?_
    refine lv_iconst (v := 0) hx hb dX2_coinBrings_32 (by decide) ?_
    exact hret 0 w H locs ls _ h hP hD hS dX2_coinBrings_33
  have h := br2 h c2
  by_cases c3 : (w 1 p1.toNatClampNeg) = 2
  · have h := br1 h c3
    refine lv_tableIn (tgt := 34) hx hb dX2_coinBrings_6 (by rw [c3]; all_goals decide) (by rw [c3]; all_goals decide) (by rw [c3]; all_goals rfl) (by decide) ?_
    refine lv_bipush (v := 15) hx hb dX2_coinBrings_34 (by decide) ?_
    exact hret 15 w H locs ls _ h hP hD hS dX2_coinBrings_36
  have h := br2 h c3
  by_cases c4 : (w 1 p1.toNatClampNeg) = 3
  · have h := br1 h c4
    refine lv_tableIn (tgt := 37) hx hb dX2_coinBrings_6 (by rw [c4]; all_goals decide) (by rw [c4]; all_goals decide) (by rw [c4]; all_goals rfl) (by decide) ?_
    refine lv_iconst (v := 5) hx hb dX2_coinBrings_37 (by decide) ?_
    refine lv_iconst (v := 2) hx hb dX2_coinBrings_38 (by decide) ?_
    refine lv_aload_n hx hb dX2_coinBrings_39 rfl (lv_at hl 0 rfl) ?_
    refine lv_iload_n hx hb dX2_coinBrings_40 rfl (lv_at hl 1 rfl) ?_
    refine q_cVi (As := [.int p1]) (rest := [.int 2, .int 5]) ⟨hx, hb, hml, hown, hts⟩ hK (c_X2_poorerThan l D kc a p1 w H.size _ h) (cwV 1 hts gX2_coinBrings_X2_poorerThan rfl rfl rfl (by decide +kernel) ⟨Nat.le_of_ble_eq_true rfl, Nat.le_of_ble_eq_true rfl⟩) (cut_same (fun u : S2 => cWl kc a u) w) hP hD hS hA 2 0 rfl rfl rfl hl.1 rfl (Nat.le_of_ble_eq_true rfl) dX2_coinBrings_41 ⟨Nat.zero_le _, Nat.zero_le _⟩ (fun r6 u7 H locs h hP hD hS => ?_)
    obtain ⟨w5, rfl⟩ : ∃ z, z = u7 := ⟨_, rfl⟩
    have hP : va_P D vwCl (cWl kc a w5) H := hP
    have hD : va_D A (cWl kc a w5) := hD
    refine lv_imul hx hb dX2_coinBrings_44 ?_
    refine lv_iadd hx hb dX2_coinBrings_45 ?_
    exact hret (5 + (2 * r6)) w5 H locs ls _ h hP hD hS dX2_coinBrings_46
  have h := br2 h c4
  have ht8 := lv_neT (a := 1) c2 (by decide)
  have ht9 := lv_neT (a := 2) c3 (by decide)
  have ht10 := lv_neT (a := 3) c4 (by decide)
  refine lv_tableOut (tgt := 47) hx hb dX2_coinBrings_6 (by omega) (by decide) ?_
  refine lv_iconst (v := 5) hx hb dX2_coinBrings_47 (by decide) ?_
  exact hret 5 w H locs ls _ h hP hD hS dX2_coinBrings_48

