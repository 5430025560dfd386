def w_X4_readOne (mo : S2) (lo : SL) (K : Int32 → S2 → SL → Prop) : Prop := w_X4_readNumber (0 : Int32) (4 : Int32) mo lo (fun r3 mo1 lo2 => br (r3 ≤ (mo1 0 8)) (nm ((va_up mo1 0 (upd (mo1 0) 8 (mo1 0 8))) : S2) (fun mo6 => K r3 mo6 lo2)) (nm ((va_up mo1 0 (upd (mo1 0) 8 r3)) : S2) (fun mo7 => K r3 mo7 lo2)))
abbrev rm_X4_readOne : Room := { frames := 3, cells := 0, slots := 0, locals := 70 }
set_option maxHeartbeats 4000000 in
set_option maxRecDepth 100000 in
theorem c_X4_readOne (l : Launch) (D : va_G) (kc : Nat → ClassId) (a : Nat → Nat) (mo : S2) (lo : SL) (sz : Nat) (K : Int32 → S2 → SL → Prop) (h : w_X4_readOne mo lo K) : MetI l yX4_readOne wsX4_readOne rm_X4_readOne D kc (fun u : S2 × SL => cM kc a u.1 u.2) (mo, lo) [.ref (a 0)] sz (fun r u => K r u.1 u.2) := by
  refine q_ei (code := cX4_readOne) (maxL := 2) (by decide) rfl (Nat.le_of_ble_eq_true rfl) ?_
  intro p e s m args below meth c Q A hx hb hml hts hown hK hA hret ls hl hP hD hS
  have hown : s.vm.findClass RX4 = some m.cls := hown
  have hl : lv_has ls 2 [(0, .ref (a 0))] := hl
  have hP : va_P D vwCl (cM kc a mo lo) s.heap := hP
  have hD : va_D A (cM kc a mo lo) := hD
  have hS : va_S A s.heap s.heap [] := hS
  obtain ⟨H, eH⟩ : ∃ z, z = s.heap := ⟨_, rfl⟩
  obtain ⟨locs, eL⟩ : ∃ z : List Loc, z = [] := ⟨_, rfl⟩
  have hP := q_heap hP eH
  have hS := q_heapS hS eH eL
  refine q_start eH eL ?_
  clear eH eL
  have hi4 : ∀ w ∈ u_ws RX4 TX4 29, w ∈ wsX4_readOne := by decide +kernel
  unfold w_X4_readOne at h
  refine lv_aload_n hx hb dX4_readOne_0 rfl (lv_at hl 0 rfl) ?_
  refine lv_iconst (v := 0) hx hb dX4_readOne_1 (by decide) ?_
  refine lv_iconst (v := 4) hx hb dX4_readOne_2 (by decide) ?_
  refine q_cVi (As := [.int 0, .int 4]) (rest := []) ⟨hx, hb, hml, hown, hts⟩ hK (c_X4_readNumber l D kc a (0 : Int32) (4 : Int32) mo lo H.size _ h) (cwV 2 hts gX4_readOne_X4_readNumber rfl rfl rfl (by decide +kernel) ⟨Nat.le_of_ble_eq_true rfl, Nat.le_of_ble_eq_true rfl⟩) (cut_same (fun u : S2 × SL => cM kc a u.1 u.2) (mo, lo)) hP hD hS hA 4 0 rfl rfl rfl hl.1 rfl (Nat.le_of_ble_eq_true rfl) dX4_readOne_3 ⟨Nat.zero_le _, Nat.zero_le _⟩ (fun r3 u4 H locs h hP hD hS => ?_)
  obtain ⟨mo1, lo2⟩ := u4
  have hP : va_P D vwCl (cM kc a mo1 lo2) H := hP
  have hD : va_D A (cM kc a mo1 lo2) := hD
  refine lv_istore_n (lv' := [(1, .int r3), (0, .ref (a 0))]) hx hb dX4_readOne_6 rfl hl (by decide) rfl (fun ls hl => ?_)
  refine lv_aload_n hx hb dX4_readOne_7 rfl (lv_at hl 1 rfl) ?_
  refine lv_iload_n hx hb dX4_readOne_8 rfl (lv_at hl 0 rfl) ?_
  refine lv_aload_n hx hb dX4_readOne_9 rfl (lv_at hl 1 rfl) ?_
  refine va_get (D := D) (ci := 4) (v := .int (mo1 0 8)) (C := RX4) (T := TX4) (N := 29) hx hb hts hi4 hown hK.1 hP 0 rfl rfl 8 (by decide) (hts (.fieldLink RX4 64 "LastPennyModel" "highest" "I") (by decide +kernel)) (fun _ h9 => h9) rfl dX4_readOne_10 ?_
  refine lv_icmp_le (tgt := 20) hx hb dX4_readOne_13 (by decide) (fun c5 => ?_) (fun c5 => ?_)
  · have h := br1 h c5
    refine lv_aload_n hx hb dX4_readOne_20 rfl (lv_at hl 1 rfl) ?_
    refine va_get (D := D) (ci := 4) (v := .int (mo1 0 8)) (C := RX4) (T := TX4) (N := 29) hx hb hts hi4 hown hK.1 hP 0 rfl rfl 8 (by decide) (hts (.fieldLink RX4 64 "LastPennyModel" "highest" "I") (by decide +kernel)) (fun _ h9 => h9) rfl dX4_readOne_21 ?_
    refine va_put (D := D) (ci := 4) (v := .int (mo1 0 8)) (ty := .int) (C := RX4) (T := TX4) (N := 29) hx hb hts hi4 tyX4 tyX4_ok nmX4 hown hK.1 hP hD hS 0 rfl rfl 8 (by decide) (hts (.fieldLink RX4 64 "LastPennyModel" "highest" "I") (by decide +kernel)) (fun _ h9 => h9) rfl (by decide +kernel) rfl rfl (Nat.le_of_ble_eq_true rfl) dX4_readOne_24 (fun H locs hP hD hS => ?_)
    obtain ⟨mo6, emo6⟩ : ∃ z, z = (va_up mo1 0 (upd (mo1 0) 8 (mo1 0 8))) := ⟨_, rfl⟩
    have h := nm_out h mo6 emo6
    have hP : va_P D vwCl (cM kc a mo6 lo2) H := q_to hP (by subst emo6; rfl)
    have hD : va_D A (cM kc a mo6 lo2) := q_toD hD (by subst emo6; rfl)
    refine lv_iload_n hx hb dX4_readOne_27 rfl (lv_at hl 0 rfl) ?_
    exact hret r3 (mo6, lo2) H locs ls _ h hP hD hS dX4_readOne_28
  · have h := br2 h c5
    refine lv_iload_n hx hb dX4_readOne_16 rfl (lv_at hl 0 rfl) ?_
    refine lv_goto (tgt := 24) hx hb dX4_readOne_17 (by decide) ?_
    refine va_put (D := D) (ci := 4) (v := .int r3) (ty := .int) (C := RX4) (T := TX4) (N := 29) hx hb hts hi4 tyX4 tyX4_ok nmX4 hown hK.1 hP hD hS 0 rfl rfl 8 (by decide) (hts (.fieldLink RX4 64 "LastPennyModel" "highest" "I") (by decide +kernel)) (fun _ h9 => h9) rfl (by decide +kernel) rfl rfl (Nat.le_of_ble_eq_true rfl) dX4_readOne_24 (fun H locs hP hD hS => ?_)
    obtain ⟨mo7, emo7⟩ : ∃ z, z = (va_up mo1 0 (upd (mo1 0) 8 r3)) := ⟨_, rfl⟩
    have h := nm_out h mo7 emo7
    have hP : va_P D vwCl (cM kc a mo7 lo2) H := q_to hP (by subst emo7; rfl)
    have hD : va_D A (cM kc a mo7 lo2) := q_toD hD (by subst emo7; rfl)
    refine lv_iload_n hx hb dX4_readOne_27 rfl (lv_at hl 0 rfl) ?_
    exact hret r3 (mo7, lo2) H locs ls _ h hP hD hS dX4_readOne_28

def w_X4_readGift (mo : S2) (lo : SL) (K : S2 → SL → Prop) : Prop := nm ((24 + (4 * (mo 4 (23 : Int32).toNatClampNeg))) : Int32) (fun x1 => w_X4_readNumber (0 : Int32) (20 : Int32) mo lo (fun r4 mo2 lo3 => vp_in x1 57 ∧ (nm ((va_up mo2 4 (upd (mo2 4) x1.toNatClampNeg r4)) : S2) (fun mo7 => w_X4_readOne mo7 lo3 (fun r10 mo8 lo9 => vp_in (x1 + 1) 57 ∧ (nm ((va_up mo8 4 (upd (mo8 4) (x1 + 1).toNatClampNeg r10)) : S2) (fun mo13 => w_X4_looked (0 : Int32) (4 : Int32) mo13 lo9 (fun r16 mo14 lo15 => vp_in (x1 + 1) 57 ∧ (jn (fun (k19 : Int32) => w_X4_needs k19 (3 : Int32) mo14 lo15 (fun mo20 lo21 => vp_in (x1 + 2) 57 ∧ (nm ((va_up mo20 4 (upd (mo20 4) (x1 + 2).toNatClampNeg r16)) : S2) (fun mo24 => jn (fun (k25 : Int32) => nm ((va_up mo24 0 (upd (mo24 0) 8 k25)) : S2) (fun mo26 => w_X4_takes mo26 lo21 (fun mo27 lo28 => w_X4_readNumber (1 : Int32) (20 : Int32) mo27 lo28 (fun r32 mo30 lo31 => vp_in (x1 + 3) 57 ∧ (nm ((va_up mo30 4 (upd (mo30 4) (x1 + 3).toNatClampNeg r32)) : S2) (fun mo35 => nm ((va_up mo35 4 (upd (mo35 4) (23 : Int32).toNatClampNeg ((mo35 4 (23 : Int32).toNatClampNeg) + 1))) : S2) (fun mo36 => K mo36 lo31))))))) (fun J93 => br (r16 ≤ (mo24 0 8)) (J93 (mo24 0 8)) (J93 r16)))))) (fun J63 => br (r16 = (mo14 4 (x1 + 1).toNatClampNeg)) (J63 0) (J63 1)))))))))))
abbrev rm_X4_readGift : Room := { frames := 4, cells := 0, slots := 0, locals := 91 }
set_option maxHeartbeats 4000000 in
set_option maxRecDepth 100000 in
theorem c_X4_readGift (l : Launch) (D : va_G) (kc : Nat → ClassId) (a : Nat → Nat) (mo : S2) (lo : SL) (sz : Nat) (K : S2 → SL → Prop) (h : w_X4_readGift mo lo K) : MetV l yX4_readGift wsX4_readGift rm_X4_readGift D kc (fun u : S2 × SL => cM kc a u.1 u.2) (mo, lo) [.ref (a 0)] sz (fun u => K u.1 u.2) := by
  refine q_ev (code := cX4_readGift) (maxL := 3) (by decide) rfl (Nat.le_of_ble_eq_true rfl) ?_
  intro p e s m args below meth c Q A hx hb hml hts hown hK hA hret ls hl hP hD hS
  have hown : s.vm.findClass RX4 = some m.cls := hown
  have hl : lv_has ls 3 [(0, .ref (a 0))] := hl
  have hP : va_P D vwCl (cM kc a mo lo) s.heap := hP
  have hD : va_D A (cM kc a mo lo) := hD
  have hS : va_S A s.heap s.heap [] := hS
  obtain ⟨H, eH⟩ : ∃ z, z = s.heap := ⟨_, rfl⟩
  obtain ⟨locs, eL⟩ : ∃ z : List Loc, z = [] := ⟨_, rfl⟩
  have hP := q_heap hP eH
  have hS := q_heapS hS eH eL
  refine q_start eH eL ?_
  clear eH eL
  have hi4 : ∀ w ∈ u_ws RX4 TX4 29, w ∈ wsX4_readGift := by decide +kernel
  unfold w_X4_readGift at h
  refine lv_bipush (v := 24) hx hb dX4_readGift_0 (by decide) ?_
  refine lv_iconst (v := 4) hx hb dX4_readGift_2 (by decide) ?_
  refine lv_aload_n hx hb dX4_readGift_3 rfl (lv_at hl 0 rfl) ?_
  refine va_get (D := D) (ci := 4) (v := .ref (a 4)) (C := RX4) (T := TX4) (N := 29) hx hb hts hi4 hown hK.1 hP 0 rfl rfl 4 (by decide) (hts (.fieldLink RX4 20 "LastPennyModel" "draft" "[I") (by decide +kernel)) (fun _ h9 => h9) rfl dX4_readGift_4 ?_
  refine lv_bipush (v := 23) hx hb dX4_readGift_7 (by decide) ?_
  refine va_iald hx hb hK.1 hP 4 0 rfl rfl (by unfold vp_in; decide) dX4_readGift_9 ?_
  refine lv_imul hx hb dX4_readGift_10 ?_
  refine lv_iadd hx hb dX4_readGift_11 ?_
  refine lv_topi (fun x1 ex1 => ?_)
  have h := nm_out h x1 ex1
  refine lv_istore_n (lv' := [(1, .int x1), (0, .ref (a 0))]) hx hb dX4_readGift_12 rfl hl (by decide) rfl (fun ls hl => ?_)
  refine lv_aload_n hx hb dX4_readGift_13 rfl (lv_at hl 1 rfl) ?_
  refine va_get (D := D) (ci := 4) (v := .ref (a 4)) (C := RX4) (T := TX4) (N := 29) hx hb hts hi4 hown hK.1 hP 0 rfl rfl 4 (by decide) (hts (.fieldLink RX4 20 "LastPennyModel" "draft" "[I") (by decide +kernel)) (fun _ h9 => h9) rfl dX4_readGift_14 ?_
  refine lv_iload_n hx hb dX4_readGift_17 rfl (lv_at hl 0 rfl) ?_
  refine lv_aload_n hx hb dX4_readGift_18 rfl (lv_at hl 1 rfl) ?_
  refine lv_iconst (v := 0) hx hb dX4_readGift_19 (by decide) ?_
  refine lv_bipush (v := 20) hx hb dX4_readGift_20 (by decide) ?_
  refine q_cVi (As := [.int 0, .int 20]) (rest := [.int x1, .ref (a 4)]) ⟨hx, hb, hml, hown, hts⟩ hK (c_X4_readNumber l D kc a (0 : Int32) (20 : Int32) mo lo H.size _ h) (cwV 2 hts gX4_readGift_X4_readNumber rfl rfl rfl (by decide +kernel) ⟨Nat.le_of_ble_eq_true rfl, Nat.le_of_ble_eq_true rfl⟩) (cut_same (fun u : S2 × SL => cM kc a u.1 u.2) (mo, lo)) hP hD hS hA 4 0 rfl rfl rfl hl.1 rfl (Nat.le_of_ble_eq_true rfl) dX4_readGift_22 ⟨Nat.zero_le _, Nat.zero_le _⟩ (fun r4 u5 H locs h hP hD hS => ?_)
  obtain ⟨mo2, lo3⟩ := u5
  have hP : va_P D vwCl (cM kc a mo2 lo3) H := hP
  have hD : va_D A (cM kc a mo2 lo3) := hD
  obtain ⟨hi_6, h⟩ := h
  refine va_iast hx hb hK.1 hP hD hS 4 0 rfl rfl hi_6 dX4_readGift_25 (fun H locs hP hD hS => ?_)
  obtain ⟨mo7, emo7⟩ : ∃ z, z = (va_up mo2 4 (upd (mo2 4) x1.toNatClampNeg r4)) := ⟨_, rfl⟩
  have h := nm_out h mo7 emo7
  have hP : va_P D vwCl (cM kc a mo7 lo3) H := q_to hP (by subst emo7; rfl)
  have hD : va_D A (cM kc a mo7 lo3) := q_toD hD (by subst emo7; rfl)
  refine lv_aload_n hx hb dX4_readGift_26 rfl (lv_at hl 1 rfl) ?_
  refine va_get (D := D) (ci := 4) (v := .ref (a 4)) (C := RX4) (T := TX4) (N := 29) hx hb hts hi4 hown hK.1 hP 0 rfl rfl 4 (by decide) (hts (.fieldLink RX4 20 "LastPennyModel" "draft" "[I") (by decide +kernel)) (fun _ h9 => h9) rfl dX4_readGift_27 ?_
  refine lv_iload_n hx hb dX4_readGift_30 rfl (lv_at hl 0 rfl) ?_
  refine lv_iconst (v := 1) hx hb dX4_readGift_31 (by decide) ?_
  refine lv_iadd hx hb dX4_readGift_32 ?_
  refine lv_aload_n hx hb dX4_readGift_33 rfl (lv_at hl 1 rfl) ?_
  refine q_cVi (As := []) (rest := [.int (x1 + 1), .ref (a 4)]) ⟨hx, hb, hml, hown, hts⟩ hK (c_X4_readOne l D kc a mo7 lo3 H.size _ h) (cwV 0 hts gX4_readGift_X4_readOne rfl rfl rfl (by decide +kernel) ⟨Nat.le_of_ble_eq_true rfl, Nat.le_of_ble_eq_true rfl⟩) (cut_same (fun u : S2 × SL => cM kc a u.1 u.2) (mo7, lo3)) hP hD hS hA 4 0 rfl rfl rfl hl.1 rfl (Nat.le_of_ble_eq_true rfl) dX4_readGift_34 ⟨Nat.zero_le _, Nat.zero_le _⟩ (fun r10 u11 H locs h hP hD hS => ?_)
  obtain ⟨mo8, lo9⟩ := u11
  have hP : va_P D vwCl (cM kc a mo8 lo9) H := hP
  have hD : va_D A (cM kc a mo8 lo9) := hD
  obtain ⟨hi_12, h⟩ := h
  refine va_iast hx hb hK.1 hP hD hS 4 0 rfl rfl hi_12 dX4_readGift_37 (fun H locs hP hD hS => ?_)
  obtain ⟨mo13, emo13⟩ : ∃ z, z = (va_up mo8 4 (upd (mo8 4) (x1 + 1).toNatClampNeg r10)) := ⟨_, rfl⟩
  have h := nm_out h mo13 emo13
  have hP : va_P D vwCl (cM kc a mo13 lo9) H := q_to hP (by subst emo13; rfl)
  have hD : va_D A (cM kc a mo13 lo9) := q_toD hD (by subst emo13; rfl)
  refine lv_aload_n hx hb dX4_readGift_38 rfl (lv_at hl 1 rfl) ?_
  refine lv_iconst (v := 0) hx hb dX4_readGift_39 (by decide) ?_
  refine lv_iconst (v := 4) hx hb dX4_readGift_40 (by decide) ?_
  refine q_cVi (As := [.int 0, .int 4]) (rest := []) ⟨hx, hb, hml, hown, hts⟩ hK (c_X4_looked l D kc a (0 : Int32) (4 : Int32) mo13 lo9 H.size _ h) (cwV 2 hts gX4_readGift_X4_looked rfl rfl rfl (by decide +kernel) ⟨Nat.le_of_ble_eq_true rfl, Nat.le_of_ble_eq_true rfl⟩) (cut_same (fun u : S2 × SL => cM kc a u.1 u.2) (mo13, lo9)) hP hD hS hA 4 0 rfl rfl rfl hl.1 rfl (Nat.le_of_ble_eq_true rfl) dX4_readGift_41 ⟨Nat.zero_le _, Nat.zero_le _⟩ (fun r16 u17 H locs h hP hD hS => ?_)
  obtain ⟨mo14, lo15⟩ := u17
  have hP : va_P D vwCl (cM kc a mo14 lo15) H := hP
  have hD : va_D A (cM kc a mo14 lo15) := hD
  refine lv_istore_n (lv' := [(2, .int r16), (1, .int x1), (0, .ref (a 0))]) hx hb dX4_readGift_44 rfl hl (by decide) rfl (fun ls hl => ?_)
  refine lv_aload_n hx hb dX4_readGift_45 rfl (lv_at hl 2 rfl) ?_
  refine lv_iload_n hx hb dX4_readGift_46 rfl (lv_at hl 0 rfl) ?_
  refine lv_aload_n hx hb dX4_readGift_47 rfl (lv_at hl 2 rfl) ?_
  refine va_get (D := D) (ci := 4) (v := .ref (a 4)) (C := RX4) (T := TX4) (N := 29) hx hb hts hi4 hown hK.1 hP 0 rfl rfl 4 (by decide) (hts (.fieldLink RX4 20 "LastPennyModel" "draft" "[I") (by decide +kernel)) (fun _ h9 => h9) rfl dX4_readGift_48 ?_
  refine lv_iload_n hx hb dX4_readGift_51 rfl (lv_at hl 1 rfl) ?_
  refine lv_iconst (v := 1) hx hb dX4_readGift_52 (by decide) ?_
  refine lv_iadd hx hb dX4_readGift_53 ?_
  obtain ⟨hi_18, h⟩ := h
  refine va_iald hx hb hK.1 hP 4 0 rfl rfl hi_18 dX4_readGift_54 ?_
  refine jn_elim h (fun J63 eJ63 h => ?_)
  have hJ_63 : ∀ (k19 : Int32) (ls : Array Slot), J63 k19 → lv_has ls 3 [(0, .ref (a 0)), (1, .int x1), (2, .int r16)] → W p l e rm_X4_readGift s m args below meth c H locs 0 0 Q (F0 m 63 ls [.int k19, .ref (a 0)]) := by
    intro k19 ls h hl
    subst eJ63
    refine lv_iconst (v := 3) hx hb dX4_readGift_63 (by decide) ?_
    refine q_cVv (As := [.int k19, .int 3]) (rest := []) ⟨hx, hb, hml, hown, hts⟩ hK (c_X4_needs l D kc a k19 (3 : Int32) mo14 lo15 H.size _ h) (cwV 2 hts gX4_readGift_X4_needs rfl rfl rfl (by decide +kernel) ⟨Nat.le_of_ble_eq_true rfl, Nat.le_of_ble_eq_true rfl⟩) (cut_same (fun u : S2 × SL => cM kc a u.1 u.2) (mo14, lo15)) hP hD hS hA 4 0 rfl rfl rfl hl.1 rfl (Nat.le_of_ble_eq_true rfl) dX4_readGift_64 ⟨Nat.zero_le _, Nat.zero_le _⟩ (fun u22 H locs h hP hD hS => ?_)
    obtain ⟨mo20, lo21⟩ := u22
    have hP : va_P D vwCl (cM kc a mo20 lo21) H := hP
    have hD : va_D A (cM kc a mo20 lo21) := hD
    refine lv_aload_n hx hb dX4_readGift_67 rfl (lv_at hl 0 rfl) ?_
    refine va_get (D := D) (ci := 4) (v := .ref (a 4)) (C := RX4) (T := TX4) (N := 29) hx hb hts hi4 hown hK.1 hP 0 rfl rfl 4 (by decide) (hts (.fieldLink RX4 20 "LastPennyModel" "draft" "[I") (by decide +kernel)) (fun _ h9 => h9) rfl dX4_readGift_68 ?_
    refine lv_iload_n hx hb dX4_readGift_71 rfl (lv_at hl 1 rfl) ?_
    refine lv_iconst (v := 2) hx hb dX4_readGift_72 (by decide) ?_
    refine lv_iadd hx hb dX4_readGift_73 ?_
    refine lv_iload_n hx hb dX4_readGift_74 rfl (lv_at hl 2 rfl) ?_
    obtain ⟨hi_23, h⟩ := h
    refine va_iast hx hb hK.1 hP hD hS 4 0 rfl rfl hi_23 dX4_readGift_75 (fun H locs hP hD hS => ?_)
    obtain ⟨mo24, emo24⟩ : ∃ z, z = (va_up mo20 4 (upd (mo20 4) (x1 + 2).toNatClampNeg r16)) := ⟨_, rfl⟩
    have h := nm_out h mo24 emo24
    have hP : va_P D vwCl (cM kc a mo24 lo21) H := q_to hP (by subst emo24; rfl)
    have hD : va_D A (cM kc a mo24 lo21) := q_toD hD (by subst emo24; rfl)
    refine lv_aload_n hx hb dX4_readGift_76 rfl (lv_at hl 0 rfl) ?_
    refine lv_iload_n hx hb dX4_readGift_77 rfl (lv_at hl 2 rfl) ?_
    refine lv_aload_n hx hb dX4_readGift_78 rfl (lv_at hl 0 rfl) ?_
    refine va_get (D := D) (ci := 4) (v := .int (mo24 0 8)) (C := RX4) (T := TX4) (N := 29) hx hb hts hi4 hown hK.1 hP 0 rfl rfl 8 (by decide) (hts (.fieldLink RX4 64 "LastPennyModel" "highest" "I") (by decide +kernel)) (fun _ h9 => h9) rfl dX4_readGift_79 ?_
    refine jn_elim h (fun J93 eJ93 h => ?_)
    have hJ_93 : ∀ (k25 : Int32) (ls : Array Slot), J93 k25 → lv_has ls 3 [(0, .ref (a 0)), (1, .int x1)] → W p l e rm_X4_readGift s m args below meth c H locs 0 0 Q (F0 m 93 ls [.int k25, .ref (a 0)]) := by
      intro k25 ls h hl
      subst eJ93
      refine va_put (D := D) (ci := 4) (v := .int k25) (ty := .int) (C := RX4) (T := TX4) (N := 29) hx hb hts hi4 tyX4 tyX4_ok nmX4 hown hK.1 hP hD hS 0 rfl rfl 8 (by decide) (hts (.fieldLink RX4 64 "LastPennyModel" "highest" "I") (by decide +kernel)) (fun _ h9 => h9) rfl (by decide +kernel) rfl rfl (Nat.le_of_ble_eq_true rfl) dX4_readGift_93 (fun H locs hP hD hS => ?_)
      obtain ⟨mo26, emo26⟩ : ∃ z, z = (va_up mo24 0 (upd (mo24 0) 8 k25)) := ⟨_, rfl⟩
      have h := nm_out h mo26 emo26
      have hP : va_P D vwCl (cM kc a mo26 lo21) H := q_to hP (by subst emo26; rfl)
      have hD : va_D A (cM kc a mo26 lo21) := q_toD hD (by subst emo26; rfl)
      refine lv_aload_n hx hb dX4_readGift_96 rfl (lv_at hl 0 rfl) ?_
      refine q_cVv (As := []) (rest := []) ⟨hx, hb, hml, hown, hts⟩ hK (c_X4_takes l D kc a mo26 lo21 H.size _ h) (cwV 0 hts gX4_readGift_X4_takes rfl rfl rfl (by decide +kernel) ⟨Nat.le_of_ble_eq_true rfl, Nat.le_of_ble_eq_true rfl⟩) (cut_same (fun u : S2 × SL => cM kc a u.1 u.2) (mo26, lo21)) hP hD hS hA 4 0 rfl rfl rfl hl.1 rfl (Nat.le_of_ble_eq_true rfl) dX4_readGift_97 ⟨Nat.zero_le _, Nat.zero_le _⟩ (fun u29 H locs h hP hD hS => ?_)
      obtain ⟨mo27, lo28⟩ := u29
      have hP : va_P D vwCl (cM kc a mo27 lo28) H := hP
      have hD : va_D A (cM kc a mo27 lo28) := hD
      refine lv_aload_n hx hb dX4_readGift_100 rfl (lv_at hl 0 rfl) ?_
      refine va_get (D := D) (ci := 4) (v := .ref (a 4)) (C := RX4) (T := TX4) (N := 29) hx hb hts hi4 hown hK.1 hP 0 rfl rfl 4 (by decide) (hts (.fieldLink RX4 20 "LastPennyModel" "draft" "[I") (by decide +kernel)) (fun _ h9 => h9) rfl dX4_readGift_101 ?_
      refine lv_iload_n hx hb dX4_readGift_104 rfl (lv_at hl 1 rfl) ?_
      refine lv_iconst (v := 3) hx hb dX4_readGift_105 (by decide) ?_
      refine lv_iadd hx hb dX4_readGift_106 ?_
      refine lv_aload_n hx hb dX4_readGift_107 rfl (lv_at hl 0 rfl) ?_
      refine lv_iconst (v := 1) hx hb dX4_readGift_108 (by decide) ?_
      refine lv_bipush (v := 20) hx hb dX4_readGift_109 (by decide) ?_
      refine q_cVi (As := [.int 1, .int 20]) (rest := [.int (x1 + 3), .ref (a 4)]) ⟨hx, hb, hml, hown, hts⟩ hK (c_X4_readNumber l D kc a (1 : Int32) (20 : Int32) mo27 lo28 H.size _ h) (cwV 2 hts gX4_readGift_X4_readNumber rfl rfl rfl (by decide +kernel) ⟨Nat.le_of_ble_eq_true rfl, Nat.le_of_ble_eq_true rfl⟩) (cut_same (fun u : S2 × SL => cM kc a u.1 u.2) (mo27, lo28)) hP hD hS hA 4 0 rfl rfl rfl hl.1 rfl (Nat.le_of_ble_eq_true rfl) dX4_readGift_111 ⟨Nat.zero_le _, Nat.zero_le _⟩ (fun r32 u33 H locs h hP hD hS => ?_)
      obtain ⟨mo30, lo31⟩ := u33
      have hP : va_P D vwCl (cM kc a mo30 lo31) H := hP
      have hD : va_D A (cM kc a mo30 lo31) := hD
      obtain ⟨hi_34, h⟩ := h
      refine va_iast hx hb hK.1 hP hD hS 4 0 rfl rfl hi_34 dX4_readGift_114 (fun H locs hP hD hS => ?_)
      obtain ⟨mo35, emo35⟩ : ∃ z, z = (va_up mo30 4 (upd (mo30 4) (x1 + 3).toNatClampNeg r32)) := ⟨_, rfl⟩
      have h := nm_out h mo35 emo35
      have hP : va_P D vwCl (cM kc a mo35 lo31) H := q_to hP (by subst emo35; rfl)
      have hD : va_D A (cM kc a mo35 lo31) := q_toD hD (by subst emo35; rfl)
      refine lv_aload_n hx hb dX4_readGift_115 rfl (lv_at hl 0 rfl) ?_
      refine va_get (D := D) (ci := 4) (v := .ref (a 4)) (C := RX4) (T := TX4) (N := 29) hx hb hts hi4 hown hK.1 hP 0 rfl rfl 4 (by decide) (hts (.fieldLink RX4 20 "LastPennyModel" "draft" "[I") (by decide +kernel)) (fun _ h9 => h9) rfl dX4_readGift_116 ?_
      refine lv_bipush (v := 23) hx hb dX4_readGift_119 (by decide) ?_
      refine lv_dup2_11 hx hb dX4_readGift_121 rfl rfl ?_
      refine va_iald hx hb hK.1 hP 4 0 rfl rfl (by unfold vp_in; decide) dX4_readGift_122 ?_
      refine lv_iconst (v := 1) hx hb dX4_readGift_123 (by decide) ?_
      refine lv_iadd hx hb dX4_readGift_124 ?_
      refine va_iast hx hb hK.1 hP hD hS 4 0 rfl rfl (by unfold vp_in; decide) dX4_readGift_125 (fun H locs hP hD hS => ?_)
      obtain ⟨mo36, emo36⟩ : ∃ z, z = (va_up mo35 4 (upd (mo35 4) (23 : Int32).toNatClampNeg ((mo35 4 (23 : Int32).toNatClampNeg) + 1))) := ⟨_, rfl⟩
      have h := nm_out h mo36 emo36
      have hP : va_P D vwCl (cM kc a mo36 lo31) H := q_to hP (by subst emo36; rfl)
      have hD : va_D A (cM kc a mo36 lo31) := q_toD hD (by subst emo36; rfl)
      exact hret (mo36, lo31) H locs ls _ h hP hD hS dX4_readGift_126
    refine lv_icmp_le (tgt := 89) hx hb dX4_readGift_82 (by decide) (fun c37 => ?_) (fun c37 => ?_)
    · have h := br1 h c37
      refine lv_aload_n hx hb dX4_readGift_89 rfl (lv_at hl 0 rfl) ?_
      refine va_get (D := D) (ci := 4) (v := .int (mo24 0 8)) (C := RX4) (T := TX4) (N := 29) hx hb hts hi4 hown hK.1 hP 0 rfl rfl 8 (by decide) (hts (.fieldLink RX4 64 "LastPennyModel" "highest" "I") (by decide +kernel)) (fun _ h9 => h9) rfl dX4_readGift_90 ?_
      exact hJ_93 (mo24 0 8) ls h (lv_sub hl [0, 1] rfl)
    · have h := br2 h c37
      refine lv_iload_n hx hb dX4_readGift_85 rfl (lv_at hl 2 rfl) ?_
      refine lv_goto (tgt := 93) hx hb dX4_readGift_86 (by decide) ?_
      exact hJ_93 r16 ls h (lv_sub hl [0, 1] rfl)
  refine lv_icmp_eq (tgt := 62) hx hb dX4_readGift_55 (by decide) (fun c38 => ?_) (fun c38 => ?_)
  · have h := br1 h c38
    refine lv_iconst (v := 0) hx hb dX4_readGift_62 (by decide) ?_
    exact hJ_63 0 ls h (lv_sub hl [2, 1, 0] rfl)
  · have h := br2 h c38
    refine lv_iconst (v := 1) hx hb dX4_readGift_58 (by decide) ?_
    refine lv_goto (tgt := 63) hx hb dX4_readGift_59 (by decide) ?_
    exact hJ_63 1 ls h (lv_sub hl [2, 1, 0] rfl)

def w_X4_readLineOf (p1 : Int32) (mo : S2) (lo : SL) (K : S2 → SL → Prop) : Prop := br (p1 = 4) (w_X4_readGift mo lo (fun mo2 lo3 => K mo2 lo3)) (br (p1 = 5) (w_X4_readNumber (0 : Int32) (9 : Int32) mo lo (fun r8 mo6 lo7 => nm ((va_up mo6 4 (upd (mo6 4) (21 : Int32).toNatClampNeg r8)) : S2) (fun mo10 => K mo10 lo7))) (br (p1 = 6) (w_X4_readOne mo lo (fun r14 mo12 lo13 => nm ((va_up mo12 4 (upd (mo12 4) (22 : Int32).toNatClampNeg r14)) : S2) (fun mo16 => K mo16 lo13))) (vp_in ((4 * (mo 0 5)) + 0) 57 ∧ (nm ((va_up mo 4 (upd (mo 4) ((4 * (mo 0 5)) + 0).toNatClampNeg p1)) : S2) (fun mo21 => w_X4_readNumber (0 : Int32) (99 : Int32) mo21 lo (fun r24 mo22 lo23 => vp_in ((4 * (mo21 0 5)) + 1) 57 ∧ (nm ((va_up mo22 4 (upd (mo22 4) ((4 * (mo21 0 5)) + 1).toNatClampNeg r24)) : S2) (fun mo27 => w_X4_readNumber (0 : Int32) (20 : Int32) mo27 lo23 (fun r30 mo28 lo29 => vp_in ((4 * (mo27 0 5)) + 2) 57 ∧ (nm ((va_up mo28 4 (upd (mo28 4) ((4 * (mo27 0 5)) + 2).toNatClampNeg r30)) : S2) (fun mo33 => nm ((va_up mo33 0 (upd (mo33 0) 5 ((mo33 0 5) + 1))) : S2) (fun mo34 => K mo34 lo29))))))))))))
abbrev rm_X4_readLineOf : Room := { frames := 5, cells := 0, slots := 0, locals := 113 }
set_option maxHeartbeats 4000000 in
set_option maxRecDepth 100000 in
theorem c_X4_readLineOf (l : Launch) (D : va_G) (kc : Nat → ClassId) (a : Nat → Nat) (p1 : Int32) (mo : S2) (lo : SL) (sz : Nat) (K : S2 → SL → Prop) (h : w_X4_readLineOf p1 mo lo K) : MetV l yX4_readLineOf wsX4_readLineOf rm_X4_readLineOf D kc (fun u : S2 × SL => cM kc a u.1 u.2) (mo, lo) [.ref (a 0), .int p1] sz (fun u => K u.1 u.2) := by
  refine q_ev (code := cX4_readLineOf) (maxL := 2) (by decide) rfl (Nat.le_of_ble_eq_true rfl) ?_
  intro p e s m args below meth c Q A hx hb hml hts hown hK hA hret ls hl hP hD hS
  have hown : s.vm.findClass RX4 = some m.cls := hown
  have hl : lv_has ls 2 [(0, .ref (a 0)), (1, .int p1)] := hl
  have hP : va_P D vwCl (cM kc a mo lo) s.heap := hP
  have hD : va_D A (cM kc a mo lo) := hD
  have hS : va_S A s.heap s.heap [] := hS
  obtain ⟨H, eH⟩ : ∃ z, z = s.heap := ⟨_, rfl⟩
  obtain ⟨locs, eL⟩ : ∃ z : List Loc, z = [] := ⟨_, rfl⟩
  have hP := q_heap hP eH
  have hS := q_heapS hS eH eL
  refine q_start eH eL ?_
  clear eH eL
  have hi4 : ∀ w ∈ u_ws RX4 TX4 29, w ∈ wsX4_readLineOf := by decide +kernel
  unfold w_X4_readLineOf at h
  refine lv_iload_n hx hb dX4_readLineOf_0 rfl (lv_at hl 1 rfl) ?_
  by_cases c1 : p1 = 4
  · have h := br1 h c1
    refine lv_tableIn (tgt := 28) hx hb dX4_readLineOf_1 (by rw [c1]; all_goals decide) (by rw [c1]; all_goals decide) (by rw [c1]; all_goals rfl) (by decide) ?_
    refine lv_aload_n hx hb dX4_readLineOf_28 rfl (lv_at hl 0 rfl) ?_
    refine q_cVv (As := []) (rest := []) ⟨hx, hb, hml, hown, hts⟩ hK (c_X4_readGift l D kc a mo lo H.size _ h) (cwV 0 hts gX4_readLineOf_X4_readGift rfl rfl rfl (by decide +kernel) ⟨Nat.le_of_ble_eq_true rfl, Nat.le_of_ble_eq_true rfl⟩) (cut_same (fun u : S2 × SL => cM kc a u.1 u.2) (mo, lo)) hP hD hS hA 4 0 rfl rfl rfl hl.1 rfl (Nat.le_of_ble_eq_true rfl) dX4_readLineOf_29 ⟨Nat.zero_le _, Nat.zero_le _⟩ (fun u4 H locs h hP hD hS => ?_)
    obtain ⟨mo2, lo3⟩ := u4
    have hP : va_P D vwCl (cM kc a mo2 lo3) H := hP
    have hD : va_D A (cM kc a mo2 lo3) := hD
    refine lv_goto (tgt := 130) hx hb dX4_readLineOf_32 (by decide) ?_
    exact hret (mo2, lo3) H locs ls _ h hP hD hS dX4_readLineOf_130
  have h := br2 h c1
  by_cases c5 : p1 = 5
  · have h := br1 h c5
    refine lv_tableIn (tgt := 35) hx hb dX4_readLineOf_1 (by rw [c5]; all_goals decide) (by rw [c5]; all_goals decide) (by rw [c5]; all_goals rfl) (by decide) ?_
    refine lv_aload_n hx hb dX4_readLineOf_35 rfl (lv_at hl 0 rfl) ?_
    refine va_get (D := D) (ci := 4) (v := .ref (a 4)) (C := RX4) (T := TX4) (N := 29) hx hb hts hi4 hown hK.1 hP 0 rfl rfl 4 (by decide) (hts (.fieldLink RX4 20 "LastPennyModel" "draft" "[I") (by decide +kernel)) (fun _ h9 => h9) rfl dX4_readLineOf_36 ?_
    refine lv_bipush (v := 21) hx hb dX4_readLineOf_39 (by decide) ?_
    refine lv_aload_n hx hb dX4_readLineOf_41 rfl (lv_at hl 0 rfl) ?_
    refine lv_iconst (v := 0) hx hb dX4_readLineOf_42 (by decide) ?_
    refine lv_bipush (v := 9) hx hb dX4_readLineOf_43 (by decide) ?_
    refine q_cVi (As := [.int 0, .int 9]) (rest := [.int 21, .ref (a 4)]) ⟨hx, hb, hml, hown, hts⟩ hK (c_X4_readNumber l D kc a (0 : Int32) (9 : Int32) mo lo H.size _ h) (cwV 2 hts gX4_readLineOf_X4_readNumber rfl rfl rfl (by decide +kernel) ⟨Nat.le_of_ble_eq_true rfl, Nat.le_of_ble_eq_true rfl⟩) (cut_same (fun u : S2 × SL => cM kc a u.1 u.2) (mo, lo)) hP hD hS hA 4 0 rfl rfl rfl hl.1 rfl (Nat.le_of_ble_eq_true rfl) dX4_readLineOf_45 ⟨Nat.zero_le _, Nat.zero_le _⟩ (fun r8 u9 H locs h hP hD hS => ?_)
    obtain ⟨mo6, lo7⟩ := u9
    have hP : va_P D vwCl (cM kc a mo6 lo7) H := hP
    have hD : va_D A (cM kc a mo6 lo7) := hD
    refine va_iast hx hb hK.1 hP hD hS 4 0 rfl rfl (by unfold vp_in; decide) dX4_readLineOf_48 (fun H locs hP hD hS => ?_)
    obtain ⟨mo10, emo10⟩ : ∃ z, z = (va_up mo6 4 (upd (mo6 4) (21 : Int32).toNatClampNeg r8)) := ⟨_, rfl⟩
    have h := nm_out h mo10 emo10
    have hP : va_P D vwCl (cM kc a mo10 lo7) H := q_to hP (by subst emo10; rfl)
    have hD : va_D A (cM kc a mo10 lo7) := q_toD hD (by subst emo10; rfl)
    refine lv_goto (tgt := 130) hx hb dX4_readLineOf_49 (by decide) ?_
    exact hret (mo10, lo7) H locs ls _ h hP hD hS dX4_readLineOf_130
  have h := br2 h c5
  by_cases c11 : p1 = 6
  · have h := br1 h c11
    refine lv_tableIn (tgt := 52) hx hb dX4_readLineOf_1 (by rw [c11]; all_goals decide) (by rw [c11]; all_goals decide) (by rw [c11]; all_goals rfl) (by decide) ?_
    refine lv_aload_n hx hb dX4_readLineOf_52 rfl (lv_at hl 0 rfl) ?_
    refine va_get (D := D) (ci := 4) (v := .ref (a 4)) (C := RX4) (T := TX4) (N := 29) hx hb hts hi4 hown hK.1 hP 0 rfl rfl 4 (by decide) (hts (.fieldLink RX4 20 "LastPennyModel" "draft" "[I") (by decide +kernel)) (fun _ h9 => h9) rfl dX4_readLineOf_53 ?_
    refine lv_bipush (v := 22) hx hb dX4_readLineOf_56 (by decide) ?_
    refine lv_aload_n hx hb dX4_readLineOf_58 rfl (lv_at hl 0 rfl) ?_
    refine q_cVi (As := []) (rest := [.int 22, .ref (a 4)]) ⟨hx, hb, hml, hown, hts⟩ hK (c_X4_readOne l D kc a mo lo H.size _ h) (cwV 0 hts gX4_readLineOf_X4_readOne rfl rfl rfl (by decide +kernel) ⟨Nat.le_of_ble_eq_true rfl, Nat.le_of_ble_eq_true rfl⟩) (cut_same (fun u : S2 × SL => cM kc a u.1 u.2) (mo, lo)) hP hD hS hA 4 0 rfl rfl rfl hl.1 rfl (Nat.le_of_ble_eq_true rfl) dX4_readLineOf_59 ⟨Nat.zero_le _, Nat.zero_le _⟩ (fun r14 u15 H locs h hP hD hS => ?_)
    obtain ⟨mo12, lo13⟩ := u15
    have hP : va_P D vwCl (cM kc a mo12 lo13) H := hP
    have hD : va_D A (cM kc a mo12 lo13) := hD
    refine va_iast hx hb hK.1 hP hD hS 4 0 rfl rfl (by unfold vp_in; decide) dX4_readLineOf_62 (fun H locs hP hD hS => ?_)
    obtain ⟨mo16, emo16⟩ : ∃ z, z = (va_up mo12 4 (upd (mo12 4) (22 : Int32).toNatClampNeg r14)) := ⟨_, rfl⟩
    have h := nm_out h mo16 emo16
    have hP : va_P D vwCl (cM kc a mo16 lo13) H := q_to hP (by subst emo16; rfl)
    have hD : va_D A (cM kc a mo16 lo13) := q_toD hD (by subst emo16; rfl)
    refine lv_goto (tgt := 130) hx hb dX4_readLineOf_63 (by decide) ?_
    exact hret (mo16, lo13) H locs ls _ h hP hD hS dX4_readLineOf_130
  have h := br2 h c11
  have ht17 := lv_neT (a := 4) c1 (by decide)
  have ht18 := lv_neT (a := 5) c5 (by decide)
  have ht19 := lv_neT (a := 6) c11 (by decide)
  refine lv_tableOut (tgt := 66) hx hb dX4_readLineOf_1 (by omega) (by decide) ?_
  refine lv_aload_n hx hb dX4_readLineOf_66 rfl (lv_at hl 0 rfl) ?_
  refine va_get (D := D) (ci := 4) (v := .ref (a 4)) (C := RX4) (T := TX4) (N := 29) hx hb hts hi4 hown hK.1 hP 0 rfl rfl 4 (by decide) (hts (.fieldLink RX4 20 "LastPennyModel" "draft" "[I") (by decide +kernel)) (fun _ h9 => h9) rfl dX4_readLineOf_67 ?_
  refine lv_iconst (v := 4) hx hb dX4_readLineOf_70 (by decide) ?_
  refine lv_aload_n hx hb dX4_readLineOf_71 rfl (lv_at hl 0 rfl) ?_
  refine va_get (D := D) (ci := 4) (v := .int (mo 0 5)) (C := RX4) (T := TX4) (N := 29) hx hb hts hi4 hown hK.1 hP 0 rfl rfl 5 (by decide) (hts (.fieldLink RX4 53 "LastPennyModel" "dPeople" "I") (by decide +kernel)) (fun _ h9 => h9) rfl dX4_readLineOf_72 ?_
  refine lv_imul hx hb dX4_readLineOf_75 ?_
  refine lv_iconst (v := 0) hx hb dX4_readLineOf_76 (by decide) ?_
  refine lv_iadd hx hb dX4_readLineOf_77 ?_
  refine lv_iload_n hx hb dX4_readLineOf_78 rfl (lv_at hl 1 rfl) ?_
  obtain ⟨hi_20, h⟩ := h
  refine va_iast hx hb hK.1 hP hD hS 4 0 rfl rfl hi_20 dX4_readLineOf_79 (fun H locs hP hD hS => ?_)
  obtain ⟨mo21, emo21⟩ : ∃ z, z = (va_up mo 4 (upd (mo 4) ((4 * (mo 0 5)) + 0).toNatClampNeg p1)) := ⟨_, rfl⟩
  have h := nm_out h mo21 emo21
  have hP : va_P D vwCl (cM kc a mo21 lo) H := q_to hP (by subst emo21; rfl)
  have hD : va_D A (cM kc a mo21 lo) := q_toD hD (by subst emo21; rfl)
  refine lv_aload_n hx hb dX4_readLineOf_80 rfl (lv_at hl 0 rfl) ?_
  refine va_get (D := D) (ci := 4) (v := .ref (a 4)) (C := RX4) (T := TX4) (N := 29) hx hb hts hi4 hown hK.1 hP 0 rfl rfl 4 (by decide) (hts (.fieldLink RX4 20 "LastPennyModel" "draft" "[I") (by decide +kernel)) (fun _ h9 => h9) rfl dX4_readLineOf_81 ?_
  refine lv_iconst (v := 4) hx hb dX4_readLineOf_84 (by decide) ?_
  refine lv_aload_n hx hb dX4_readLineOf_85 rfl (lv_at hl 0 rfl) ?_
  refine va_get (D := D) (ci := 4) (v := .int (mo21 0 5)) (C := RX4) (T := TX4) (N := 29) hx hb hts hi4 hown hK.1 hP 0 rfl rfl 5 (by decide) (hts (.fieldLink RX4 53 "LastPennyModel" "dPeople" "I") (by decide +kernel)) (fun _ h9 => h9) rfl dX4_readLineOf_86 ?_
  refine lv_imul hx hb dX4_readLineOf_89 ?_
  refine lv_iconst (v := 1) hx hb dX4_readLineOf_90 (by decide) ?_
  refine lv_iadd hx hb dX4_readLineOf_91 ?_
  refine lv_aload_n hx hb dX4_readLineOf_92 rfl (lv_at hl 0 rfl) ?_
  refine lv_iconst (v := 0) hx hb dX4_readLineOf_93 (by decide) ?_
  refine lv_bipush (v := 99) hx hb dX4_readLineOf_94 (by decide) ?_
  refine q_cVi (As := [.int 0, .int 99]) (rest := [.int ((4 * (mo21 0 5)) + 1), .ref (a 4)]) ⟨hx, hb, hml, hown, hts⟩ hK (c_X4_readNumber l D kc a (0 : Int32) (99 : Int32) mo21 lo H.size _ h) (cwV 2 hts gX4_readLineOf_X4_readNumber rfl rfl rfl (by decide +kernel) ⟨Nat.le_of_ble_eq_true rfl, Nat.le_of_ble_eq_true rfl⟩) (cut_same (fun u : S2 × SL => cM kc a u.1 u.2) (mo21, lo)) hP hD hS hA 4 0 rfl rfl rfl hl.1 rfl (Nat.le_of_ble_eq_true rfl) dX4_readLineOf_96 ⟨Nat.zero_le _, Nat.zero_le _⟩ (fun r24 u25 H locs h hP hD hS => ?_)
  obtain ⟨mo22, lo23⟩ := u25
  have hP : va_P D vwCl (cM kc a mo22 lo23) H := hP
  have hD : va_D A (cM kc a mo22 lo23) := hD
  obtain ⟨hi_26, h⟩ := h
  refine va_iast hx hb hK.1 hP hD hS 4 0 rfl rfl hi_26 dX4_readLineOf_99 (fun H locs hP hD hS => ?_)
  obtain ⟨mo27, emo27⟩ : ∃ z, z = (va_up mo22 4 (upd (mo22 4) ((4 * (mo21 0 5)) + 1).toNatClampNeg r24)) := ⟨_, rfl⟩
  have h := nm_out h mo27 emo27
  have hP : va_P D vwCl (cM kc a mo27 lo23) H := q_to hP (by subst emo27; rfl)
  have hD : va_D A (cM kc a mo27 lo23) := q_toD hD (by subst emo27; rfl)
  refine lv_aload_n hx hb dX4_readLineOf_100 rfl (lv_at hl 0 rfl) ?_
  refine va_get (D := D) (ci := 4) (v := .ref (a 4)) (C := RX4) (T := TX4) (N := 29) hx hb hts hi4 hown hK.1 hP 0 rfl rfl 4 (by decide) (hts (.fieldLink RX4 20 "LastPennyModel" "draft" "[I") (by decide +kernel)) (fun _ h9 => h9) rfl dX4_readLineOf_101 ?_
  refine lv_iconst (v := 4) hx hb dX4_readLineOf_104 (by decide) ?_
  refine lv_aload_n hx hb dX4_readLineOf_105 rfl (lv_at hl 0 rfl) ?_
  refine va_get (D := D) (ci := 4) (v := .int (mo27 0 5)) (C := RX4) (T := TX4) (N := 29) hx hb hts hi4 hown hK.1 hP 0 rfl rfl 5 (by decide) (hts (.fieldLink RX4 53 "LastPennyModel" "dPeople" "I") (by decide +kernel)) (fun _ h9 => h9) rfl dX4_readLineOf_106 ?_
  refine lv_imul hx hb dX4_readLineOf_109 ?_
  refine lv_iconst (v := 2) hx hb dX4_readLineOf_110 (by decide) ?_
  refine lv_iadd hx hb dX4_readLineOf_111 ?_
  refine lv_aload_n hx hb dX4_readLineOf_112 rfl (lv_at hl 0 rfl) ?_
  refine lv_iconst (v := 0) hx hb dX4_readLineOf_113 (by decide) ?_
  refine lv_bipush (v := 20) hx hb dX4_readLineOf_114 (by decide) ?_
  refine q_cVi (As := [.int 0, .int 20]) (rest := [.int ((4 * (mo27 0 5)) + 2), .ref (a 4)]) ⟨hx, hb, hml, hown, hts⟩ hK (c_X4_readNumber l D kc a (0 : Int32) (20 : Int32) mo27 lo23 H.size _ h) (cwV 2 hts gX4_readLineOf_X4_readNumber rfl rfl rfl (by decide +kernel) ⟨Nat.le_of_ble_eq_true rfl, Nat.le_of_ble_eq_true rfl⟩) (cut_same (fun u : S2 × SL => cM kc a u.1 u.2) (mo27, lo23)) hP hD hS hA 4 0 rfl rfl rfl hl.1 rfl (Nat.le_of_ble_eq_true rfl) dX4_readLineOf_116 ⟨Nat.zero_le _, Nat.zero_le _⟩ (fun r30 u31 H locs h hP hD hS => ?_)
  obtain ⟨mo28, lo29⟩ := u31
  have hP : va_P D vwCl (cM kc a mo28 lo29) H := hP
  have hD : va_D A (cM kc a mo28 lo29) := hD
  obtain ⟨hi_32, h⟩ := h
  refine va_iast hx hb hK.1 hP hD hS 4 0 rfl rfl hi_32 dX4_readLineOf_119 (fun H locs hP hD hS => ?_)
  obtain ⟨mo33, emo33⟩ : ∃ z, z = (va_up mo28 4 (upd (mo28 4) ((4 * (mo27 0 5)) + 2).toNatClampNeg r30)) := ⟨_, rfl⟩
  have h := nm_out h mo33 emo33
  have hP : va_P D vwCl (cM kc a mo33 lo29) H := q_to hP (by subst emo33; rfl)
  have hD : va_D A (cM kc a mo33 lo29) := q_toD hD (by subst emo33; rfl)
  refine lv_aload_n hx hb dX4_readLineOf_120 rfl (lv_at hl 0 rfl) ?_
  refine lv_dup hx hb dX4_readLineOf_121 rfl ?_
  refine va_get (D := D) (ci := 4) (v := .int (mo33 0 5)) (C := RX4) (T := TX4) (N := 29) hx hb hts hi4 hown hK.1 hP 0 rfl rfl 5 (by decide) (hts (.fieldLink RX4 53 "LastPennyModel" "dPeople" "I") (by decide +kernel)) (fun _ h9 => h9) rfl dX4_readLineOf_122 ?_
  refine lv_iconst (v := 1) hx hb dX4_readLineOf_125 (by decide) ?_
  refine lv_iadd hx hb dX4_readLineOf_126 ?_
  refine va_put (D := D) (ci := 4) (v := .int ((mo33 0 5) + 1)) (ty := .int) (C := RX4) (T := TX4) (N := 29) hx hb hts hi4 tyX4 tyX4_ok nmX4 hown hK.1 hP hD hS 0 rfl rfl 5 (by decide) (hts (.fieldLink RX4 53 "LastPennyModel" "dPeople" "I") (by decide +kernel)) (fun _ h9 => h9) rfl (by decide +kernel) rfl rfl (Nat.le_of_ble_eq_true rfl) dX4_readLineOf_127 (fun H locs hP hD hS => ?_)
  obtain ⟨mo34, emo34⟩ : ∃ z, z = (va_up mo33 0 (upd (mo33 0) 5 ((mo33 0 5) + 1))) := ⟨_, rfl⟩
  have h := nm_out h mo34 emo34
  have hP : va_P D vwCl (cM kc a mo34 lo29) H := q_to hP (by subst emo34; rfl)
  have hD : va_D A (cM kc a mo34 lo29) := q_toD hD (by subst emo34; rfl)
  exact hret (mo34, lo29) H locs ls _ h hP hD hS dX4_readLineOf_130

def w_X4_readLine (mo : S2) (lo : SL) (K : S2 → SL → Prop) : Prop := jn (fun (k1 : Int32) (mo2 : S2) (lo3 : SL) => jn (fun (k4 : Int32) => w_X4_needs k4 (2 : Int32) mo2 lo3 (fun mo5 lo6 => jn (fun (k8 : Int32) => w_X4_needs k8 (5 : Int32) mo5 lo6 (fun mo9 lo10 => jn (fun (k12 : Int32) => w_X4_needs k12 (4 : Int32) mo9 lo10 (fun mo13 lo14 => jn (fun (k16 : Int32) => w_X4_needs k16 (4 : Int32) mo13 lo14 (fun mo17 lo18 => jn (fun (k20 : Int32) => (k20 = 0 ∨ k20 = 1) ∧ (nm ((va_up mo17 0 (upd (mo17 0) 6 k20)) : S2) (fun mo22 => jn (fun (k23 : Int32) => (k23 = 0 ∨ k23 = 1) ∧ (nm ((va_up mo22 0 (upd (mo22 0) 7 k23)) : S2) (fun mo25 => w_X4_takes mo25 lo18 (fun mo26 lo27 => br ((mo26 0 15) ≤ 0) (w_X4_readLineOf k1 mo26 lo27 (fun mo30 lo31 => jn (fun (mo33 : S2) (lo34 : SL) => w_X4_takes mo33 lo34 (fun mo35 lo36 => K mo35 lo36)) (fun J206 => br ((mo30 0 15) = 0) (jn (fun (k39 : Int32) => w_X4_needs k39 (2 : Int32) mo30 lo31 (fun mo40 lo41 => J206 mo40 lo41)) (fun J202 => br ((mo30 0 13) = 3) (J202 1) (J202 0))) (J206 mo30 lo31)))) (K mo26 lo27))))) (fun J161 => jn (fun (_ : Unit) => J161 1) (fun J156 => br ((mo22 0 7) = 0) (br (k1 = 6) (J156 ()) (J161 0)) (J156 ())))))) (fun J139 => jn (fun (_ : Unit) => J139 1) (fun J134 => br ((mo17 0 6) = 0) (br (k1 = 5) (J134 ()) (J139 0)) (J134 ()))))) (fun J117 => jn (fun (_ : Unit) => J117 1) (fun J112 => br (k1 = 6) (br ((mo13 0 7) = 0) (J112 ()) (J117 0)) (J112 ()))))) (fun J94 => jn (fun (_ : Unit) => J94 1) (fun J89 => br (k1 = 5) (br ((mo9 0 6) = 0) (J89 ()) (J94 0)) (J89 ()))))) (fun J72 => jn (fun (_ : Unit) => J72 1) (fun J67 => br (4 < k1) (J67 ()) (jn (fun (_ : Unit) => J72 0) (fun J71 => br (k1 = 4) (br (4 ≤ (mo5 4 (23 : Int32).toNatClampNeg)) (J71 ()) (J67 ())) (br (5 ≤ (mo5 0 5)) (J71 ()) (J67 ())))))))) (fun J30 => br (k1 = (-4)) (J30 0) (J30 1))) (fun J17 => br ((mo 0 13) = 1) (w_X4_lineNow mo lo (fun r60 mo58 lo59 => J17 r60 mo58 lo59)) (J17 (-4) mo lo))
abbrev rm_X4_readLine : Room := { frames := 6, cells := 0, slots := 0, locals := 134 }
set_option maxHeartbeats 4000000 in
set_option maxRecDepth 100000 in
theorem c_X4_readLine (l : Launch) (D : va_G) (kc : Nat → ClassId) (a : Nat → Nat) (mo : S2) (lo : SL) (sz : Nat) (K : S2 → SL → Prop) (h : w_X4_readLine mo lo K) : MetV l yX4_readLine wsX4_readLine rm_X4_readLine D kc (fun u : S2 × SL => cM kc a u.1 u.2) (mo, lo) [.ref (a 0)] sz (fun u => K u.1 u.2) := by
  refine q_ev (code := cX4_readLine) (maxL := 2) (by decide) rfl (Nat.le_of_ble_eq_true rfl) ?_
  intro p e s m args below meth c Q A hx hb hml hts hown hK hA hret ls hl hP hD hS
  have hown : s.vm.findClass RX4 = some m.cls := hown
  have hl : lv_has ls 2 [(0, .ref (a 0))] := hl
  have hP : va_P D vwCl (cM kc a mo lo) s.heap := hP
  have hD : va_D A (cM kc a mo lo) := hD
  have hS : va_S A s.heap s.heap [] := hS
  obtain ⟨H, eH⟩ : ∃ z, z = s.heap := ⟨_, rfl⟩
  obtain ⟨locs, eL⟩ : ∃ z : List Loc, z = [] := ⟨_, rfl⟩
  have hP := q_heap hP eH
  have hS := q_heapS hS eH eL
  refine q_start eH eL ?_
  clear eH eL
  have hi4 : ∀ w ∈ u_ws RX4 TX4 29, w ∈ wsX4_readLine := by decide +kernel
  unfold w_X4_readLine at h
  refine lv_aload_n hx hb dX4_readLine_0 rfl (lv_at hl 0 rfl) ?_
  refine va_get (D := D) (ci := 4) (v := .int (mo 0 13)) (C := RX4) (T := TX4) (N := 29) hx hb hts hi4 hown hK.1 hP 0 rfl rfl 13 (by decide) (hts (.fieldLink RX4 107 "LastPennyModel" "sort" "I") (by decide +kernel)) (fun _ h9 => h9) rfl dX4_readLine_1 ?_
  refine lv_iconst (v := 1) hx hb dX4_readLine_4 (by decide) ?_
  refine jn_elim h (fun J17 eJ17 h => ?_)
  have hJ_17 : ∀ (k1 : Int32) (mo2 : S2) (lo3 : SL) (ls : Array Slot) (H : Heap) (locs : List Loc), J17 k1 mo2 lo3 → lv_has ls 2 [(0, .ref (a 0))] → va_P D vwCl (cM kc a mo2 lo3) H → va_D A (cM kc a mo2 lo3) → va_S A s.heap H locs → W p l e rm_X4_readLine s m args below meth c H locs 0 0 Q (F0 m 17 ls [.int k1]) := by
    intro k1 mo2 lo3 ls H locs h hl hP hD hS
    subst eJ17
    refine lv_istore_n (lv' := [(1, .int k1), (0, .ref (a 0))]) hx hb dX4_readLine_17 rfl hl (by decide) rfl (fun ls hl => ?_)
    refine lv_aload_n hx hb dX4_readLine_18 rfl (lv_at hl 1 rfl) ?_
    refine lv_iload_n hx hb dX4_readLine_19 rfl (lv_at hl 0 rfl) ?_
    refine lv_bipush (v := -4) hx hb dX4_readLine_20 (by decide) ?_
    refine jn_elim h (fun J30 eJ30 h => ?_)
    have hJ_30 : ∀ (k4 : Int32) (ls : Array Slot), J30 k4 → lv_has ls 2 [(0, .ref (a 0)), (1, .int k1)] → W p l e rm_X4_readLine s m args below meth c H locs 0 0 Q (F0 m 30 ls [.int k4, .ref (a 0)]) := by
      intro k4 ls h hl
      subst eJ30
      refine lv_iconst (v := 2) hx hb dX4_readLine_30 (by decide) ?_
      refine q_cVv (As := [.int k4, .int 2]) (rest := []) ⟨hx, hb, hml, hown, hts⟩ hK (c_X4_needs l D kc a k4 (2 : Int32) mo2 lo3 H.size _ h) (cwV 2 hts gX4_readLine_X4_needs rfl rfl rfl (by decide +kernel) ⟨Nat.le_of_ble_eq_true rfl, Nat.le_of_ble_eq_true rfl⟩) (cut_same (fun u : S2 × SL => cM kc a u.1 u.2) (mo2, lo3)) hP hD hS hA 4 0 rfl rfl rfl hl.1 rfl (Nat.le_of_ble_eq_true rfl) dX4_readLine_31 ⟨Nat.zero_le _, Nat.zero_le _⟩ (fun u7 H locs h hP hD hS => ?_)
      obtain ⟨mo5, lo6⟩ := u7
      have hP : va_P D vwCl (cM kc a mo5 lo6) H := hP
      have hD : va_D A (cM kc a mo5 lo6) := hD
      refine lv_aload_n hx hb dX4_readLine_34 rfl (lv_at hl 0 rfl) ?_
      refine lv_iload_n hx hb dX4_readLine_35 rfl (lv_at hl 1 rfl) ?_
      refine lv_iconst (v := 4) hx hb dX4_readLine_36 (by decide) ?_
      refine jn_elim h (fun J72 eJ72 h => ?_)
      have hJ_72 : ∀ (k8 : Int32) (ls : Array Slot), J72 k8 → lv_has ls 2 [(0, .ref (a 0)), (1, .int k1)] → W p l e rm_X4_readLine s m args below meth c H locs 0 0 Q (F0 m 72 ls [.int k8, .ref (a 0)]) := by
        intro k8 ls h hl
        subst eJ72
        refine lv_iconst (v := 5) hx hb dX4_readLine_72 (by decide) ?_
        refine q_cVv (As := [.int k8, .int 5]) (rest := []) ⟨hx, hb, hml, hown, hts⟩ hK (c_X4_needs l D kc a k8 (5 : Int32) mo5 lo6 H.size _ h) (cwV 2 hts gX4_readLine_X4_needs rfl rfl rfl (by decide +kernel) ⟨Nat.le_of_ble_eq_true rfl, Nat.le_of_ble_eq_true rfl⟩) (cut_same (fun u : S2 × SL => cM kc a u.1 u.2) (mo5, lo6)) hP hD hS hA 4 0 rfl rfl rfl hl.1 rfl (Nat.le_of_ble_eq_true rfl) dX4_readLine_73 ⟨Nat.zero_le _, Nat.zero_le _⟩ (fun u11 H locs h hP hD hS => ?_)
        obtain ⟨mo9, lo10⟩ := u11
        have hP : va_P D vwCl (cM kc a mo9 lo10) H := hP
        have hD : va_D A (cM kc a mo9 lo10) := hD
        refine lv_aload_n hx hb dX4_readLine_76 rfl (lv_at hl 0 rfl) ?_
        refine lv_iload_n hx hb dX4_readLine_77 rfl (lv_at hl 1 rfl) ?_
        refine lv_iconst (v := 5) hx hb dX4_readLine_78 (by decide) ?_
        refine jn_elim h (fun J94 eJ94 h => ?_)
        have hJ_94 : ∀ (k12 : Int32) (ls : Array Slot), J94 k12 → lv_has ls 2 [(0, .ref (a 0)), (1, .int k1)] → W p l e rm_X4_readLine s m args below meth c H locs 0 0 Q (F0 m 94 ls [.int k12, .ref (a 0)]) := by
          intro k12 ls h hl
          subst eJ94
          refine lv_iconst (v := 4) hx hb dX4_readLine_94 (by decide) ?_
          refine q_cVv (As := [.int k12, .int 4]) (rest := []) ⟨hx, hb, hml, hown, hts⟩ hK (c_X4_needs l D kc a k12 (4 : Int32) mo9 lo10 H.size _ h) (cwV 2 hts gX4_readLine_X4_needs rfl rfl rfl (by decide +kernel) ⟨Nat.le_of_ble_eq_true rfl, Nat.le_of_ble_eq_true rfl⟩) (cut_same (fun u : S2 × SL => cM kc a u.1 u.2) (mo9, lo10)) hP hD hS hA 4 0 rfl rfl rfl hl.1 rfl (Nat.le_of_ble_eq_true rfl) dX4_readLine_95 ⟨Nat.zero_le _, Nat.zero_le _⟩ (fun u15 H locs h hP hD hS => ?_)
          obtain ⟨mo13, lo14⟩ := u15
          have hP : va_P D vwCl (cM kc a mo13 lo14) H := hP
          have hD : va_D A (cM kc a mo13 lo14) := hD
          refine lv_aload_n hx hb dX4_readLine_98 rfl (lv_at hl 0 rfl) ?_
          refine lv_iload_n hx hb dX4_readLine_99 rfl (lv_at hl 1 rfl) ?_
          refine lv_bipush (v := 6) hx hb dX4_readLine_100 (by decide) ?_
          refine jn_elim h (fun J117 eJ117 h => ?_)
          have hJ_117 : ∀ (k16 : Int32) (ls : Array Slot), J117 k16 → lv_has ls 2 [(0, .ref (a 0)), (1, .int k1)] → W p l e rm_X4_readLine s m args below meth c H locs 0 0 Q (F0 m 117 ls [.int k16, .ref (a 0)]) := by
            intro k16 ls h hl
            subst eJ117
            refine lv_iconst (v := 4) hx hb dX4_readLine_117 (by decide) ?_
            refine q_cVv (As := [.int k16, .int 4]) (rest := []) ⟨hx, hb, hml, hown, hts⟩ hK (c_X4_needs l D kc a k16 (4 : Int32) mo13 lo14 H.size _ h) (cwV 2 hts gX4_readLine_X4_needs rfl rfl rfl (by decide +kernel) ⟨Nat.le_of_ble_eq_true rfl, Nat.le_of_ble_eq_true rfl⟩) (cut_same (fun u : S2 × SL => cM kc a u.1 u.2) (mo13, lo14)) hP hD hS hA 4 0 rfl rfl rfl hl.1 rfl (Nat.le_of_ble_eq_true rfl) dX4_readLine_118 ⟨Nat.zero_le _, Nat.zero_le _⟩ (fun u19 H locs h hP hD hS => ?_)
            obtain ⟨mo17, lo18⟩ := u19
            have hP : va_P D vwCl (cM kc a mo17 lo18) H := hP
            have hD : va_D A (cM kc a mo17 lo18) := hD
            refine lv_aload_n hx hb dX4_readLine_121 rfl (lv_at hl 0 rfl) ?_
            refine lv_aload_n hx hb dX4_readLine_122 rfl (lv_at hl 0 rfl) ?_
            refine va_get (D := D) (ci := 4) (v := .int (mo17 0 6)) (C := RX4) (T := TX4) (N := 29) hx hb hts hi4 hown hK.1 hP 0 rfl rfl 6 (by decide) (hts (.fieldLink RX4 57 "LastPennyModel" "hasSlump" "Z") (by decide +kernel)) (fun _ h9 => h9) rfl dX4_readLine_123 ?_
            refine jn_elim h (fun J139 eJ139 h => ?_)
            have hJ_139 : ∀ (k20 : Int32) (ls : Array Slot), J139 k20 → lv_has ls 2 [(0, .ref (a 0)), (1, .int k1)] → W p l e rm_X4_readLine s m args below meth c H locs 0 0 Q (F0 m 139 ls [.int k20, .ref (a 0)]) := by
              intro k20 ls h hl
              subst eJ139
              obtain ⟨hz21, h⟩ := h
              refine va_put (D := D) (ci := 4) (v := .int k20) (ty := .boolean) (C := RX4) (T := TX4) (N := 29) hx hb hts hi4 tyX4 tyX4_ok nmX4 hown hK.1 hP hD hS 0 rfl rfl 6 (by decide) (hts (.fieldLink RX4 57 "LastPennyModel" "hasSlump" "Z") (by decide +kernel)) (fun _ h9 => h9) rfl (by decide +kernel) (q_nar hz21) (q_fit hz21) (Nat.le_of_ble_eq_true rfl) dX4_readLine_139 (fun H locs hP hD hS => ?_)
              obtain ⟨mo22, emo22⟩ : ∃ z, z = (va_up mo17 0 (upd (mo17 0) 6 k20)) := ⟨_, rfl⟩
              have h := nm_out h mo22 emo22
              have hP : va_P D vwCl (cM kc a mo22 lo18) H := q_to hP (by subst emo22; rfl)
              have hD : va_D A (cM kc a mo22 lo18) := q_toD hD (by subst emo22; rfl)
              refine lv_aload_n hx hb dX4_readLine_142 rfl (lv_at hl 0 rfl) ?_
              refine lv_aload_n hx hb dX4_readLine_143 rfl (lv_at hl 0 rfl) ?_
              refine va_get (D := D) (ci := 4) (v := .int (mo22 0 7)) (C := RX4) (T := TX4) (N := 29) hx hb hts hi4 hown hK.1 hP 0 rfl rfl 7 (by decide) (hts (.fieldLink RX4 61 "LastPennyModel" "hasCoin" "Z") (by decide +kernel)) (fun _ h9 => h9) rfl dX4_readLine_144 ?_
              refine jn_elim h (fun J161 eJ161 h => ?_)
              have hJ_161 : ∀ (k23 : Int32) (ls : Array Slot), J161 k23 → lv_has ls 2 [(0, .ref (a 0)), (1, .int k1)] → W p l e rm_X4_readLine s m args below meth c H locs 0 0 Q (F0 m 161 ls [.int k23, .ref (a 0)]) := by
                intro k23 ls h hl
                subst eJ161
                obtain ⟨hz24, h⟩ := h
                refine va_put (D := D) (ci := 4) (v := .int k23) (ty := .boolean) (C := RX4) (T := TX4) (N := 29) hx hb hts hi4 tyX4 tyX4_ok nmX4 hown hK.1 hP hD hS 0 rfl rfl 7 (by decide) (hts (.fieldLink RX4 61 "LastPennyModel" "hasCoin" "Z") (by decide +kernel)) (fun _ h9 => h9) rfl (by decide +kernel) (q_nar hz24) (q_fit hz24) (Nat.le_of_ble_eq_true rfl) dX4_readLine_161 (fun H locs hP hD hS => ?_)
                obtain ⟨mo25, emo25⟩ : ∃ z, z = (va_up mo22 0 (upd (mo22 0) 7 k23)) := ⟨_, rfl⟩
                have h := nm_out h mo25 emo25
                have hP : va_P D vwCl (cM kc a mo25 lo18) H := q_to hP (by subst emo25; rfl)
                have hD : va_D A (cM kc a mo25 lo18) := q_toD hD (by subst emo25; rfl)
                refine lv_aload_n hx hb dX4_readLine_164 rfl (lv_at hl 0 rfl) ?_
                refine q_cVv (As := []) (rest := []) ⟨hx, hb, hml, hown, hts⟩ hK (c_X4_takes l D kc a mo25 lo18 H.size _ h) (cwV 0 hts gX4_readLine_X4_takes rfl rfl rfl (by decide +kernel) ⟨Nat.le_of_ble_eq_true rfl, Nat.le_of_ble_eq_true rfl⟩) (cut_same (fun u : S2 × SL => cM kc a u.1 u.2) (mo25, lo18)) hP hD hS hA 4 0 rfl rfl rfl hl.1 rfl (Nat.le_of_ble_eq_true rfl) dX4_readLine_165 ⟨Nat.zero_le _, Nat.zero_le _⟩ (fun u28 H locs h hP hD hS => ?_)
                obtain ⟨mo26, lo27⟩ := u28
                have hP : va_P D vwCl (cM kc a mo26 lo27) H := hP
                have hD : va_D A (cM kc a mo26 lo27) := hD
                refine lv_aload_n hx hb dX4_readLine_168 rfl (lv_at hl 0 rfl) ?_
                refine va_get (D := D) (ci := 4) (v := .int (mo26 0 15)) (C := RX4) (T := TX4) (N := 29) hx hb hts hi4 hown hK.1 hP 0 rfl rfl 15 (by decide) (hts (.fieldLink RX4 79 "LastPennyModel" "fault" "I") (by decide +kernel)) (fun _ h9 => h9) rfl dX4_readLine_169 ?_
                refine lv_if_le (tgt := 176) hx hb dX4_readLine_172 (by decide) (fun c29 => ?_) (fun c29 => ?_)
                · have h := br1 h c29
                  refine lv_aload_n hx hb dX4_readLine_176 rfl (lv_at hl 0 rfl) ?_
                  refine lv_iload_n hx hb dX4_readLine_177 rfl (lv_at hl 1 rfl) ?_
                  refine q_cVv (As := [.int k1]) (rest := []) ⟨hx, hb, hml, hown, hts⟩ hK (c_X4_readLineOf l D kc a k1 mo26 lo27 H.size _ h) (cwV 1 hts gX4_readLine_X4_readLineOf rfl rfl rfl (by decide +kernel) ⟨Nat.le_of_ble_eq_true rfl, Nat.le_of_ble_eq_true rfl⟩) (cut_same (fun u : S2 × SL => cM kc a u.1 u.2) (mo26, lo27)) hP hD hS hA 4 0 rfl rfl rfl hl.1 rfl (Nat.le_of_ble_eq_true rfl) dX4_readLine_178 ⟨Nat.zero_le _, Nat.zero_le _⟩ (fun u32 H locs h hP hD hS => ?_)
                  obtain ⟨mo30, lo31⟩ := u32
                  have hP : va_P D vwCl (cM kc a mo30 lo31) H := hP
                  have hD : va_D A (cM kc a mo30 lo31) := hD
                  refine lv_aload_n hx hb dX4_readLine_181 rfl (lv_at hl 0 rfl) ?_
                  refine va_get (D := D) (ci := 4) (v := .int (mo30 0 15)) (C := RX4) (T := TX4) (N := 29) hx hb hts hi4 hown hK.1 hP 0 rfl rfl 15 (by decide) (hts (.fieldLink RX4 79 "LastPennyModel" "fault" "I") (by decide +kernel)) (fun _ h9 => h9) rfl dX4_readLine_182 ?_
                  refine jn_elim h (fun J206 eJ206 h => ?_)
                  have hJ_206 : ∀ (mo33 : S2) (lo34 : SL) (ls : Array Slot) (H : Heap) (locs : List Loc), J206 mo33 lo34 → lv_has ls 2 [(0, .ref (a 0))] → va_P D vwCl (cM kc a mo33 lo34) H → va_D A (cM kc a mo33 lo34) → va_S A s.heap H locs → W p l e rm_X4_readLine s m args below meth c H locs 0 0 Q (F0 m 206 ls []) := by
                    intro mo33 lo34 ls H locs h hl hP hD hS
                    subst eJ206
                    refine lv_aload_n hx hb dX4_readLine_206 rfl (lv_at hl 0 rfl) ?_
                    refine q_cVv (As := []) (rest := []) ⟨hx, hb, hml, hown, hts⟩ hK (c_X4_takes l D kc a mo33 lo34 H.size _ h) (cwV 0 hts gX4_readLine_X4_takes rfl rfl rfl (by decide +kernel) ⟨Nat.le_of_ble_eq_true rfl, Nat.le_of_ble_eq_true rfl⟩) (cut_same (fun u : S2 × SL => cM kc a u.1 u.2) (mo33, lo34)) hP hD hS hA 4 0 rfl rfl rfl hl.1 rfl (Nat.le_of_ble_eq_true rfl) dX4_readLine_207 ⟨Nat.zero_le _, Nat.zero_le _⟩ (fun u37 H locs h hP hD hS => ?_)
                    obtain ⟨mo35, lo36⟩ := u37
                    have hP : va_P D vwCl (cM kc a mo35 lo36) H := hP
                    have hD : va_D A (cM kc a mo35 lo36) := hD
                    exact hret (mo35, lo36) H locs ls _ h hP hD hS dX4_readLine_210
                  refine lv_if_ne (tgt := 206) hx hb dX4_readLine_185 (by decide) (fun c38 => ?_) (fun c38 => ?_)
                  · have h := br2 h c38
                    exact hJ_206 mo30 lo31 ls H locs h (lv_sub hl [0] rfl) hP hD hS
                  · have h := br1 h c38
                    refine lv_aload_n hx hb dX4_readLine_188 rfl (lv_at hl 0 rfl) ?_
                    refine lv_aload_n hx hb dX4_readLine_189 rfl (lv_at hl 0 rfl) ?_
                    refine va_get (D := D) (ci := 4) (v := .int (mo30 0 13)) (C := RX4) (T := TX4) (N := 29) hx hb hts hi4 hown hK.1 hP 0 rfl rfl 13 (by decide) (hts (.fieldLink RX4 107 "LastPennyModel" "sort" "I") (by decide +kernel)) (fun _ h9 => h9) rfl dX4_readLine_190 ?_
                    refine lv_iconst (v := 3) hx hb dX4_readLine_193 (by decide) ?_
                    refine jn_elim h (fun J202 eJ202 h => ?_)
                    have hJ_202 : ∀ (k39 : Int32) (ls : Array Slot), J202 k39 → lv_has ls 2 [(0, .ref (a 0))] → W p l e rm_X4_readLine s m args below meth c H locs 0 0 Q (F0 m 202 ls [.int k39, .ref (a 0)]) := by
                      intro k39 ls h hl
                      subst eJ202
                      refine lv_iconst (v := 2) hx hb dX4_readLine_202 (by decide) ?_
                      refine q_cVv (As := [.int k39, .int 2]) (rest := []) ⟨hx, hb, hml, hown, hts⟩ hK (c_X4_needs l D kc a k39 (2 : Int32) mo30 lo31 H.size _ h) (cwV 2 hts gX4_readLine_X4_needs rfl rfl rfl (by decide +kernel) ⟨Nat.le_of_ble_eq_true rfl, Nat.le_of_ble_eq_true rfl⟩) (cut_same (fun u : S2 × SL => cM kc a u.1 u.2) (mo30, lo31)) hP hD hS hA 4 0 rfl rfl rfl hl.1 rfl (Nat.le_of_ble_eq_true rfl) dX4_readLine_203 ⟨Nat.zero_le _, Nat.zero_le _⟩ (fun u42 H locs h hP hD hS => ?_)
                      obtain ⟨mo40, lo41⟩ := u42
                      have hP : va_P D vwCl (cM kc a mo40 lo41) H := hP
                      have hD : va_D A (cM kc a mo40 lo41) := hD
                      exact hJ_206 mo40 lo41 ls H locs h (lv_sub hl [0] rfl) hP hD hS
                    refine lv_icmp_ne (tgt := 201) hx hb dX4_readLine_194 (by decide) (fun c43 => ?_) (fun c43 => ?_)
                    · have h := br2 h c43
                      refine lv_iconst (v := 0) hx hb dX4_readLine_201 (by decide) ?_
                      exact hJ_202 0 ls h (lv_sub hl [0] rfl)
                    · have h := br1 h c43
                      refine lv_iconst (v := 1) hx hb dX4_readLine_197 (by decide) ?_
                      refine lv_goto (tgt := 202) hx hb dX4_readLine_198 (by decide) ?_
                      exact hJ_202 1 ls h (lv_sub hl [0] rfl)
                · have h := br2 h c29
                  exact hret (mo26, lo27) H locs ls _ h hP hD hS dX4_readLine_175
              refine jn_elim h (fun J156 eJ156 h => ?_)
              have hJ_156 : ∀  (ls : Array Slot), J156 () → lv_has ls 2 [(0, .ref (a 0)), (1, .int k1)] → W p l e rm_X4_readLine s m args below meth c H locs 0 0 Q (F0 m 156 ls [.ref (a 0)]) := by
                intro  ls h hl
                subst eJ156
                refine lv_iconst (v := 1) hx hb dX4_readLine_156 (by decide) ?_
                refine lv_goto (tgt := 161) hx hb dX4_readLine_157 (by decide) ?_
                exact hJ_161 1 ls h (lv_sub hl [0, 1] rfl)
              refine lv_if_ne (tgt := 156) hx hb dX4_readLine_147 (by decide) (fun c44 => ?_) (fun c44 => ?_)
              · have h := br2 h c44
                exact hJ_156 ls h (lv_sub hl [0, 1] rfl)
              · have h := br1 h c44
                refine lv_iload_n hx hb dX4_readLine_150 rfl (lv_at hl 1 rfl) ?_
                refine lv_bipush (v := 6) hx hb dX4_readLine_151 (by decide) ?_
                refine lv_icmp_ne (tgt := 160) hx hb dX4_readLine_153 (by decide) (fun c45 => ?_) (fun c45 => ?_)
                · have h := br2 h c45
                  refine lv_iconst (v := 0) hx hb dX4_readLine_160 (by decide) ?_
                  exact hJ_161 0 ls h (lv_sub hl [0, 1] rfl)
                · have h := br1 h c45
                  exact hJ_156 ls h (lv_sub hl [0, 1] rfl)
            refine jn_elim h (fun J134 eJ134 h => ?_)
            have hJ_134 : ∀  (ls : Array Slot), J134 () → lv_has ls 2 [(0, .ref (a 0)), (1, .int k1)] → W p l e rm_X4_readLine s m args below meth c H locs 0 0 Q (F0 m 134 ls [.ref (a 0)]) := by
              intro  ls h hl
              subst eJ134
              refine lv_iconst (v := 1) hx hb dX4_readLine_134 (by decide) ?_
              refine lv_goto (tgt := 139) hx hb dX4_readLine_135 (by decide) ?_
              exact hJ_139 1 ls h (lv_sub hl [0, 1] rfl)
            refine lv_if_ne (tgt := 134) hx hb dX4_readLine_126 (by decide) (fun c46 => ?_) (fun c46 => ?_)
            · have h := br2 h c46
              exact hJ_134 ls h (lv_sub hl [0, 1] rfl)
            · have h := br1 h c46
              refine lv_iload_n hx hb dX4_readLine_129 rfl (lv_at hl 1 rfl) ?_
              refine lv_iconst (v := 5) hx hb dX4_readLine_130 (by decide) ?_
              refine lv_icmp_ne (tgt := 138) hx hb dX4_readLine_131 (by decide) (fun c47 => ?_) (fun c47 => ?_)
              · have h := br2 h c47
                refine lv_iconst (v := 0) hx hb dX4_readLine_138 (by decide) ?_
                exact hJ_139 0 ls h (lv_sub hl [0, 1] rfl)
              · have h := br1 h c47
                exact hJ_134 ls h (lv_sub hl [0, 1] rfl)
          refine jn_elim h (fun J112 eJ112 h => ?_)
          have hJ_112 : ∀  (ls : Array Slot), J112 () → lv_has ls 2 [(0, .ref (a 0)), (1, .int k1)] → W p l e rm_X4_readLine s m args below meth c H locs 0 0 Q (F0 m 112 ls [.ref (a 0)]) := by
            intro  ls h hl
            subst eJ112
            refine lv_iconst (v := 1) hx hb dX4_readLine_112 (by decide) ?_
            refine lv_goto (tgt := 117) hx hb dX4_readLine_113 (by decide) ?_
            exact hJ_117 1 ls h (lv_sub hl [0, 1] rfl)
          refine lv_icmp_ne (tgt := 112) hx hb dX4_readLine_102 (by decide) (fun c48 => ?_) (fun c48 => ?_)
          · have h := br2 h c48
            exact hJ_112 ls h (lv_sub hl [0, 1] rfl)
          · have h := br1 h c48
            refine lv_aload_n hx hb dX4_readLine_105 rfl (lv_at hl 0 rfl) ?_
            refine va_get (D := D) (ci := 4) (v := .int (mo13 0 7)) (C := RX4) (T := TX4) (N := 29) hx hb hts hi4 hown hK.1 hP 0 rfl rfl 7 (by decide) (hts (.fieldLink RX4 61 "LastPennyModel" "hasCoin" "Z") (by decide +kernel)) (fun _ h9 => h9) rfl dX4_readLine_106 ?_
            refine lv_if_ne (tgt := 116) hx hb dX4_readLine_109 (by decide) (fun c49 => ?_) (fun c49 => ?_)
            · have h := br2 h c49
              refine lv_iconst (v := 0) hx hb dX4_readLine_116 (by decide) ?_
              exact hJ_117 0 ls h (lv_sub hl [0, 1] rfl)
            · have h := br1 h c49
              exact hJ_112 ls h (lv_sub hl [0, 1] rfl)
        refine jn_elim h (fun J89 eJ89 h => ?_)
        have hJ_89 : ∀  (ls : Array Slot), J89 () → lv_has ls 2 [(0, .ref (a 0)), (1, .int k1)] → W p l e rm_X4_readLine s m args below meth c H locs 0 0 Q (F0 m 89 ls [.ref (a 0)]) := by
          intro  ls h hl
          subst eJ89
          refine lv_iconst (v := 1) hx hb dX4_readLine_89 (by decide) ?_
          refine lv_goto (tgt := 94) hx hb dX4_readLine_90 (by decide) ?_
          exact hJ_94 1 ls h (lv_sub hl [0, 1] rfl)
        refine lv_icmp_ne (tgt := 89) hx hb dX4_readLine_79 (by decide) (fun c50 => ?_) (fun c50 => ?_)
        · have h := br2 h c50
          exact hJ_89 ls h (lv_sub hl [0, 1] rfl)
        · have h := br1 h c50
          refine lv_aload_n hx hb dX4_readLine_82 rfl (lv_at hl 0 rfl) ?_
          refine va_get (D := D) (ci := 4) (v := .int (mo9 0 6)) (C := RX4) (T := TX4) (N := 29) hx hb hts hi4 hown hK.1 hP 0 rfl rfl 6 (by decide) (hts (.fieldLink RX4 57 "LastPennyModel" "hasSlump" "Z") (by decide +kernel)) (fun _ h9 => h9) rfl dX4_readLine_83 ?_
          refine lv_if_ne (tgt := 93) hx hb dX4_readLine_86 (by decide) (fun c51 => ?_) (fun c51 => ?_)
          · have h := br2 h c51
            refine lv_iconst (v := 0) hx hb dX4_readLine_93 (by decide) ?_
            exact hJ_94 0 ls h (lv_sub hl [0, 1] rfl)
          · have h := br1 h c51
            exact hJ_89 ls h (lv_sub hl [0, 1] rfl)
      refine jn_elim h (fun J67 eJ67 h => ?_)
      have hJ_67 : ∀  (ls : Array Slot), J67 () → lv_has ls 2 [(0, .ref (a 0)), (1, .int k1)] → W p l e rm_X4_readLine s m args below meth c H locs 0 0 Q (F0 m 67 ls [.ref (a 0)]) := by
        intro  ls h hl
        subst eJ67
        refine lv_iconst (v := 1) hx hb dX4_readLine_67 (by decide) ?_
        refine lv_goto (tgt := 72) hx hb dX4_readLine_68 (by decide) ?_
        exact hJ_72 1 ls h (lv_sub hl [0, 1] rfl)
      refine lv_icmp_gt (tgt := 67) hx hb dX4_readLine_37 (by decide) (fun c52 => ?_) (fun c52 => ?_)
      · have h := br1 h c52
        exact hJ_67 ls h (lv_sub hl [0, 1] rfl)
      · have h := br2 h c52
        refine lv_iload_n hx hb dX4_readLine_40 rfl (lv_at hl 1 rfl) ?_
        refine lv_iconst (v := 4) hx hb dX4_readLine_41 (by decide) ?_
        refine jn_elim h (fun J71 eJ71 h => ?_)
        have hJ_71 : ∀  (ls : Array Slot), J71 () → lv_has ls 2 [(0, .ref (a 0)), (1, .int k1)] → W p l e rm_X4_readLine s m args below meth c H locs 0 0 Q (F0 m 71 ls [.ref (a 0)]) := by
          intro  ls h hl
          subst eJ71
          refine lv_iconst (v := 0) hx hb dX4_readLine_71 (by decide) ?_
          exact hJ_72 0 ls h (lv_sub hl [0, 1] rfl)
        refine lv_icmp_ne (tgt := 59) hx hb dX4_readLine_42 (by decide) (fun c53 => ?_) (fun c53 => ?_)
        · have h := br2 h c53
          refine lv_aload_n hx hb dX4_readLine_59 rfl (lv_at hl 0 rfl) ?_
          refine va_get (D := D) (ci := 4) (v := .int (mo5 0 5)) (C := RX4) (T := TX4) (N := 29) hx hb hts hi4 hown hK.1 hP 0 rfl rfl 5 (by decide) (hts (.fieldLink RX4 53 "LastPennyModel" "dPeople" "I") (by decide +kernel)) (fun _ h9 => h9) rfl dX4_readLine_60 ?_
          refine lv_iconst (v := 5) hx hb dX4_readLine_63 (by decide) ?_
          refine lv_icmp_ge (tgt := 71) hx hb dX4_readLine_64 (by decide) (fun c54 => ?_) (fun c54 => ?_)
          · have h := br1 h c54
            exact hJ_71 ls h (lv_sub hl [0, 1] rfl)
          · have h := br2 h c54
            exact hJ_67 ls h (lv_sub hl [0, 1] rfl)
        · have h := br1 h c53
          refine lv_aload_n hx hb dX4_readLine_45 rfl (lv_at hl 0 rfl) ?_
          refine va_get (D := D) (ci := 4) (v := .ref (a 4)) (C := RX4) (T := TX4) (N := 29) hx hb hts hi4 hown hK.1 hP 0 rfl rfl 4 (by decide) (hts (.fieldLink RX4 20 "LastPennyModel" "draft" "[I") (by decide +kernel)) (fun _ h9 => h9) rfl dX4_readLine_46 ?_
          refine lv_bipush (v := 23) hx hb dX4_readLine_49 (by decide) ?_
          refine va_iald hx hb hK.1 hP 4 0 rfl rfl (by unfold vp_in; decide) dX4_readLine_51 ?_
          refine lv_iconst (v := 4) hx hb dX4_readLine_52 (by decide) ?_
          refine lv_icmp_ge (tgt := 71) hx hb dX4_readLine_53 (by decide) (fun c55 => ?_) (fun c55 => ?_)
          · have h := br1 h c55
            exact hJ_71 ls h (lv_sub hl [0, 1] rfl)
          · have h := br2 h c55
            refine lv_goto (tgt := 67) hx hb dX4_readLine_56 (by decide) ?_
            exact hJ_67 ls h (lv_sub hl [0, 1] rfl)
    refine lv_icmp_eq (tgt := 29) hx hb dX4_readLine_22 (by decide) (fun c56 => ?_) (fun c56 => ?_)
    · have h := br1 h c56
      refine lv_iconst (v := 0) hx hb dX4_readLine_29 (by decide) ?_
      exact hJ_30 0 ls h (lv_sub hl [1, 0] rfl)
    · have h := br2 h c56
      refine lv_iconst (v := 1) hx hb dX4_readLine_25 (by decide) ?_
      refine lv_goto (tgt := 30) hx hb dX4_readLine_26 (by decide) ?_
      exact hJ_30 1 ls h (lv_sub hl [1, 0] rfl)
  refine lv_icmp_ne (tgt := 15) hx hb dX4_readLine_5 (by decide) (fun c57 => ?_) (fun c57 => ?_)
  · have h := br2 h c57
    refine lv_bipush (v := -4) hx hb dX4_readLine_15 (by decide) ?_
    exact hJ_17 (-4) mo lo ls H locs h (lv_sub hl [0] rfl) hP hD hS
  · have h := br1 h c57
    refine lv_aload_n hx hb dX4_readLine_8 rfl (lv_at hl 0 rfl) ?_
    refine q_cVi (As := []) (rest := []) ⟨hx, hb, hml, hown, hts⟩ hK (c_X4_lineNow l D kc a mo lo H.size _ h) (cwV 0 hts gX4_readLine_X4_lineNow rfl rfl rfl (by decide +kernel) ⟨Nat.le_of_ble_eq_true rfl, Nat.le_of_ble_eq_true rfl⟩) (cut_same (fun u : S2 × SL => cM kc a u.1 u.2) (mo, lo)) hP hD hS hA 4 0 rfl rfl rfl hl.1 rfl (Nat.le_of_ble_eq_true rfl) dX4_readLine_9 ⟨Nat.zero_le _, Nat.zero_le _⟩ (fun r60 u61 H locs h hP hD hS => ?_)
    obtain ⟨mo58, lo59⟩ := u61
    have hP : va_P D vwCl (cM kc a mo58 lo59) H := hP
    have hD : va_D A (cM kc a mo58 lo59) := hD
    refine lv_goto (tgt := 17) hx hb dX4_readLine_12 (by decide) ?_
    exact hJ_17 r60 mo58 lo59 ls H locs h (lv_sub hl [0] rfl) hP hD hS

