def w_X4_lay (p1 : Int32) (p2 : Int32) (p3 : Int32) (mo : S2) (lo : SL) (K : Int32 → S2 → SL → Prop) : Prop := w_X4_isSheet p1 (0 : Int32) (fun r1 => br (r1 = 0) (K (-1) mo lo) (vp_in p1 4 ∧ (br ((mo 9 p1.toNatClampNeg) = (-4)) (K (-11) mo lo) (vp_in p1 4 ∧ (w_X4_in (p2.toInt64) (0 : Int64) (((mo 10 p1.toNatClampNeg) - 1).toInt64) (fun r7 => br (r7 = 0) (K (-12) mo lo) (vp_in p1 4 ∧ (br ((mo 9 p1.toNatClampNeg) = 0) (vp_in ((40 * p1) + p2) 160 ∧ (nm ((va_up mo 11 (upd (mo 11) ((40 * p1) + p2).toNatClampNeg (p3.toInt8.toInt32))) : S2) (fun mo19 => K 1 mo19 lo))) (vp_in p1 4 ∧ (br ((mo 9 p1.toNatClampNeg) = 1) (vp_in ((40 * p1) + p2) 160 ∧ (nm ((va_up mo 11 (upd (mo 11) ((40 * p1) + p2).toNatClampNeg (p3.toInt16.toInt32))) : S2) (fun mo17 => K 1 mo17 lo))) (vp_in ((40 * p1) + p2) 160 ∧ (nm ((va_up mo 11 (upd (mo 11) ((40 * p1) + p2).toNatClampNeg p3)) : S2) (fun mo15 => K 1 mo15 lo)))))))))))))
abbrev rm_X4_lay : Room := { frames := 2, cells := 0, slots := 0, locals := 46 }
set_option maxHeartbeats 4000000 in
set_option maxRecDepth 100000 in
theorem c_X4_lay (l : Launch) (D : va_G) (kc : Nat → ClassId) (a : Nat → Nat) (p1 : Int32) (p2 : Int32) (p3 : Int32) (mo : S2) (lo : SL) (sz : Nat) (K : Int32 → S2 → SL → Prop) (h : w_X4_lay p1 p2 p3 mo lo K) : MetI l yX4_lay wsX4_lay rm_X4_lay D kc (fun u : S2 × SL => cM kc a u.1 u.2) (mo, lo) [.ref (a 0), .int p1, .int p2, .int p3] sz (fun r u => K r u.1 u.2) := by
  refine q_ei (code := cX4_lay) (maxL := 4) (by decide) rfl (Nat.le_of_ble_eq_true rfl) ?_
  intro p e s m args below meth c Q A hx hb hml hts hown hK hA hret ls hl hP hD hS
  have hown : s.vm.findClass RX4 = some m.cls := hown
  have hl : lv_has ls 4 [(0, .ref (a 0)), (1, .int p1), (2, .int p2), (3, .int p3)] := hl
  have hP : va_P D vwCl (cM kc a mo lo) s.heap := hP
  have hD : va_D A (cM kc a mo lo) := hD
  have hS : va_S A s.heap s.heap [] := hS
  obtain ⟨H, eH⟩ : ∃ z, z = s.heap := ⟨_, rfl⟩
  obtain ⟨locs, eL⟩ : ∃ z : List Loc, z = [] := ⟨_, rfl⟩
  have hP := q_heap hP eH
  have hS := q_heapS hS eH eL
  refine q_start eH eL ?_
  clear eH eL
  have hi4 : ∀ w ∈ u_ws RX4 TX4 29, w ∈ wsX4_lay := by decide +kernel
  unfold w_X4_lay at h
  refine lv_iload_n hx hb dX4_lay_0 rfl (lv_at hl 1 rfl) ?_
  refine lv_iconst (v := 0) hx hb dX4_lay_1 (by decide) ?_
  refine q_cSi (As := [.int p1, .int 0]) (rest := []) ⟨hx, hb, hml, hown, hts⟩ hK (c_X4_isSheet l D kc p1 (0 : Int32) H.size _ h) (va_cwS 2 hts gX4_lay_X4_isSheet rfl rfl rfl (by decide +kernel) ⟨Nat.le_of_ble_eq_true rfl, Nat.le_of_ble_eq_true rfl⟩) (cut_nil _) hP hD hS hA rfl hl.1 rfl (Nat.le_of_ble_eq_true rfl) dX4_lay_2 ⟨Nat.zero_le _, Nat.zero_le _⟩ (fun r1 _ H locs h hP hD hS => ?_)
  have hP : va_P D vwCl (cM kc a mo lo) H := hP
  have hD : va_D A (cM kc a mo lo) := hD
  refine lv_if_ne (tgt := 10) hx hb dX4_lay_5 (by decide) (fun c3 => ?_) (fun c3 => ?_)
  · have h := br2 h c3
    refine lv_aload_n hx hb dX4_lay_10 rfl (lv_at hl 0 rfl) ?_
    refine va_get (D := D) (ci := 4) (v := .ref (a 9)) (C := RX4) (T := TX4) (N := 29) hx hb hts hi4 hown hK.1 hP 0 rfl rfl 24 (by decide) (hts (.fieldLink RX4 35 "LastPennyModel" "lanes" "[I") (by decide +kernel)) (fun _ h9 => h9) rfl dX4_lay_11 ?_
    refine lv_iload_n hx hb dX4_lay_14 rfl (lv_at hl 1 rfl) ?_
    obtain ⟨hi_4, h⟩ := h
    refine va_iald hx hb hK.1 hP 9 0 rfl rfl hi_4 dX4_lay_15 ?_
    refine lv_bipush (v := -4) hx hb dX4_lay_16 (by decide) ?_
    refine lv_icmp_ne (tgt := 24) hx hb dX4_lay_18 (by decide) (fun c5 => ?_) (fun c5 => ?_)
    · have h := br2 h c5
      refine lv_iload_n hx hb dX4_lay_24 rfl (lv_at hl 2 rfl) ?_
      refine lv_i2l hx hb dX4_lay_25 rfl ?_
      refine lv_lconst (v := 0) hx hb dX4_lay_26 (by decide) ?_
      refine lv_aload_n hx hb dX4_lay_27 rfl (lv_at hl 0 rfl) ?_
      refine va_get (D := D) (ci := 4) (v := .ref (a 10)) (C := RX4) (T := TX4) (N := 29) hx hb hts hi4 hown hK.1 hP 0 rfl rfl 25 (by decide) (hts (.fieldLink RX4 38 "LastPennyModel" "sizes" "[I") (by decide +kernel)) (fun _ h9 => h9) rfl dX4_lay_28 ?_
      refine lv_iload_n hx hb dX4_lay_31 rfl (lv_at hl 1 rfl) ?_
      obtain ⟨hi_6, h⟩ := h
      refine va_iald hx hb hK.1 hP 10 0 rfl rfl hi_6 dX4_lay_32 ?_
      refine lv_iconst (v := 1) hx hb dX4_lay_33 (by decide) ?_
      refine lv_isub hx hb dX4_lay_34 ?_
      refine lv_i2l hx hb dX4_lay_35 rfl ?_
      refine q_cSi (As := [.long (p2.toInt64), .long 0, .long (((mo 10 p1.toNatClampNeg) - 1).toInt64)]) (rest := []) ⟨hx, hb, hml, hown, hts⟩ hK (c_X4_in l D kc (p2.toInt64) (0 : Int64) (((mo 10 p1.toNatClampNeg) - 1).toInt64) H.size _ h) (va_cwS 3 hts gX4_lay_X4_in rfl rfl rfl (by decide +kernel) ⟨Nat.le_of_ble_eq_true rfl, Nat.le_of_ble_eq_true rfl⟩) (cut_nil _) hP hD hS hA rfl hl.1 rfl (Nat.le_of_ble_eq_true rfl) dX4_lay_36 ⟨Nat.zero_le _, Nat.zero_le _⟩ (fun r7 _ H locs h hP hD hS => ?_)
      have hP : va_P D vwCl (cM kc a mo lo) H := hP
      have hD : va_D A (cM kc a mo lo) := hD
      refine lv_if_ne (tgt := 45) hx hb dX4_lay_39 (by decide) (fun c9 => ?_) (fun c9 => ?_)
      · have h := br2 h c9
        refine lv_aload_n hx hb dX4_lay_45 rfl (lv_at hl 0 rfl) ?_
        refine va_get (D := D) (ci := 4) (v := .ref (a 11)) (C := RX4) (T := TX4) (N := 29) hx hb hts hi4 hown hK.1 hP 0 rfl rfl 26 (by decide) (hts (.fieldLink RX4 41 "LastPennyModel" "cells" "[I") (by decide +kernel)) (fun _ h9 => h9) rfl dX4_lay_46 ?_
        refine lv_bipush (v := 40) hx hb dX4_lay_49 (by decide) ?_
        refine lv_iload_n hx hb dX4_lay_51 rfl (lv_at hl 1 rfl) ?_
        refine lv_imul hx hb dX4_lay_52 ?_
        refine lv_iload_n hx hb dX4_lay_53 rfl (lv_at hl 2 rfl) ?_
        refine lv_iadd hx hb dX4_lay_54 ?_
        refine lv_aload_n hx hb dX4_lay_55 rfl (lv_at hl 0 rfl) ?_
        refine va_get (D := D) (ci := 4) (v := .ref (a 9)) (C := RX4) (T := TX4) (N := 29) hx hb hts hi4 hown hK.1 hP 0 rfl rfl 24 (by decide) (hts (.fieldLink RX4 35 "LastPennyModel" "lanes" "[I") (by decide +kernel)) (fun _ h9 => h9) rfl dX4_lay_56 ?_
        refine lv_iload_n hx hb dX4_lay_59 rfl (lv_at hl 1 rfl) ?_
        obtain ⟨hi_10, h⟩ := h
        refine va_iald hx hb hK.1 hP 9 0 rfl rfl hi_10 dX4_lay_60 ?_
        refine lv_if_ne (tgt := 69) hx hb dX4_lay_61 (by decide) (fun c11 => ?_) (fun c11 => ?_)
        · have h := br2 h c11
          refine lv_aload_n hx hb dX4_lay_69 rfl (lv_at hl 0 rfl) ?_
          refine va_get (D := D) (ci := 4) (v := .ref (a 9)) (C := RX4) (T := TX4) (N := 29) hx hb hts hi4 hown hK.1 hP 0 rfl rfl 24 (by decide) (hts (.fieldLink RX4 35 "LastPennyModel" "lanes" "[I") (by decide +kernel)) (fun _ h9 => h9) rfl dX4_lay_70 ?_
          refine lv_iload_n hx hb dX4_lay_73 rfl (lv_at hl 1 rfl) ?_
          obtain ⟨hi_12, h⟩ := h
          refine va_iald hx hb hK.1 hP 9 0 rfl rfl hi_12 dX4_lay_74 ?_
          refine lv_iconst (v := 1) hx hb dX4_lay_75 (by decide) ?_
          refine lv_icmp_ne (tgt := 84) hx hb dX4_lay_76 (by decide) (fun c13 => ?_) (fun c13 => ?_)
          · have h := br2 h c13
            refine lv_iload_n hx hb dX4_lay_84 rfl (lv_at hl 3 rfl) ?_
            obtain ⟨hi_14, h⟩ := h
            refine va_iast hx hb hK.1 hP hD hS 11 0 rfl rfl hi_14 dX4_lay_85 (fun H locs hP hD hS => ?_)
            obtain ⟨mo15, emo15⟩ : ∃ z, z = (va_up mo 11 (upd (mo 11) ((40 * p1) + p2).toNatClampNeg p3)) := ⟨_, rfl⟩
            have h := nm_out h mo15 emo15
            have hP : va_P D vwCl (cM kc a mo15 lo) H := q_to hP (by subst emo15; rfl)
            have hD : va_D A (cM kc a mo15 lo) := q_toD hD (by subst emo15; rfl)
            refine lv_iconst (v := 1) hx hb dX4_lay_86 (by decide) ?_
            exact hret 1 (mo15, lo) H locs ls _ h hP hD hS dX4_lay_87
          · have h := br1 h c13
            refine lv_iload_n hx hb dX4_lay_79 rfl (lv_at hl 3 rfl) ?_
            refine lv_i2s hx hb dX4_lay_80 rfl ?_
            refine lv_goto (tgt := 85) hx hb dX4_lay_81 (by decide) ?_
            obtain ⟨hi_16, h⟩ := h
            refine va_iast hx hb hK.1 hP hD hS 11 0 rfl rfl hi_16 dX4_lay_85 (fun H locs hP hD hS => ?_)
            obtain ⟨mo17, emo17⟩ : ∃ z, z = (va_up mo 11 (upd (mo 11) ((40 * p1) + p2).toNatClampNeg (p3.toInt16.toInt32))) := ⟨_, rfl⟩
            have h := nm_out h mo17 emo17
            have hP : va_P D vwCl (cM kc a mo17 lo) H := q_to hP (by subst emo17; rfl)
            have hD : va_D A (cM kc a mo17 lo) := q_toD hD (by subst emo17; rfl)
            refine lv_iconst (v := 1) hx hb dX4_lay_86 (by decide) ?_
            exact hret 1 (mo17, lo) H locs ls _ h hP hD hS dX4_lay_87
        · have h := br1 h c11
          refine lv_iload_n hx hb dX4_lay_64 rfl (lv_at hl 3 rfl) ?_
          refine lv_i2b hx hb dX4_lay_65 rfl ?_
          refine lv_goto (tgt := 85) hx hb dX4_lay_66 (by decide) ?_
          obtain ⟨hi_18, h⟩ := h
          refine va_iast hx hb hK.1 hP hD hS 11 0 rfl rfl hi_18 dX4_lay_85 (fun H locs hP hD hS => ?_)
          obtain ⟨mo19, emo19⟩ : ∃ z, z = (va_up mo 11 (upd (mo 11) ((40 * p1) + p2).toNatClampNeg (p3.toInt8.toInt32))) := ⟨_, rfl⟩
          have h := nm_out h mo19 emo19
          have hP : va_P D vwCl (cM kc a mo19 lo) H := q_to hP (by subst emo19; rfl)
          have hD : va_D A (cM kc a mo19 lo) := q_toD hD (by subst emo19; rfl)
          refine lv_iconst (v := 1) hx hb dX4_lay_86 (by decide) ?_
          exact hret 1 (mo19, lo) H locs ls _ h hP hD hS dX4_lay_87
      · have h := br1 h c9
        refine lv_bipush (v := -12) hx hb dX4_lay_42 (by decide) ?_
        exact hret (-12) (mo, lo) H locs ls _ h hP hD hS dX4_lay_44
    · have h := br1 h c5
      refine lv_bipush (v := -11) hx hb dX4_lay_21 (by decide) ?_
      exact hret (-11) (mo, lo) H locs ls _ h hP hD hS dX4_lay_23
  · have h := br1 h c3
    refine lv_iconst (v := -1) hx hb dX4_lay_8 (by decide) ?_
    exact hret (-1) (mo, lo) H locs ls _ h hP hD hS dX4_lay_9

def w_X4_read (p1 : Int32) (p2 : Int32) (p3 : Int32) (p4 : Int32) (mo : S2) (lo : SL) (K : Int32 → S2 → SL → Prop) : Prop := w_X4_isSheet p1 p2 (fun r1 => br (r1 = 0) (K (-1) mo lo) (w_X4_in (p4.toInt64) (0 : Int64) (20 : Int64) (fun r4 => br (r4 = 0) (K (-1) mo lo) (lfp3 (fun G26 (i7 : Int32) (mo8 : S2) (lo9 : SL) => br (57 ≤ i7) (lfp5 (fun G62 (i11 : Int32) (i12 : Int32) (i13 : Int32) (mo14 : S2) (lo15 : SL) => jn (fun (_ : Unit) => nm ((va_up mo14 0 (upd (mo14 0) 27 i11)) : S2) (fun mo16 => K i12 mo16 lo15)) (fun J271 => br (p4 ≤ i13) (J271 ()) (br (i11 = 0) (lfp2 (fun G77 (i19 : Int32) (i20 : Int32) => jn (fun (_ : Unit) => jn (fun (i21 : Int32) (mo22 : S2) (lo23 : SL) => nm (i13 + 1 : Int32) (fun x24 => G62 i19 i21 x24 mo22 lo23)) (fun J265 => br (i19 = 0) (nm ((((40 * p1) + p3) + (2 * i13)) : Int32) (fun x26 => vp_in x26 160 ∧ (vp_in (x26 + 1) 160 ∧ (w_X4_alter (mo14 11 x26.toNatClampNeg) (1 : Int32) (mo14 11 (x26 + 1).toNatClampNeg) mo14 lo15 (fun r31 mo29 lo30 => jn (fun (_ : Unit) => lfp3 (fun G223 (i33 : Int32) (mo34 : S2) (lo35 : SL) => br (57 ≤ i33) (K ((-20) - i13) mo34 lo35) (vp_in i33 57 ∧ (vp_in i33 171 ∧ (nm ((va_up mo34 1 (upd (mo34 1) i33.toNatClampNeg (mo34 12 i33.toNatClampNeg))) : S2) (fun mo39 => nm (i33 + 1 : Int32) (fun x40 => G223 x40 mo39 lo35)))))) 0 mo29 lo30) (fun J220 => br (r31 = (-1)) (J220 ()) (br ((mo29 1 (20 : Int32).toNatClampNeg) = 999) (J220 ()) (w_X4_quarters (1 : Int32) mo29 lo30 (fun r45 mo43 lo44 => nm (i12 + 1 : Int32) (fun x47 => J265 x47 mo43 lo44)))))))))) (J265 i12 mo14 lo15))) (fun J164 => br (2 ≤ i20) (J164 ()) (br (i19 = 0) (nm ((((p3.toInt64) + ((2 * i13).toInt64)) + (i20.toInt64)) : Int64) (fun x50 => vp_in p1 4 ∧ (jn (fun (k52 : Int32) => nm (i20 + 1 : Int32) (fun x53 => G77 k52 x53)) (fun J156 => br ((mo14 9 p1.toNatClampNeg) = (-4)) (J156 1) (vp_in p1 4 ∧ (br ((mo14 9 p1.toNatClampNeg) = p2) (jn (fun (_ : Unit) => J156 2) (fun J151 => br ((lg_cmp x50 0) < 0) (J151 ()) (vp_in p1 4 ∧ (br ((lg_cmp x50 ((mo14 10 p1.toNatClampNeg).toInt64)) < 0) (J156 0) (J151 ()))))) (J156 3))))))) (J164 ())))) i11 0) (J271 ())))) 0 0 0 mo8 lo9) (vp_in i7 171 ∧ (vp_in i7 57 ∧ (nm ((va_up mo8 12 (upd (mo8 12) i7.toNatClampNeg (mo8 1 i7.toNatClampNeg))) : S2) (fun mo62 => nm (i7 + 1 : Int32) (fun x63 => G26 x63 mo62 lo9)))))) 0 mo lo))))
abbrev rm_X4_read : Room := { frames := 6, cells := 0, slots := 0, locals := 131 }
set_option maxHeartbeats 4000000 in
set_option maxRecDepth 100000 in
theorem c_X4_read (l : Launch) (D : va_G) (kc : Nat → ClassId) (a : Nat → Nat) (p1 : Int32) (p2 : Int32) (p3 : Int32) (p4 : Int32) (mo : S2) (lo : SL) (sz : Nat) (K : Int32 → S2 → SL → Prop) (h : w_X4_read p1 p2 p3 p4 mo lo K) : MetI l yX4_read wsX4_read rm_X4_read D kc (fun u : S2 × SL => cM kc a u.1 u.2) (mo, lo) [.ref (a 0), .int p1, .int p2, .int p3, .int p4] sz (fun r u => K r u.1 u.2) := by
  refine q_ei (code := cX4_read) (maxL := 11) (by decide) rfl (Nat.le_of_ble_eq_true rfl) ?_
  intro p e s m args below meth c Q A hx hb hml hts hown hK hA hret ls hl hP hD hS
  have hown : s.vm.findClass RX4 = some m.cls := hown
  have hl : lv_has ls 11 [(0, .ref (a 0)), (1, .int p1), (2, .int p2), (3, .int p3), (4, .int p4)] := hl
  have hP : va_P D vwCl (cM kc a mo lo) s.heap := hP
  have hD : va_D A (cM kc a mo lo) := hD
  have hS : va_S A s.heap s.heap [] := hS
  obtain ⟨H, eH⟩ : ∃ z, z = s.heap := ⟨_, rfl⟩
  obtain ⟨locs, eL⟩ : ∃ z : List Loc, z = [] := ⟨_, rfl⟩
  have hP := q_heap hP eH
  have hS := q_heapS hS eH eL
  refine q_start eH eL ?_
  clear eH eL
  have hi4 : ∀ w ∈ u_ws RX4 TX4 29, w ∈ wsX4_read := by decide +kernel
  unfold w_X4_read at h
  refine lv_iload_n hx hb dX4_read_0 rfl (lv_at hl 1 rfl) ?_
  refine lv_iload_n hx hb dX4_read_1 rfl (lv_at hl 2 rfl) ?_
  refine q_cSi (As := [.int p1, .int p2]) (rest := []) ⟨hx, hb, hml, hown, hts⟩ hK (c_X4_isSheet l D kc p1 p2 H.size _ h) (va_cwS 2 hts gX4_read_X4_isSheet rfl rfl rfl (by decide +kernel) ⟨Nat.le_of_ble_eq_true rfl, Nat.le_of_ble_eq_true rfl⟩) (cut_nil _) hP hD hS hA rfl hl.1 rfl (Nat.le_of_ble_eq_true rfl) dX4_read_2 ⟨Nat.zero_le _, Nat.zero_le _⟩ (fun r1 _ H locs h hP hD hS => ?_)
  have hP : va_P D vwCl (cM kc a mo lo) H := hP
  have hD : va_D A (cM kc a mo lo) := hD
  refine lv_if_eq (tgt := 21) hx hb dX4_read_5 (by decide) (fun c3 => ?_) (fun c3 => ?_)
  · have h := br1 h c3
    refine lv_iconst (v := -1) hx hb dX4_read_21 (by decide) ?_
    exact hret (-1) (mo, lo) H locs ls _ h hP hD hS dX4_read_22
  · have h := br2 h c3
    refine lv_iload hx hb dX4_read_8 (lv_at hl 4 rfl) ?_
    refine lv_i2l hx hb dX4_read_10 rfl ?_
    refine lv_lconst (v := 0) hx hb dX4_read_11 (by decide) ?_
    refine lv_ldc2 (v := 20) hx hb hown (hts (.constantLong RX4 205 (20)) (by decide +kernel)) dX4_read_12 ?_
    refine q_cSi (As := [.long (p4.toInt64), .long 0, .long 20]) (rest := []) ⟨hx, hb, hml, hown, hts⟩ hK (c_X4_in l D kc (p4.toInt64) (0 : Int64) (20 : Int64) H.size _ h) (va_cwS 3 hts gX4_read_X4_in rfl rfl rfl (by decide +kernel) ⟨Nat.le_of_ble_eq_true rfl, Nat.le_of_ble_eq_true rfl⟩) (cut_nil _) hP hD hS hA rfl hl.1 rfl (Nat.le_of_ble_eq_true rfl) dX4_read_15 ⟨Nat.zero_le _, Nat.zero_le _⟩ (fun r4 _ H locs h hP hD hS => ?_)
    have hP : va_P D vwCl (cM kc a mo lo) H := hP
    have hD : va_D A (cM kc a mo lo) := hD
    refine lv_if_ne (tgt := 23) hx hb dX4_read_18 (by decide) (fun c6 => ?_) (fun c6 => ?_)
    · have h := br2 h c6
      refine lv_iconst (v := 0) hx hb dX4_read_23 (by decide) ?_
      refine lv_istore (lv' := [(5, .int 0), (0, .ref (a 0)), (1, .int p1), (2, .int p2), (3, .int p3), (4, .int p4)]) hx hb dX4_read_24 hl (by decide) rfl (fun ls hl => ?_)
      refine h (fun (i7 : Int32) (mo8 : S2) (lo9 : SL) => ∀ (ls : Array Slot) (H : Heap) (locs : List Loc), lv_has ls 11 [(0, .ref (a 0)), (1, .int p1), (2, .int p2), (3, .int p3), (4, .int p4), (5, .int i7)] → va_P D vwCl (cM kc a mo8 lo9) H → va_D A (cM kc a mo8 lo9) → va_S A s.heap H locs → W p l e rm_X4_read s m args below meth c H locs 0 0 Q (F0 m 26 ls [])) ?_ ls H locs (lv_sub hl [1, 2, 3, 4, 5, 0] rfl) hP hD hS
      intro i7 mo8 lo9 h ls H locs hl hP hD hS
      refine lv_iload hx hb dX4_read_26 (lv_at hl 5 rfl) ?_
      refine lv_bipush (v := 57) hx hb dX4_read_28 (by decide) ?_
      refine lv_icmp_ge (tgt := 53) hx hb dX4_read_30 (by decide) (fun c10 => ?_) (fun c10 => ?_)
      · have h := br1 h c10
        refine lv_iconst (v := 0) hx hb dX4_read_53 (by decide) ?_
        refine lv_istore (lv' := [(5, .int 0), (0, .ref (a 0)), (1, .int p1), (2, .int p2), (3, .int p3), (4, .int p4)]) hx hb dX4_read_54 hl (by decide) rfl (fun ls hl => ?_)
        refine lv_iconst (v := 0) hx hb dX4_read_56 (by decide) ?_
        refine lv_istore (lv' := [(6, .int 0), (5, .int 0), (0, .ref (a 0)), (1, .int p1), (2, .int p2), (3, .int p3), (4, .int p4)]) hx hb dX4_read_57 hl (by decide) rfl (fun ls hl => ?_)
        refine lv_iconst (v := 0) hx hb dX4_read_59 (by decide) ?_
        refine lv_istore (lv' := [(7, .int 0), (6, .int 0), (5, .int 0), (0, .ref (a 0)), (1, .int p1), (2, .int p2), (3, .int p3), (4, .int p4)]) hx hb dX4_read_60 hl (by decide) rfl (fun ls hl => ?_)
        refine h (fun (i11 : Int32) (i12 : Int32) (i13 : Int32) (mo14 : S2) (lo15 : SL) => ∀ (ls : Array Slot) (H : Heap) (locs : List Loc), lv_has ls 11 [(0, .ref (a 0)), (1, .int p1), (2, .int p2), (3, .int p3), (4, .int p4), (5, .int i11), (6, .int i12), (7, .int i13)] → va_P D vwCl (cM kc a mo14 lo15) H → va_D A (cM kc a mo14 lo15) → va_S A s.heap H locs → W p l e rm_X4_read s m args below meth c H locs 0 0 Q (F0 m 62 ls [])) ?_ ls H locs (lv_sub hl [3, 4, 5, 6, 7, 2, 1, 0] rfl) hP hD hS
        intro i11 i12 i13 mo14 lo15 h ls H locs hl hP hD hS
        refine lv_iload hx hb dX4_read_62 (lv_at hl 7 rfl) ?_
        refine lv_iload hx hb dX4_read_64 (lv_at hl 4 rfl) ?_
        refine jn_elim h (fun J271 eJ271 h => ?_)
        have hJ_271 : ∀  (ls : Array Slot), J271 () → lv_has ls 11 [(0, .ref (a 0)), (5, .int i11), (6, .int i12)] → W p l e rm_X4_read s m args below meth c H locs 0 0 Q (F0 m 271 ls []) := by
          intro  ls h hl
          subst eJ271
          refine lv_aload_n hx hb dX4_read_271 rfl (lv_at hl 0 rfl) ?_
          refine lv_iload hx hb dX4_read_272 (lv_at hl 1 rfl) ?_
          refine va_put (D := D) (ci := 4) (v := .int i11) (ty := .int) (C := RX4) (T := TX4) (N := 29) hx hb hts hi4 tyX4 tyX4_ok nmX4 hown hK.1 hP hD hS 0 rfl rfl 27 (by decide) (hts (.fieldLink RX4 289 "LastPennyModel" "torn" "I") (by decide +kernel)) (fun _ h9 => h9) rfl (by decide +kernel) rfl rfl (Nat.le_of_ble_eq_true rfl) dX4_read_274 (fun H locs hP hD hS => ?_)
          obtain ⟨mo16, emo16⟩ : ∃ z, z = (va_up mo14 0 (upd (mo14 0) 27 i11)) := ⟨_, rfl⟩
          have h := nm_out h mo16 emo16
          have hP : va_P D vwCl (cM kc a mo16 lo15) H := q_to hP (by subst emo16; rfl)
          have hD : va_D A (cM kc a mo16 lo15) := q_toD hD (by subst emo16; rfl)
          refine lv_iload hx hb dX4_read_277 (lv_at hl 2 rfl) ?_
          exact hret i12 (mo16, lo15) H locs ls _ h hP hD hS dX4_read_279
        refine lv_icmp_ge (tgt := 271) hx hb dX4_read_66 (by decide) (fun c17 => ?_) (fun c17 => ?_)
        · have h := br1 h c17
          exact hJ_271 ls h (lv_sub hl [0, 5, 6] rfl)
        · have h := br2 h c17
          refine lv_iload hx hb dX4_read_69 (lv_at hl 5 rfl) ?_
          refine lv_if_ne (tgt := 271) hx hb dX4_read_71 (by decide) (fun c18 => ?_) (fun c18 => ?_)
          · have h := br2 h c18
            exact hJ_271 ls h (lv_sub hl [0, 5, 6] rfl)
          · have h := br1 h c18
            refine lv_iconst (v := 0) hx hb dX4_read_74 (by decide) ?_
            refine lv_istore (lv' := [(8, .int 0), (0, .ref (a 0)), (1, .int p1), (2, .int p2), (3, .int p3), (4, .int p4), (5, .int i11), (6, .int i12), (7, .int i13)]) hx hb dX4_read_75 hl (by decide) rfl (fun ls hl => ?_)
            refine h (fun (i19 : Int32) (i20 : Int32) => ∀ (ls : Array Slot), lv_has ls 11 [(0, .ref (a 0)), (1, .int p1), (2, .int p2), (3, .int p3), (4, .int p4), (5, .int i19), (6, .int i12), (7, .int i13), (8, .int i20)] → W p l e rm_X4_read s m args below meth c H locs 0 0 Q (F0 m 77 ls [])) ?_ ls (lv_sub hl [1, 2, 3, 4, 5, 6, 7, 8, 0] rfl)
            intro i19 i20 h ls hl
            refine lv_iload hx hb dX4_read_77 (lv_at hl 8 rfl) ?_
            refine lv_iconst (v := 2) hx hb dX4_read_79 (by decide) ?_
            refine jn_elim h (fun J164 eJ164 h => ?_)
            have hJ_164 : ∀  (ls : Array Slot), J164 () → lv_has ls 11 [(0, .ref (a 0)), (1, .int p1), (2, .int p2), (3, .int p3), (4, .int p4), (5, .int i19), (6, .int i12), (7, .int i13)] → W p l e rm_X4_read s m args below meth c H locs 0 0 Q (F0 m 164 ls []) := by
              intro  ls h hl
              subst eJ164
              refine lv_iload hx hb dX4_read_164 (lv_at hl 5 rfl) ?_
              refine jn_elim h (fun J265 eJ265 h => ?_)
              have hJ_265 : ∀ (i21 : Int32) (mo22 : S2) (lo23 : SL) (ls : Array Slot) (H : Heap) (locs : List Loc), J265 i21 mo22 lo23 → lv_has ls 11 [(0, .ref (a 0)), (1, .int p1), (2, .int p2), (3, .int p3), (4, .int p4), (5, .int i19), (6, .int i21), (7, .int i13)] → va_P D vwCl (cM kc a mo22 lo23) H → va_D A (cM kc a mo22 lo23) → va_S A s.heap H locs → W p l e rm_X4_read s m args below meth c H locs 0 0 Q (F0 m 265 ls []) := by
                intro i21 mo22 lo23 ls H locs h hl hP hD hS
                subst eJ265
                obtain ⟨x24, ex24⟩ : ∃ z : Int32, z = i13 + 1 := ⟨_, rfl⟩
                have h := nm_out h x24 ex24
                refine lv_iinc (v := x24) (lv' := [(7, .int x24), (0, .ref (a 0)), (1, .int p1), (2, .int p2), (3, .int p3), (4, .int p4), (5, .int i19), (6, .int i21)]) hx hb dX4_read_265 hl (k := 7) rfl (by rw [ex24]; rfl) (by decide) rfl (fun ls hl => ?_)
                refine lv_goto (tgt := 62) hx hb dX4_read_268 (by decide) ?_
                exact h ls H locs (lv_sub hl [1, 2, 3, 4, 5, 6, 7, 0] rfl) hP hD hS
              refine lv_if_ne (tgt := 265) hx hb dX4_read_166 (by decide) (fun c25 => ?_) (fun c25 => ?_)
              · have h := br2 h c25
                exact hJ_265 i12 mo14 lo15 ls H locs h (lv_sub hl [0, 1, 2, 3, 4, 5, 6, 7] rfl) hP hD hS
              · have h := br1 h c25
                refine lv_bipush (v := 40) hx hb dX4_read_169 (by decide) ?_
                refine lv_iload_n hx hb dX4_read_171 rfl (lv_at hl 1 rfl) ?_
                refine lv_imul hx hb dX4_read_172 ?_
                refine lv_iload_n hx hb dX4_read_173 rfl (lv_at hl 3 rfl) ?_
                refine lv_iadd hx hb dX4_read_174 ?_
                refine lv_iconst (v := 2) hx hb dX4_read_175 (by decide) ?_
                refine lv_iload hx hb dX4_read_176 (lv_at hl 7 rfl) ?_
                refine lv_imul hx hb dX4_read_178 ?_
                refine lv_iadd hx hb dX4_read_179 ?_
                refine lv_topi (fun x26 ex26 => ?_)
                have h := nm_out h x26 ex26
                refine lv_istore (lv' := [(8, .int x26), (0, .ref (a 0)), (1, .int p1), (2, .int p2), (3, .int p3), (4, .int p4), (5, .int i19), (6, .int i12), (7, .int i13)]) hx hb dX4_read_180 hl (by decide) rfl (fun ls hl => ?_)
                refine lv_aload_n hx hb dX4_read_182 rfl (lv_at hl 1 rfl) ?_
                refine lv_aload_n hx hb dX4_read_183 rfl (lv_at hl 1 rfl) ?_
                refine va_get (D := D) (ci := 4) (v := .ref (a 11)) (C := RX4) (T := TX4) (N := 29) hx hb hts hi4 hown hK.1 hP 0 rfl rfl 26 (by decide) (hts (.fieldLink RX4 41 "LastPennyModel" "cells" "[I") (by decide +kernel)) (fun _ h9 => h9) rfl dX4_read_184 ?_
                refine lv_iload hx hb dX4_read_187 (lv_at hl 0 rfl) ?_
                obtain ⟨hi_27, h⟩ := h
                refine va_iald hx hb hK.1 hP 11 0 rfl rfl hi_27 dX4_read_189 ?_
                refine lv_iconst (v := 1) hx hb dX4_read_190 (by decide) ?_
                refine lv_aload_n hx hb dX4_read_191 rfl (lv_at hl 1 rfl) ?_
                refine va_get (D := D) (ci := 4) (v := .ref (a 11)) (C := RX4) (T := TX4) (N := 29) hx hb hts hi4 hown hK.1 hP 0 rfl rfl 26 (by decide) (hts (.fieldLink RX4 41 "LastPennyModel" "cells" "[I") (by decide +kernel)) (fun _ h9 => h9) rfl dX4_read_192 ?_
                refine lv_iload hx hb dX4_read_195 (lv_at hl 0 rfl) ?_
                refine lv_iconst (v := 1) hx hb dX4_read_197 (by decide) ?_
                refine lv_iadd hx hb dX4_read_198 ?_
                obtain ⟨hi_28, h⟩ := h
                refine va_iald hx hb hK.1 hP 11 0 rfl rfl hi_28 dX4_read_199 ?_
                refine q_cVi (As := [.int (mo14 11 x26.toNatClampNeg), .int 1, .int (mo14 11 (x26 + 1).toNatClampNeg)]) (rest := []) ⟨hx, hb, hml, hown, hts⟩ hK (c_X4_alter l D kc a (mo14 11 x26.toNatClampNeg) (1 : Int32) (mo14 11 (x26 + 1).toNatClampNeg) mo14 lo15 H.size _ h) (cwV 3 hts gX4_read_X4_alter rfl rfl rfl (by decide +kernel) ⟨Nat.le_of_ble_eq_true rfl, Nat.le_of_ble_eq_true rfl⟩) (cut_same (fun u : S2 × SL => cM kc a u.1 u.2) (mo14, lo15)) hP hD hS hA 4 0 rfl rfl rfl hl.1 rfl (Nat.le_of_ble_eq_true rfl) dX4_read_200 ⟨Nat.zero_le _, Nat.zero_le _⟩ (fun r31 u32 H locs h hP hD hS => ?_)
                obtain ⟨mo29, lo30⟩ := u32
                have hP : va_P D vwCl (cM kc a mo29 lo30) H := hP
                have hD : va_D A (cM kc a mo29 lo30) := hD
                refine lv_iconst (v := -1) hx hb dX4_read_203 (by decide) ?_
                refine jn_elim h (fun J220 eJ220 h => ?_)
                have hJ_220 : ∀  (ls : Array Slot), J220 () → lv_has ls 11 [(0, .ref (a 0)), (7, .int i13)] → W p l e rm_X4_read s m args below meth c H locs 0 0 Q (F0 m 220 ls []) := by
                  intro  ls h hl
                  subst eJ220
                  refine lv_iconst (v := 0) hx hb dX4_read_220 (by decide) ?_
                  refine lv_istore (lv' := [(9, .int 0), (0, .ref (a 0)), (7, .int i13)]) hx hb dX4_read_221 hl (by decide) rfl (fun ls hl => ?_)
                  refine h (fun (i33 : Int32) (mo34 : S2) (lo35 : SL) => ∀ (ls : Array Slot) (H : Heap) (locs : List Loc), lv_has ls 11 [(0, .ref (a 0)), (7, .int i13), (9, .int i33)] → va_P D vwCl (cM kc a mo34 lo35) H → va_D A (cM kc a mo34 lo35) → va_S A s.heap H locs → W p l e rm_X4_read s m args below meth c H locs 0 0 Q (F0 m 223 ls [])) ?_ ls H locs (lv_sub hl [1, 2, 0] rfl) hP hD hS
                  intro i33 mo34 lo35 h ls H locs hl hP hD hS
                  refine lv_iload hx hb dX4_read_223 (lv_at hl 2 rfl) ?_
                  refine lv_bipush (v := 57) hx hb dX4_read_225 (by decide) ?_
                  refine lv_icmp_ge (tgt := 250) hx hb dX4_read_227 (by decide) (fun c36 => ?_) (fun c36 => ?_)
                  · have h := br1 h c36
                    refine lv_bipush (v := -20) hx hb dX4_read_250 (by decide) ?_
                    refine lv_iload hx hb dX4_read_252 (lv_at hl 1 rfl) ?_
                    refine lv_isub hx hb dX4_read_254 ?_
                    exact hret ((-20) - i13) (mo34, lo35) H locs ls _ h hP hD hS dX4_read_255
                  · have h := br2 h c36
                    refine lv_aload_n hx hb dX4_read_230 rfl (lv_at hl 0 rfl) ?_
                    refine va_get (D := D) (ci := 4) (v := .ref (a 1)) (C := RX4) (T := TX4) (N := 29) hx hb hts hi4 hown hK.1 hP 0 rfl rfl 0 (by decide) (hts (.fieldLink RX4 7 "LastPennyModel" "st" "[I") (by decide +kernel)) (fun _ h9 => h9) rfl dX4_read_231 ?_
                    refine lv_iload hx hb dX4_read_234 (lv_at hl 2 rfl) ?_
                    refine lv_aload_n hx hb dX4_read_236 rfl (lv_at hl 0 rfl) ?_
                    refine va_get (D := D) (ci := 4) (v := .ref (a 12)) (C := RX4) (T := TX4) (N := 29) hx hb hts hi4 hown hK.1 hP 0 rfl rfl 28 (by decide) (hts (.fieldLink RX4 44 "LastPennyModel" "before" "[I") (by decide +kernel)) (fun _ h9 => h9) rfl dX4_read_237 ?_
                    refine lv_iload hx hb dX4_read_240 (lv_at hl 2 rfl) ?_
                    obtain ⟨hi_37, h⟩ := h
                    refine va_iald hx hb hK.1 hP 12 0 rfl rfl hi_37 dX4_read_242 ?_
                    obtain ⟨hi_38, h⟩ := h
                    refine va_iast hx hb hK.1 hP hD hS 1 0 rfl rfl hi_38 dX4_read_243 (fun H locs hP hD hS => ?_)
                    obtain ⟨mo39, emo39⟩ : ∃ z, z = (va_up mo34 1 (upd (mo34 1) i33.toNatClampNeg (mo34 12 i33.toNatClampNeg))) := ⟨_, rfl⟩
                    have h := nm_out h mo39 emo39
                    have hP : va_P D vwCl (cM kc a mo39 lo35) H := q_to hP (by subst emo39; rfl)
                    have hD : va_D A (cM kc a mo39 lo35) := q_toD hD (by subst emo39; rfl)
                    obtain ⟨x40, ex40⟩ : ∃ z : Int32, z = i33 + 1 := ⟨_, rfl⟩
                    have h := nm_out h x40 ex40
                    refine lv_iinc (v := x40) (lv' := [(9, .int x40), (0, .ref (a 0)), (7, .int i13)]) hx hb dX4_read_244 hl (k := 2) rfl (by rw [ex40]; rfl) (by decide) rfl (fun ls hl => ?_)
                    refine lv_goto (tgt := 223) hx hb dX4_read_247 (by decide) ?_
                    exact h ls H locs (lv_sub hl [1, 2, 0] rfl) hP hD hS
                refine lv_icmp_eq (tgt := 220) hx hb dX4_read_204 (by decide) (fun c41 => ?_) (fun c41 => ?_)
                · have h := br1 h c41
                  exact hJ_220 ls h (lv_sub hl [1, 8] rfl)
                · have h := br2 h c41
                  refine lv_aload_n hx hb dX4_read_207 rfl (lv_at hl 1 rfl) ?_
                  refine va_get (D := D) (ci := 4) (v := .ref (a 1)) (C := RX4) (T := TX4) (N := 29) hx hb hts hi4 hown hK.1 hP 0 rfl rfl 0 (by decide) (hts (.fieldLink RX4 7 "LastPennyModel" "st" "[I") (by decide +kernel)) (fun _ h9 => h9) rfl dX4_read_208 ?_
                  refine lv_bipush (v := 20) hx hb dX4_read_211 (by decide) ?_
                  refine va_iald hx hb hK.1 hP 1 0 rfl rfl (by unfold vp_in; decide) dX4_read_213 ?_
                  refine lv_sipush (v := 999) hx hb dX4_read_214 (by decide) ?_
                  refine lv_icmp_ne (tgt := 256) hx hb dX4_read_217 (by decide) (fun c42 => ?_) (fun c42 => ?_)
                  · have h := br2 h c42
                    refine lv_aload_n hx hb dX4_read_256 rfl (lv_at hl 1 rfl) ?_
                    refine lv_iconst (v := 1) hx hb dX4_read_257 (by decide) ?_
                    refine q_cVi (As := [.int 1]) (rest := []) ⟨hx, hb, hml, hown, hts⟩ hK (c_X4_quarters l D kc a (1 : Int32) mo29 lo30 H.size _ h) (cwV 1 hts gX4_read_X4_quarters rfl rfl rfl (by decide +kernel) ⟨Nat.le_of_ble_eq_true rfl, Nat.le_of_ble_eq_true rfl⟩) (cut_same (fun u : S2 × SL => cM kc a u.1 u.2) (mo29, lo30)) hP hD hS hA 4 0 rfl rfl rfl hl.1 rfl (Nat.le_of_ble_eq_true rfl) dX4_read_258 ⟨Nat.zero_le _, Nat.zero_le _⟩ (fun r45 u46 H locs h hP hD hS => ?_)
                    obtain ⟨mo43, lo44⟩ := u46
                    have hP : va_P D vwCl (cM kc a mo43 lo44) H := hP
                    have hD : va_D A (cM kc a mo43 lo44) := hD
                    refine lv_pop hx hb dX4_read_261 rfl ?_
                    obtain ⟨x47, ex47⟩ : ∃ z : Int32, z = i12 + 1 := ⟨_, rfl⟩
                    have h := nm_out h x47 ex47
                    refine lv_iinc (v := x47) (lv' := [(6, .int x47), (8, .int x26), (0, .ref (a 0)), (1, .int p1), (2, .int p2), (3, .int p3), (4, .int p4), (5, .int i19), (7, .int i13)]) hx hb dX4_read_262 hl (k := 7) rfl (by rw [ex47]; rfl) (by decide) rfl (fun ls hl => ?_)
                    exact hJ_265 x47 mo43 lo44 ls H locs h (lv_sub hl [2, 3, 4, 5, 6, 7, 0, 8] rfl) hP hD hS
                  · have h := br1 h c42
                    exact hJ_220 ls h (lv_sub hl [1, 8] rfl)
            refine lv_icmp_ge (tgt := 164) hx hb dX4_read_80 (by decide) (fun c48 => ?_) (fun c48 => ?_)
            · have h := br1 h c48
              exact hJ_164 ls h (lv_sub hl [0, 1, 2, 3, 4, 5, 6, 7] rfl)
            · have h := br2 h c48
              refine lv_iload hx hb dX4_read_83 (lv_at hl 5 rfl) ?_
              refine lv_if_ne (tgt := 164) hx hb dX4_read_85 (by decide) (fun c49 => ?_) (fun c49 => ?_)
              · have h := br2 h c49
                exact hJ_164 ls h (lv_sub hl [0, 1, 2, 3, 4, 5, 6, 7] rfl)
              · have h := br1 h c49
                refine lv_iload_n hx hb dX4_read_88 rfl (lv_at hl 3 rfl) ?_
                refine lv_i2l hx hb dX4_read_89 rfl ?_
                refine lv_iconst (v := 2) hx hb dX4_read_90 (by decide) ?_
                refine lv_iload hx hb dX4_read_91 (lv_at hl 7 rfl) ?_
                refine lv_imul hx hb dX4_read_93 ?_
                refine lv_i2l hx hb dX4_read_94 rfl ?_
                refine lv_ladd hx hb dX4_read_95 ?_
                refine lv_iload hx hb dX4_read_96 (lv_at hl 8 rfl) ?_
                refine lv_i2l hx hb dX4_read_98 rfl ?_
                refine lv_ladd hx hb dX4_read_99 ?_
                refine lv_topl (fun x50 ex50 => ?_)
                have h := nm_out h x50 ex50
                refine lv_lstore (lv' := [(9, .long x50), (0, .ref (a 0)), (1, .int p1), (2, .int p2), (3, .int p3), (4, .int p4), (5, .int i19), (6, .int i12), (7, .int i13), (8, .int i20)]) hx hb dX4_read_100 hl (by decide) rfl (fun ls hl => ?_)
                refine lv_aload_n hx hb dX4_read_102 rfl (lv_at hl 1 rfl) ?_
                refine va_get (D := D) (ci := 4) (v := .ref (a 9)) (C := RX4) (T := TX4) (N := 29) hx hb hts hi4 hown hK.1 hP 0 rfl rfl 24 (by decide) (hts (.fieldLink RX4 35 "LastPennyModel" "lanes" "[I") (by decide +kernel)) (fun _ h9 => h9) rfl dX4_read_103 ?_
                refine lv_iload_n hx hb dX4_read_106 rfl (lv_at hl 2 rfl) ?_
                obtain ⟨hi_51, h⟩ := h
                refine va_iald hx hb hK.1 hP 9 0 rfl rfl hi_51 dX4_read_107 ?_
                refine lv_bipush (v := -4) hx hb dX4_read_108 (by decide) ?_
                refine jn_elim h (fun J156 eJ156 h => ?_)
                have hJ_156 : ∀ (k52 : Int32) (ls : Array Slot), J156 k52 → lv_has ls 11 [(0, .ref (a 0)), (1, .int p1), (2, .int p2), (3, .int p3), (4, .int p4), (6, .int i12), (7, .int i13), (8, .int i20)] → W p l e rm_X4_read s m args below meth c H locs 0 0 Q (F0 m 156 ls [.int k52]) := by
                  intro k52 ls h hl
                  subst eJ156
                  refine lv_istore (lv' := [(5, .int k52), (0, .ref (a 0)), (1, .int p1), (2, .int p2), (3, .int p3), (4, .int p4), (6, .int i12), (7, .int i13), (8, .int i20)]) hx hb dX4_read_156 hl (by decide) rfl (fun ls hl => ?_)
                  obtain ⟨x53, ex53⟩ : ∃ z : Int32, z = i20 + 1 := ⟨_, rfl⟩
                  have h := nm_out h x53 ex53
                  refine lv_iinc (v := x53) (lv' := [(8, .int x53), (5, .int k52), (0, .ref (a 0)), (1, .int p1), (2, .int p2), (3, .int p3), (4, .int p4), (6, .int i12), (7, .int i13)]) hx hb dX4_read_158 hl (k := 8) rfl (by rw [ex53]; rfl) (by decide) rfl (fun ls hl => ?_)
                  refine lv_goto (tgt := 77) hx hb dX4_read_161 (by decide) ?_
                  exact h ls (lv_sub hl [2, 3, 4, 5, 6, 1, 7, 8, 0] rfl)
                refine lv_icmp_ne (tgt := 117) hx hb dX4_read_110 (by decide) (fun c54 => ?_) (fun c54 => ?_)
                · have h := br2 h c54
                  refine lv_aload_n hx hb dX4_read_117 rfl (lv_at hl 1 rfl) ?_
                  refine va_get (D := D) (ci := 4) (v := .ref (a 9)) (C := RX4) (T := TX4) (N := 29) hx hb hts hi4 hown hK.1 hP 0 rfl rfl 24 (by decide) (hts (.fieldLink RX4 35 "LastPennyModel" "lanes" "[I") (by decide +kernel)) (fun _ h9 => h9) rfl dX4_read_118 ?_
                  refine lv_iload_n hx hb dX4_read_121 rfl (lv_at hl 2 rfl) ?_
                  obtain ⟨hi_55, h⟩ := h
                  refine va_iald hx hb hK.1 hP 9 0 rfl rfl hi_55 dX4_read_122 ?_
                  refine lv_iload_n hx hb dX4_read_123 rfl (lv_at hl 3 rfl) ?_
                  refine lv_icmp_eq (tgt := 131) hx hb dX4_read_124 (by decide) (fun c56 => ?_) (fun c56 => ?_)
                  · have h := br1 h c56
                    refine lv_lload hx hb dX4_read_131 (lv_at hl 0 rfl) ?_
                    refine lv_lconst (v := 0) hx hb dX4_read_133 (by decide) ?_
                    refine W.lcmp hx hb dX4_read_134 ?_
                    refine jn_elim h (fun J151 eJ151 h => ?_)
                    have hJ_151 : ∀  (ls : Array Slot), J151 () → lv_has ls 11 [(0, .ref (a 0)), (1, .int p1), (2, .int p2), (3, .int p3), (4, .int p4), (6, .int i12), (7, .int i13), (8, .int i20)] → W p l e rm_X4_read s m args below meth c H locs 0 0 Q (F0 m 151 ls []) := by
                      intro  ls h hl
                      subst eJ151
                      refine lv_iconst (v := 2) hx hb dX4_read_151 (by decide) ?_
                      refine lv_goto (tgt := 156) hx hb dX4_read_152 (by decide) ?_
                      exact hJ_156 2 ls h (lv_sub hl [0, 1, 2, 3, 4, 5, 6, 7] rfl)
                    refine lv_if_lt (tgt := 151) hx hb dX4_read_135 (by decide) (fun c57 => ?_) (fun c57 => ?_)
                    · have h := br1 h c57
                      exact hJ_151 ls h (lv_sub hl [1, 2, 3, 4, 5, 7, 8, 9] rfl)
                    · have h := br2 h c57
                      refine lv_lload hx hb dX4_read_138 (lv_at hl 0 rfl) ?_
                      refine lv_aload_n hx hb dX4_read_140 rfl (lv_at hl 1 rfl) ?_
                      refine va_get (D := D) (ci := 4) (v := .ref (a 10)) (C := RX4) (T := TX4) (N := 29) hx hb hts hi4 hown hK.1 hP 0 rfl rfl 25 (by decide) (hts (.fieldLink RX4 38 "LastPennyModel" "sizes" "[I") (by decide +kernel)) (fun _ h9 => h9) rfl dX4_read_141 ?_
                      refine lv_iload_n hx hb dX4_read_144 rfl (lv_at hl 2 rfl) ?_
                      obtain ⟨hi_58, h⟩ := h
                      refine va_iald hx hb hK.1 hP 10 0 rfl rfl hi_58 dX4_read_145 ?_
                      refine lv_i2l hx hb dX4_read_146 rfl ?_
                      refine W.lcmp hx hb dX4_read_147 ?_
                      refine lv_if_lt (tgt := 155) hx hb dX4_read_148 (by decide) (fun c59 => ?_) (fun c59 => ?_)
                      · have h := br1 h c59
                        refine lv_iconst (v := 0) hx hb dX4_read_155 (by decide) ?_
                        exact hJ_156 0 ls h (lv_sub hl [1, 2, 3, 4, 5, 7, 8, 9] rfl)
                      · have h := br2 h c59
                        exact hJ_151 ls h (lv_sub hl [1, 2, 3, 4, 5, 7, 8, 9] rfl)
                  · have h := br2 h c56
                    refine lv_iconst (v := 3) hx hb dX4_read_127 (by decide) ?_
                    refine lv_goto (tgt := 156) hx hb dX4_read_128 (by decide) ?_
                    exact hJ_156 3 ls h (lv_sub hl [1, 2, 3, 4, 5, 7, 8, 9] rfl)
                · have h := br1 h c54
                  refine lv_iconst (v := 1) hx hb dX4_read_113 (by decide) ?_
                  refine lv_goto (tgt := 156) hx hb dX4_read_114 (by decide) ?_
                  exact hJ_156 1 ls h (lv_sub hl [1, 2, 3, 4, 5, 7, 8, 9] rfl)
      · have h := br2 h c10
        refine lv_aload_n hx hb dX4_read_33 rfl (lv_at hl 0 rfl) ?_
        refine va_get (D := D) (ci := 4) (v := .ref (a 12)) (C := RX4) (T := TX4) (N := 29) hx hb hts hi4 hown hK.1 hP 0 rfl rfl 28 (by decide) (hts (.fieldLink RX4 44 "LastPennyModel" "before" "[I") (by decide +kernel)) (fun _ h9 => h9) rfl dX4_read_34 ?_
        refine lv_iload hx hb dX4_read_37 (lv_at hl 5 rfl) ?_
        refine lv_aload_n hx hb dX4_read_39 rfl (lv_at hl 0 rfl) ?_
        refine va_get (D := D) (ci := 4) (v := .ref (a 1)) (C := RX4) (T := TX4) (N := 29) hx hb hts hi4 hown hK.1 hP 0 rfl rfl 0 (by decide) (hts (.fieldLink RX4 7 "LastPennyModel" "st" "[I") (by decide +kernel)) (fun _ h9 => h9) rfl dX4_read_40 ?_
        refine lv_iload hx hb dX4_read_43 (lv_at hl 5 rfl) ?_
        obtain ⟨hi_60, h⟩ := h
        refine va_iald hx hb hK.1 hP 1 0 rfl rfl hi_60 dX4_read_45 ?_
        obtain ⟨hi_61, h⟩ := h
        refine va_iast hx hb hK.1 hP hD hS 12 0 rfl rfl hi_61 dX4_read_46 (fun H locs hP hD hS => ?_)
        obtain ⟨mo62, emo62⟩ : ∃ z, z = (va_up mo8 12 (upd (mo8 12) i7.toNatClampNeg (mo8 1 i7.toNatClampNeg))) := ⟨_, rfl⟩
        have h := nm_out h mo62 emo62
        have hP : va_P D vwCl (cM kc a mo62 lo9) H := q_to hP (by subst emo62; rfl)
        have hD : va_D A (cM kc a mo62 lo9) := q_toD hD (by subst emo62; rfl)
        obtain ⟨x63, ex63⟩ : ∃ z : Int32, z = i7 + 1 := ⟨_, rfl⟩
        have h := nm_out h x63 ex63
        refine lv_iinc (v := x63) (lv' := [(5, .int x63), (0, .ref (a 0)), (1, .int p1), (2, .int p2), (3, .int p3), (4, .int p4)]) hx hb dX4_read_47 hl (k := 5) rfl (by rw [ex63]; rfl) (by decide) rfl (fun ls hl => ?_)
        refine lv_goto (tgt := 26) hx hb dX4_read_50 (by decide) ?_
        exact h ls H locs (lv_sub hl [1, 2, 3, 4, 5, 0] rfl) hP hD hS
    · have h := br1 h c6
      refine lv_iconst (v := -1) hx hb dX4_read_21 (by decide) ?_
      exact hret (-1) (mo, lo) H locs ls _ h hP hD hS dX4_read_22

def w_X4_torn (mo : S2) (lo : SL) (K : Int32 → S2 → SL → Prop) : Prop := K (mo 0 27) mo lo
abbrev rm_X4_torn : Room := { frames := 0, cells := 0, slots := 0, locals := 0 }
set_option maxHeartbeats 4000000 in
set_option maxRecDepth 100000 in
theorem c_X4_torn (l : Launch) (D : va_G) (kc : Nat → ClassId) (a : Nat → Nat) (mo : S2) (lo : SL) (sz : Nat) (K : Int32 → S2 → SL → Prop) (h : w_X4_torn mo lo K) : MetI l yX4_torn wsX4_torn rm_X4_torn D kc (fun u : S2 × SL => cM kc a u.1 u.2) (mo, lo) [.ref (a 0)] sz (fun r u => K r u.1 u.2) := by
  refine q_ei (code := cX4_torn) (maxL := 1) (by decide) rfl (Nat.le_of_ble_eq_true rfl) ?_
  intro p e s m args below meth c Q A hx hb hml hts hown hK hA hret ls hl hP hD hS
  have hown : s.vm.findClass RX4 = some m.cls := hown
  have hl : lv_has ls 1 [(0, .ref (a 0))] := hl
  have hP : va_P D vwCl (cM kc a mo lo) s.heap := hP
  have hD : va_D A (cM kc a mo lo) := hD
  have hS : va_S A s.heap s.heap [] := hS
  obtain ⟨H, eH⟩ : ∃ z, z = s.heap := ⟨_, rfl⟩
  obtain ⟨locs, eL⟩ : ∃ z : List Loc, z = [] := ⟨_, rfl⟩
  have hP := q_heap hP eH
  have hS := q_heapS hS eH eL
  refine q_start eH eL ?_
  clear eH eL
  have hi4 : ∀ w ∈ u_ws RX4 TX4 29, w ∈ wsX4_torn := by decide +kernel
  unfold w_X4_torn at h
  refine lv_aload_n hx hb dX4_torn_0 rfl (lv_at hl 0 rfl) ?_
  refine va_get (D := D) (ci := 4) (v := .int (mo 0 27)) (C := RX4) (T := TX4) (N := 29) hx hb hts hi4 hown hK.1 hP 0 rfl rfl 27 (by decide) (hts (.fieldLink RX4 289 "LastPennyModel" "torn" "I") (by decide +kernel)) (fun _ h9 => h9) rfl dX4_torn_1 ?_
  exact hret (mo 0 27) (mo, lo) H locs ls _ h hP hD hS dX4_torn_4

def w_X4_count (p1 : Int32) (mo : S2) (lo : SL) (K : Int32 → S2 → SL → Prop) : Prop := w_X4_starts mo lo (fun mo1 lo2 => br (p1 = 0) (K (mo1 1 (44 : Int32).toNatClampNeg) mo1 lo2) (br (p1 = 1) (w_X4_flag (mo1 3 (0 : Int32).toNatClampNeg) (fun r6 => w_X4_flag (mo1 3 (1 : Int32).toNatClampNeg) (fun r8 => K (r6 + r8) mo1 lo2))) (br (p1 = 2) (K (mo1 0 10) mo1 lo2) (br (p1 = 3) (br ((mo1 9 (0 : Int32).toNatClampNeg) = (-4)) (K (-4) mo1 lo2) (K (mo1 10 (0 : Int32).toNatClampNeg) mo1 lo2)) (br (p1 = 4) (w_X4_allOf (3 : Int32) mo1 lo2 (fun r16 mo14 lo15 => K r16 mo14 lo15)) (K (-1) mo1 lo2))))))
abbrev rm_X4_count : Room := { frames := 2, cells := 0, slots := 0, locals := 45 }
set_option maxHeartbeats 4000000 in
set_option maxRecDepth 100000 in
theorem c_X4_count (l : Launch) (D : va_G) (kc : Nat → ClassId) (a : Nat → Nat) (p1 : Int32) (mo : S2) (lo : SL) (sz : Nat) (K : Int32 → S2 → SL → Prop) (h : w_X4_count p1 mo lo K) : MetI l yX4_count wsX4_count rm_X4_count D kc (fun u : S2 × SL => cM kc a u.1 u.2) (mo, lo) [.ref (a 0), .int p1] sz (fun r u => K r u.1 u.2) := by
  refine q_ei (code := cX4_count) (maxL := 2) (by decide) rfl (Nat.le_of_ble_eq_true rfl) ?_
  intro p e s m args below meth c Q A hx hb hml hts hown hK hA hret ls hl hP hD hS
  have hown : s.vm.findClass RX4 = some m.cls := hown
  have hl : lv_has ls 2 [(0, .ref (a 0)), (1, .int p1)] := hl
  have hP : va_P D vwCl (cM kc a mo lo) s.heap := hP
  have hD : va_D A (cM kc a mo lo) := hD
  have hS : va_S A s.heap s.heap [] := hS
  obtain ⟨H, eH⟩ : ∃ z, z = s.heap := ⟨_, rfl⟩
  obtain ⟨locs, eL⟩ : ∃ z : List Loc, z = [] := ⟨_, rfl⟩
  have hP := q_heap hP eH
  have hS := q_heapS hS eH eL
  refine q_start eH eL ?_
  clear eH eL
  have hi4 : ∀ w ∈ u_ws RX4 TX4 29, w ∈ wsX4_count := by decide +kernel
  unfold w_X4_count at h
  refine lv_aload_n hx hb dX4_count_0 rfl (lv_at hl 0 rfl) ?_
  refine q_cVv (As := []) (rest := []) ⟨hx, hb, hml, hown, hts⟩ hK (c_X4_starts l D kc a mo lo H.size _ h) (cwV 0 hts gX4_count_X4_starts rfl rfl rfl (by decide +kernel) ⟨Nat.le_of_ble_eq_true rfl, Nat.le_of_ble_eq_true rfl⟩) (cut_same (fun u : S2 × SL => cM kc a u.1 u.2) (mo, lo)) hP hD hS hA 4 0 rfl rfl rfl hl.1 rfl (Nat.le_of_ble_eq_true rfl) dX4_count_1 ⟨Nat.zero_le _, Nat.zero_le _⟩ (fun u3 H locs h hP hD hS => ?_)
  obtain ⟨mo1, lo2⟩ := u3
  have hP : va_P D vwCl (cM kc a mo1 lo2) H := hP
  have hD : va_D A (cM kc a mo1 lo2) := hD
  refine lv_iload_n hx hb dX4_count_4 rfl (lv_at hl 1 rfl) ?_
  by_cases c4 : p1 = 0
  · have h := br1 h c4
    refine lv_tableIn (tgt := 40) hx hb dX4_count_5 (by rw [c4]; all_goals decide) (by rw [c4]; all_goals decide) (by rw [c4]; all_goals rfl) (by decide) ?_
    refine lv_aload_n hx hb dX4_count_40 rfl (lv_at hl 0 rfl) ?_
    refine va_get (D := D) (ci := 4) (v := .ref (a 1)) (C := RX4) (T := TX4) (N := 29) hx hb hts hi4 hown hK.1 hP 0 rfl rfl 0 (by decide) (hts (.fieldLink RX4 7 "LastPennyModel" "st" "[I") (by decide +kernel)) (fun _ h9 => h9) rfl dX4_count_41 ?_
    refine lv_bipush (v := 44) hx hb dX4_count_44 (by decide) ?_
    refine va_iald hx hb hK.1 hP 1 0 rfl rfl (by unfold vp_in; decide) dX4_count_46 ?_
    exact hret (mo1 1 (44 : Int32).toNatClampNeg) (mo1, lo2) H locs ls _ h hP hD hS dX4_count_47
  have h := br2 h c4
  by_cases c5 : p1 = 1
  · have h := br1 h c5
    refine lv_tableIn (tgt := 48) hx hb dX4_count_5 (by rw [c5]; all_goals decide) (by rw [c5]; all_goals decide) (by rw [c5]; all_goals rfl) (by decide) ?_
    refine lv_aload_n hx hb dX4_count_48 rfl (lv_at hl 0 rfl) ?_
    refine va_get (D := D) (ci := 4) (v := .ref (a 3)) (C := RX4) (T := TX4) (N := 29) hx hb hts hi4 hown hK.1 hP 0 rfl rfl 2 (by decide) (hts (.fieldLink RX4 16 "LastPennyModel" "isKept" "[Z") (by decide +kernel)) (fun _ h9 => h9) rfl dX4_count_49 ?_
    refine lv_iconst (v := 0) hx hb dX4_count_52 (by decide) ?_
    refine va_zald hx hb hK.1 hP 3 2 rfl rfl (by unfold vp_in; decide) dX4_count_53 ?_
    refine q_cSi (As := [.int (mo1 3 (0 : Int32).toNatClampNeg)]) (rest := []) ⟨hx, hb, hml, hown, hts⟩ hK (c_X4_flag l D kc (mo1 3 (0 : Int32).toNatClampNeg) H.size _ h) (va_cwS 1 hts gX4_count_X4_flag rfl rfl rfl (by decide +kernel) ⟨Nat.le_of_ble_eq_true rfl, Nat.le_of_ble_eq_true rfl⟩) (cut_nil _) hP hD hS hA rfl hl.1 rfl (Nat.le_of_ble_eq_true rfl) dX4_count_54 ⟨Nat.zero_le _, Nat.zero_le _⟩ (fun r6 _ H locs h hP hD hS => ?_)
    have hP : va_P D vwCl (cM kc a mo1 lo2) H := hP
    have hD : va_D A (cM kc a mo1 lo2) := hD
    refine lv_aload_n hx hb dX4_count_57 rfl (lv_at hl 0 rfl) ?_
    refine va_get (D := D) (ci := 4) (v := .ref (a 3)) (C := RX4) (T := TX4) (N := 29) hx hb hts hi4 hown hK.1 hP 0 rfl rfl 2 (by decide) (hts (.fieldLink RX4 16 "LastPennyModel" "isKept" "[Z") (by decide +kernel)) (fun _ h9 => h9) rfl dX4_count_58 ?_
    refine lv_iconst (v := 1) hx hb dX4_count_61 (by decide) ?_
    refine va_zald hx hb hK.1 hP 3 2 rfl rfl (by unfold vp_in; decide) dX4_count_62 ?_
    refine q_cSi (As := [.int (mo1 3 (1 : Int32).toNatClampNeg)]) (rest := [.int r6]) ⟨hx, hb, hml, hown, hts⟩ hK (c_X4_flag l D kc (mo1 3 (1 : Int32).toNatClampNeg) H.size _ h) (va_cwS 1 hts gX4_count_X4_flag rfl rfl rfl (by decide +kernel) ⟨Nat.le_of_ble_eq_true rfl, Nat.le_of_ble_eq_true rfl⟩) (cut_nil _) hP hD hS hA rfl hl.1 rfl (Nat.le_of_ble_eq_true rfl) dX4_count_63 ⟨Nat.zero_le _, Nat.zero_le _⟩ (fun r8 _ H locs h hP hD hS => ?_)
    have hP : va_P D vwCl (cM kc a mo1 lo2) H := hP
    have hD : va_D A (cM kc a mo1 lo2) := hD
    refine lv_iadd hx hb dX4_count_66 ?_
    exact hret (r6 + r8) (mo1, lo2) H locs ls _ h hP hD hS dX4_count_67
  have h := br2 h c5
  by_cases c10 : p1 = 2
  · have h := br1 h c10
    refine lv_tableIn (tgt := 68) hx hb dX4_count_5 (by rw [c10]; all_goals decide) (by rw [c10]; all_goals decide) (by rw [c10]; all_goals rfl) (by decide) ?_
    refine lv_aload_n hx hb dX4_count_68 rfl (lv_at hl 0 rfl) ?_
    refine va_get (D := D) (ci := 4) (v := .int (mo1 0 10)) (C := RX4) (T := TX4) (N := 29) hx hb hts hi4 hown hK.1 hP 0 rfl rfl 10 (by decide) (hts (.fieldLink RX4 76 "LastPennyModel" "taped" "I") (by decide +kernel)) (fun _ h9 => h9) rfl dX4_count_69 ?_
    exact hret (mo1 0 10) (mo1, lo2) H locs ls _ h hP hD hS dX4_count_72
  have h := br2 h c10
  by_cases c11 : p1 = 3
  · have h := br1 h c11
    refine lv_tableIn (tgt := 73) hx hb dX4_count_5 (by rw [c11]; all_goals decide) (by rw [c11]; all_goals decide) (by rw [c11]; all_goals rfl) (by decide) ?_
    refine lv_aload_n hx hb dX4_count_73 rfl (lv_at hl 0 rfl) ?_
    refine va_get (D := D) (ci := 4) (v := .ref (a 9)) (C := RX4) (T := TX4) (N := 29) hx hb hts hi4 hown hK.1 hP 0 rfl rfl 24 (by decide) (hts (.fieldLink RX4 35 "LastPennyModel" "lanes" "[I") (by decide +kernel)) (fun _ h9 => h9) rfl dX4_count_74 ?_
    refine lv_iconst (v := 0) hx hb dX4_count_77 (by decide) ?_
    refine va_iald hx hb hK.1 hP 9 0 rfl rfl (by unfold vp_in; decide) dX4_count_78 ?_
    refine lv_bipush (v := -4) hx hb dX4_count_79 (by decide) ?_
    refine lv_icmp_ne (tgt := 89) hx hb dX4_count_81 (by decide) (fun c12 => ?_) (fun c12 => ?_)
    · have h := br2 h c12
      refine lv_aload_n hx hb dX4_count_89 rfl (lv_at hl 0 rfl) ?_
      refine va_get (D := D) (ci := 4) (v := .ref (a 10)) (C := RX4) (T := TX4) (N := 29) hx hb hts hi4 hown hK.1 hP 0 rfl rfl 25 (by decide) (hts (.fieldLink RX4 38 "LastPennyModel" "sizes" "[I") (by decide +kernel)) (fun _ h9 => h9) rfl dX4_count_90 ?_
      refine lv_iconst (v := 0) hx hb dX4_count_93 (by decide) ?_
      refine va_iald hx hb hK.1 hP 10 0 rfl rfl (by unfold vp_in; decide) dX4_count_94 ?_
      exact hret (mo1 10 (0 : Int32).toNatClampNeg) (mo1, lo2) H locs ls _ h hP hD hS dX4_count_95
    · have h := br1 h c12
      refine lv_bipush (v := -4) hx hb dX4_count_84 (by decide) ?_
      refine lv_goto (tgt := 95) hx hb dX4_count_86 (by decide) ?_
      exact hret (-4) (mo1, lo2) H locs ls _ h hP hD hS dX4_count_95
  have h := br2 h c11
  by_cases c13 : p1 = 4
  · have h := br1 h c13
    refine lv_tableIn (tgt := 96) hx hb dX4_count_5 (by rw [c13]; all_goals decide) (by rw [c13]; all_goals decide) (by rw [c13]; all_goals rfl) (by decide) ?_
    refine lv_aload_n hx hb dX4_count_96 rfl (lv_at hl 0 rfl) ?_
    refine lv_iconst (v := 3) hx hb dX4_count_97 (by decide) ?_
    refine q_cVi (As := [.int 3]) (rest := []) ⟨hx, hb, hml, hown, hts⟩ hK (c_X4_allOf l D kc a (3 : Int32) mo1 lo2 H.size _ h) (cwV 1 hts gX4_count_X4_allOf rfl rfl rfl (by decide +kernel) ⟨Nat.le_of_ble_eq_true rfl, Nat.le_of_ble_eq_true rfl⟩) (cut_same (fun u : S2 × SL => cM kc a u.1 u.2) (mo1, lo2)) hP hD hS hA 4 0 rfl rfl rfl hl.1 rfl (Nat.le_of_ble_eq_true rfl) dX4_count_98 ⟨Nat.zero_le _, Nat.zero_le _⟩ (fun r16 u17 H locs h hP hD hS => ?_)
    obtain ⟨mo14, lo15⟩ := u17
    have hP : va_P D vwCl (cM kc a mo14 lo15) H := hP
    have hD : va_D A (cM kc a mo14 lo15) := hD
    exact hret r16 (mo14, lo15) H locs ls _ h hP hD hS dX4_count_101
  have h := br2 h c13
  have ht18 := lv_neT (a := 0) c4 (by decide)
  have ht19 := lv_neT (a := 1) c5 (by decide)
  have ht20 := lv_neT (a := 2) c10 (by decide)
  have ht21 := lv_neT (a := 3) c11 (by decide)
  have ht22 := lv_neT (a := 4) c13 (by decide)
  refine lv_tableOut (tgt := 102) hx hb dX4_count_5 (by omega) (by decide) ?_
  refine lv_iconst (v := -1) hx hb dX4_count_102 (by decide) ?_
  exact hret (-1) (mo1, lo2) H locs ls _ h hP hD hS dX4_count_103

