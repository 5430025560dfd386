def w_X3_read (p1 : Int32) (p2 : Int32) (p3 : Int32) (p4 : Int32) (o : S3) (K : Int32 → S3 → Prop) : Prop := w_X3_within p1 (0 : Int32) (3 : Int32) (fun r1 => br (r1 = 0) (K (-1) o) (w_X3_within p2 (0 : Int32) (2 : Int32) (fun r4 => br (r4 = 0) (K (-1) o) (w_X3_within p4 (0 : Int32) (20 : Int32) (fun r7 => br (r7 = 0) (K (-1) o) (w_X2_become (o 3) (o 1) (fun w10 v11 => nm ((va_up (va_up o 3 w10) 1 v11) : S3) (fun o13 => vp_in p1 4 ∧ (lfp4 (fun G59 (i16 : Int32) (i17 : Int32) (i18 : Int32) (o19 : S3) => jn (fun (_ : Unit) => nm ((va_up o19 0 (va_up (o19 0) 0 (upd ((o19 0) 0) 7 i17))) : S3) (fun o20 => K i16 o20)) (fun J145 => br (p4 ≤ i18) (J145 ()) (br (i17 = 0) (nm ((p3 + (2 * i18)) : Int32) (fun x23 => w_X0_faultOfPair p2 x23 (o19 (gi 7 p1)) (fun r25 w24 => nm ((va_up o19 (gi 7 p1) w24) : S3) (fun o27 => jn (fun (i28 : Int32) (o29 : S3) => nm (i18 + 1 : Int32) (fun x30 => G59 i28 r25 x30 o29)) (fun J139 => br (r25 = 0) (vp_in x23 40 ∧ (vp_in (x23 + 1) 40 ∧ (w_X3_takeMeans (o27 (gi 7 p1) 1 x23.toNatClampNeg) (o27 (gi 7 p1) 1 (x23 + 1).toNatClampNeg) o27 (fun r35 o34 => br (r35 = 0) (w_X2_become (o34 1) (o34 3) (fun w39 v40 => nm ((va_up (va_up o34 1 w39) 3 v40) : S3) (fun o42 => K ((-20) - i18) o42))) (nm (i16 + 1 : Int32) (fun x38 => J139 x38 o34)))))) (J139 i16 o27)))))) (J145 ())))) 0 0 0 o13)))))))))
abbrev rm_X3_read : Room := { frames := 4, cells := 0, slots := 0, locals := 129 }
set_option maxHeartbeats 4000000 in
set_option maxRecDepth 100000 in
theorem c_X3_read (l : Launch) (D : va_G) (kc : Nat → ClassId) (a : Nat → Nat → Nat) (p1 : Int32) (p2 : Int32) (p3 : Int32) (p4 : Int32) (o : S3) (sz : Nat) (K : Int32 → S3 → Prop) (h : w_X3_read p1 p2 p3 p4 o K) : MetI l yX3_read wsX3_read rm_X3_read D kc (fun u : S3 => cLP kc a u) o [.ref (a 0 0), .int p1, .int p2, .int p3, .int p4] sz (fun r u => K r u) := by
  refine q_ei (code := cX3_read) (maxL := 10) (by decide) rfl (Nat.le_of_ble_eq_true rfl) ?_
  intro p e s m args below meth c Q A hx hb hml hts hown hK hA hret ls hl hP hD hS
  have hown : s.vm.findClass RX3 = some m.cls := hown
  have hl : lv_has ls 10 [(0, .ref (a 0 0)), (1, .int p1), (2, .int p2), (3, .int p3), (4, .int p4)] := hl
  have hP : va_P D vwCl (cLP kc a o) s.heap := hP
  have hD : va_D A (cLP kc a o) := hD
  have hS : va_S A s.heap s.heap [] := hS
  obtain ⟨H, eH⟩ : ∃ z, z = s.heap := ⟨_, rfl⟩
  obtain ⟨locs, eL⟩ : ∃ z : List Loc, z = [] := ⟨_, rfl⟩
  have hP := q_heap hP eH
  have hS := q_heapS hS eH eL
  refine q_start eH eL ?_
  clear eH eL
  have hi0 : ∀ w ∈ u_ws RX0 TX0 3, w ∈ wsX3_read := by decide +kernel
  have hi3 : ∀ w ∈ u_ws RX3 TX3 10, w ∈ wsX3_read := by decide +kernel
  unfold w_X3_read at h
  refine lv_iload_n hx hb dX3_read_0 rfl (lv_at hl 1 rfl) ?_
  refine lv_iconst (v := 0) hx hb dX3_read_1 (by decide) ?_
  refine lv_iconst (v := 3) hx hb dX3_read_2 (by decide) ?_
  refine q_cSi (As := [.int p1, .int 0, .int 3]) (rest := []) ⟨hx, hb, hml, hown, hts⟩ hK (c_X3_within l D kc p1 (0 : Int32) (3 : Int32) H.size _ h) (va_cwS 3 hts gX3_read_X3_within rfl rfl rfl (by decide +kernel) ⟨Nat.le_of_ble_eq_true rfl, Nat.le_of_ble_eq_true rfl⟩) (cut_nil _) hP hD hS hA rfl hl.1 rfl (Nat.le_of_ble_eq_true rfl) dX3_read_3 ⟨Nat.zero_le _, Nat.zero_le _⟩ (fun r1 _ H locs h hP hD hS => ?_)
  have hP : va_P D vwCl (cLP kc a o) H := hP
  have hD : va_D A (cLP kc a o) := hD
  refine lv_if_eq (tgt := 29) hx hb dX3_read_6 (by decide) (fun c3 => ?_) (fun c3 => ?_)
  · have h := br1 h c3
    refine lv_iconst (v := -1) hx hb dX3_read_29 (by decide) ?_
    exact hret (-1) o H locs ls _ h hP hD hS dX3_read_30
  · have h := br2 h c3
    refine lv_iload_n hx hb dX3_read_9 rfl (lv_at hl 2 rfl) ?_
    refine lv_iconst (v := 0) hx hb dX3_read_10 (by decide) ?_
    refine lv_iconst (v := 2) hx hb dX3_read_11 (by decide) ?_
    refine q_cSi (As := [.int p2, .int 0, .int 2]) (rest := []) ⟨hx, hb, hml, hown, hts⟩ hK (c_X3_within l D kc p2 (0 : Int32) (2 : Int32) H.size _ h) (va_cwS 3 hts gX3_read_X3_within rfl rfl rfl (by decide +kernel) ⟨Nat.le_of_ble_eq_true rfl, Nat.le_of_ble_eq_true rfl⟩) (cut_nil _) hP hD hS hA rfl hl.1 rfl (Nat.le_of_ble_eq_true rfl) dX3_read_12 ⟨Nat.zero_le _, Nat.zero_le _⟩ (fun r4 _ H locs h hP hD hS => ?_)
    have hP : va_P D vwCl (cLP kc a o) H := hP
    have hD : va_D A (cLP kc a o) := hD
    refine lv_if_eq (tgt := 29) hx hb dX3_read_15 (by decide) (fun c6 => ?_) (fun c6 => ?_)
    · have h := br1 h c6
      refine lv_iconst (v := -1) hx hb dX3_read_29 (by decide) ?_
      exact hret (-1) o H locs ls _ h hP hD hS dX3_read_30
    · have h := br2 h c6
      refine lv_iload hx hb dX3_read_18 (lv_at hl 4 rfl) ?_
      refine lv_iconst (v := 0) hx hb dX3_read_20 (by decide) ?_
      refine lv_bipush (v := 20) hx hb dX3_read_21 (by decide) ?_
      refine q_cSi (As := [.int p4, .int 0, .int 20]) (rest := []) ⟨hx, hb, hml, hown, hts⟩ hK (c_X3_within l D kc p4 (0 : Int32) (20 : Int32) H.size _ h) (va_cwS 3 hts gX3_read_X3_within rfl rfl rfl (by decide +kernel) ⟨Nat.le_of_ble_eq_true rfl, Nat.le_of_ble_eq_true rfl⟩) (cut_nil _) hP hD hS hA rfl hl.1 rfl (Nat.le_of_ble_eq_true rfl) dX3_read_23 ⟨Nat.zero_le _, Nat.zero_le _⟩ (fun r7 _ H locs h hP hD hS => ?_)
      have hP : va_P D vwCl (cLP kc a o) H := hP
      have hD : va_D A (cLP kc a o) := hD
      refine lv_if_ne (tgt := 31) hx hb dX3_read_26 (by decide) (fun c9 => ?_) (fun c9 => ?_)
      · have h := br2 h c9
        refine lv_aload_n hx hb dX3_read_31 rfl (lv_at hl 0 rfl) ?_
        refine va_get (D := D) (ci := 3) (v := .ref (a 3 0)) (C := RX3) (T := TX3) (N := 10) hx hb hts hi3 hown hK.1 hP 0 rfl rfl 3 (by decide) (hts (.fieldLink RX3 26 "LastPenny" "aside" "LLastPenny$World;") (by decide +kernel)) (fun _ h9 => h9) rfl dX3_read_32 ?_
        refine lv_aload_n hx hb dX3_read_35 rfl (lv_at hl 0 rfl) ?_
        refine va_get (D := D) (ci := 3) (v := .ref (a 1 0)) (C := RX3) (T := TX3) (N := 10) hx hb hts hi3 hown hK.1 hP 0 rfl rfl 1 (by decide) (hts (.fieldLink RX3 19 "LastPenny" "now" "LLastPenny$World;") (by decide +kernel)) (fun _ h9 => h9) rfl dX3_read_36 ?_
        refine q_cVv (As := [.ref (a 1 0)]) (rest := []) ⟨hx, hb, hml, hown, hts⟩ hK (c_X2_become l D kc (a 3) (a 1) (o 3) (o 1) H.size _ h) (cwV 1 hts gX3_read_X2_become rfl rfl rfl (by decide +kernel) ⟨Nat.le_of_ble_eq_true rfl, Nat.le_of_ble_eq_true rfl⟩) (cut_LP_3_1 D kc a o) hP hD hS hA 2 0 rfl rfl rfl hl.1 rfl (Nat.le_of_ble_eq_true rfl) dX3_read_39 ⟨Nat.zero_le _, Nat.zero_le _⟩ (fun u12 H locs h hP hD hS => ?_)
        obtain ⟨w10, v11⟩ := u12
        obtain ⟨o13, eo13⟩ : ∃ z, z = (va_up (va_up o 3 w10) 1 v11) := ⟨_, rfl⟩
        have h := nm_out h o13 eo13
        have hP : va_P D vwCl (cLP kc a o13) H := q_to hP (by subst eo13; rfl)
        have hD : va_D A (cLP kc a o13) := q_toD hD (by subst eo13; rfl)
        refine lv_aload_n hx hb dX3_read_42 rfl (lv_at hl 0 rfl) ?_
        refine va_get (D := D) (ci := 3) (v := .ref (a 0 3)) (C := RX3) (T := TX3) (N := 10) hx hb hts hi3 hown hK.1 hP 0 rfl rfl 6 (by decide) (hts (.fieldLink RX3 39 "LastPenny" "sheets" "[LLastPenny$Sheet;") (by decide +kernel)) (fun _ h9 => h9) rfl dX3_read_43 ?_
        refine lv_iload_n hx hb dX3_read_46 rfl (lv_at hl 1 rfl) ?_
        obtain ⟨hi_14, h⟩ := h
        refine va_aldq hx hb hK.1 hP 3 4 rfl rfl hi_14 dX3_read_47 ?_
        obtain ⟨j15, hj15, ej15⟩ := vp_in_of hi_14 (by decide)
        rcases (show j15 = 0 ∨ j15 = 1 ∨ j15 = 2 ∨ j15 = 3 by omega) with rfl | rfl | rfl | rfl
        · subst ej15
          simp only [gi_7_0] at h
          refine W.eq (g2 := F0 m 48 ls [.ref (a 7 0)]) rfl ?_
          refine lv_astore (lv' := [(5, .ref (a 7 0)), (0, .ref (a 0 0)), (1, .int (nI 0)), (2, .int p2), (3, .int p3), (4, .int p4)]) hx hb dX3_read_48 hl (by decide) rfl (fun ls hl => ?_)
          refine lv_iconst (v := 0) hx hb dX3_read_50 (by decide) ?_
          refine lv_istore (lv' := [(6, .int 0), (5, .ref (a 7 0)), (0, .ref (a 0 0)), (1, .int (nI 0)), (2, .int p2), (3, .int p3), (4, .int p4)]) hx hb dX3_read_51 hl (by decide) rfl (fun ls hl => ?_)
          refine lv_iconst (v := 0) hx hb dX3_read_53 (by decide) ?_
          refine lv_istore (lv' := [(7, .int 0), (6, .int 0), (5, .ref (a 7 0)), (0, .ref (a 0 0)), (1, .int (nI 0)), (2, .int p2), (3, .int p3), (4, .int p4)]) hx hb dX3_read_54 hl (by decide) rfl (fun ls hl => ?_)
          refine lv_iconst (v := 0) hx hb dX3_read_56 (by decide) ?_
          refine lv_istore (lv' := [(8, .int 0), (7, .int 0), (6, .int 0), (5, .ref (a 7 0)), (0, .ref (a 0 0)), (1, .int (nI 0)), (2, .int p2), (3, .int p3), (4, .int p4)]) hx hb dX3_read_57 hl (by decide) rfl (fun ls hl => ?_)
          refine h (fun (i16 : Int32) (i17 : Int32) (i18 : Int32) (o19 : S3) => ∀ (ls : Array Slot) (H : Heap) (locs : List Loc), lv_has ls 10 [(0, .ref (a 0 0)), (2, .int p2), (3, .int p3), (4, .int p4), (5, .ref (a 7 0)), (6, .int i16), (7, .int i17), (8, .int i18)] → va_P D vwCl (cLP kc a o19) H → va_D A (cLP kc a o19) → va_S A s.heap H locs → W p l e rm_X3_read s m args below meth c H locs 0 0 Q (F0 m 59 ls [])) ?_ ls H locs (lv_sub hl [4, 6, 7, 8, 3, 2, 1, 0] rfl) hP hD hS
          intro i16 i17 i18 o19 h ls H locs hl hP hD hS
          refine lv_iload hx hb dX3_read_59 (lv_at hl 7 rfl) ?_
          refine lv_iload hx hb dX3_read_61 (lv_at hl 3 rfl) ?_
          refine jn_elim h (fun J145 eJ145 h => ?_)
          have hJ_145 : ∀  (ls : Array Slot), J145 () → lv_has ls 10 [(0, .ref (a 0 0)), (6, .int i16), (7, .int i17)] → W p l e rm_X3_read s m args below meth c H locs 0 0 Q (F0 m 145 ls []) := by
            intro  ls h hl
            subst eJ145
            refine lv_aload_n hx hb dX3_read_145 rfl (lv_at hl 0 rfl) ?_
            refine lv_iload hx hb dX3_read_146 (lv_at hl 2 rfl) ?_
            refine va_put (D := D) (ci := 3) (v := .int i17) (ty := .int) (C := RX3) (T := TX3) (N := 10) hx hb hts hi3 tyX3 tyX3_ok nmX3 hown hK.1 hP hD hS 0 rfl rfl 7 (by decide) (hts (.fieldLink RX3 221 "LastPenny" "tornFault" "I") (by decide +kernel)) (fun _ h9 => h9) rfl (by decide +kernel) rfl rfl (Nat.le_of_ble_eq_true rfl) dX3_read_148 (fun H locs hP hD hS => ?_)
            obtain ⟨o20, eo20⟩ : ∃ z, z = (va_up o19 0 (va_up (o19 0) 0 (upd ((o19 0) 0) 7 i17))) := ⟨_, rfl⟩
            have h := nm_out h o20 eo20
            have hP : va_P D vwCl (cLP kc a o20) H := q_to hP (by subst eo20; rfl)
            have hD : va_D A (cLP kc a o20) := q_toD hD (by subst eo20; rfl)
            refine lv_iload hx hb dX3_read_151 (lv_at hl 1 rfl) ?_
            exact hret i16 o20 H locs ls _ h hP hD hS dX3_read_153
          refine lv_icmp_ge (tgt := 145) hx hb dX3_read_63 (by decide) (fun c21 => ?_) (fun c21 => ?_)
          · have h := br1 h c21
            exact hJ_145 ls h (lv_sub hl [0, 5, 6] rfl)
          · have h := br2 h c21
            refine lv_iload hx hb dX3_read_66 (lv_at hl 6 rfl) ?_
            refine lv_if_ne (tgt := 145) hx hb dX3_read_68 (by decide) (fun c22 => ?_) (fun c22 => ?_)
            · have h := br2 h c22
              exact hJ_145 ls h (lv_sub hl [0, 5, 6] rfl)
            · have h := br1 h c22
              refine lv_iload_n hx hb dX3_read_71 rfl (lv_at hl 2 rfl) ?_
              refine lv_iconst (v := 2) hx hb dX3_read_72 (by decide) ?_
              refine lv_iload hx hb dX3_read_73 (lv_at hl 7 rfl) ?_
              refine lv_imul hx hb dX3_read_75 ?_
              refine lv_iadd hx hb dX3_read_76 ?_
              refine lv_topi (fun x23 ex23 => ?_)
              have h := nm_out h x23 ex23
              refine lv_istore (lv' := [(9, .int x23), (0, .ref (a 0 0)), (2, .int p2), (3, .int p3), (4, .int p4), (5, .ref (a 7 0)), (6, .int i16), (7, .int i17), (8, .int i18)]) hx hb dX3_read_77 hl (by decide) rfl (fun ls hl => ?_)
              refine lv_aload hx hb dX3_read_79 (lv_at hl 5 rfl) ?_
              refine lv_iload_n hx hb dX3_read_81 rfl (lv_at hl 2 rfl) ?_
              refine lv_iload hx hb dX3_read_82 (lv_at hl 0 rfl) ?_
              refine q_cVi (As := [.int p2, .int x23]) (rest := []) ⟨hx, hb, hml, hown, hts⟩ hK (c_X0_faultOfPair l D kc (a 7) p2 x23 (o19 7) H.size _ h) (cwV 2 hts gX3_read_X0_faultOfPair rfl rfl rfl (by decide +kernel) ⟨Nat.le_of_ble_eq_true rfl, Nat.le_of_ble_eq_true rfl⟩) (cut_LP_7 D kc a o19) hP hD hS hA 0 0 rfl rfl rfl hl.1 rfl (Nat.le_of_ble_eq_true rfl) dX3_read_84 ⟨Nat.zero_le _, Nat.zero_le _⟩ (fun r25 u26 H locs h hP hD hS => ?_)
              obtain ⟨w24, rfl⟩ : ∃ z, z = u26 := ⟨_, rfl⟩
              obtain ⟨o27, eo27⟩ : ∃ z, z = (va_up o19 7 w24) := ⟨_, rfl⟩
              have h := nm_out h o27 eo27
              have hP : va_P D vwCl (cLP kc a o27) H := q_to hP (by subst eo27; rfl)
              have hD : va_D A (cLP kc a o27) := q_toD hD (by subst eo27; rfl)
              refine lv_istore (lv' := [(7, .int r25), (9, .int x23), (0, .ref (a 0 0)), (2, .int p2), (3, .int p3), (4, .int p4), (5, .ref (a 7 0)), (6, .int i16), (8, .int i18)]) hx hb dX3_read_87 hl (by decide) rfl (fun ls hl => ?_)
              refine lv_iload hx hb dX3_read_89 (lv_at hl 0 rfl) ?_
              refine jn_elim h (fun J139 eJ139 h => ?_)
              have hJ_139 : ∀ (i28 : Int32) (o29 : S3) (ls : Array Slot) (H : Heap) (locs : List Loc), J139 i28 o29 → lv_has ls 10 [(0, .ref (a 0 0)), (2, .int p2), (3, .int p3), (4, .int p4), (5, .ref (a 7 0)), (6, .int i28), (7, .int r25), (8, .int i18)] → va_P D vwCl (cLP kc a o29) H → va_D A (cLP kc a o29) → va_S A s.heap H locs → W p l e rm_X3_read s m args below meth c H locs 0 0 Q (F0 m 139 ls []) := by
                intro i28 o29 ls H locs h hl hP hD hS
                subst eJ139
                obtain ⟨x30, ex30⟩ : ∃ z : Int32, z = i18 + 1 := ⟨_, rfl⟩
                have h := nm_out h x30 ex30
                refine lv_iinc (v := x30) (lv' := [(8, .int x30), (0, .ref (a 0 0)), (2, .int p2), (3, .int p3), (4, .int p4), (5, .ref (a 7 0)), (6, .int i28), (7, .int r25)]) hx hb dX3_read_139 hl (k := 7) rfl (by rw [ex30]; rfl) (by decide) rfl (fun ls hl => ?_)
                refine lv_goto (tgt := 59) hx hb dX3_read_142 (by decide) ?_
                exact h ls H locs (lv_sub hl [1, 2, 3, 4, 5, 6, 7, 0] rfl) hP hD hS
              refine lv_if_ne (tgt := 139) hx hb dX3_read_91 (by decide) (fun c31 => ?_) (fun c31 => ?_)
              · have h := br2 h c31
                exact hJ_139 i16 o27 ls H locs h (lv_sub hl [2, 3, 4, 5, 6, 7, 0, 8] rfl) hP hD hS
              · have h := br1 h c31
                refine lv_aload_n hx hb dX3_read_94 rfl (lv_at hl 2 rfl) ?_
                refine lv_aload hx hb dX3_read_95 (lv_at hl 6 rfl) ?_
                refine va_get (D := D) (ci := 0) (v := .ref (a 7 1)) (C := RX0) (T := TX0) (N := 3) hx hb hts hi0 hown hK.1 hP 48 rfl rfl 2 (by decide) (hts (.fieldLink RX3 215 "LastPenny$Sheet" "cells" "[I") (by decide +kernel)) (fun _ h9 => h9) rfl dX3_read_97 ?_
                refine lv_iload hx hb dX3_read_100 (lv_at hl 1 rfl) ?_
                obtain ⟨hi_32, h⟩ := h
                refine va_iald hx hb hK.1 hP 49 0 rfl rfl hi_32 dX3_read_102 ?_
                refine lv_aload hx hb dX3_read_103 (lv_at hl 6 rfl) ?_
                refine va_get (D := D) (ci := 0) (v := .ref (a 7 1)) (C := RX0) (T := TX0) (N := 3) hx hb hts hi0 hown hK.1 hP 48 rfl rfl 2 (by decide) (hts (.fieldLink RX3 215 "LastPenny$Sheet" "cells" "[I") (by decide +kernel)) (fun _ h9 => h9) rfl dX3_read_105 ?_
                refine lv_iload hx hb dX3_read_108 (lv_at hl 1 rfl) ?_
                refine lv_iconst (v := 1) hx hb dX3_read_110 (by decide) ?_
                refine lv_iadd hx hb dX3_read_111 ?_
                obtain ⟨hi_33, h⟩ := h
                refine va_iald hx hb hK.1 hP 49 0 rfl rfl hi_33 dX3_read_112 ?_
                refine q_cVi (As := [.int (o27 7 1 x23.toNatClampNeg), .int (o27 7 1 (x23 + 1).toNatClampNeg)]) (rest := []) ⟨hx, hb, hml, hown, hts⟩ hK (c_X3_takeMeans l D kc a (o27 7 1 x23.toNatClampNeg) (o27 7 1 (x23 + 1).toNatClampNeg) o27 H.size _ h) (cwV 2 hts gX3_read_X3_takeMeans rfl rfl rfl (by decide +kernel) ⟨Nat.le_of_ble_eq_true rfl, Nat.le_of_ble_eq_true rfl⟩) (cut_same (fun u : S3 => cLP kc a u) o27) hP hD hS hA 3 0 rfl rfl rfl hl.1 rfl (Nat.le_of_ble_eq_true rfl) dX3_read_113 ⟨Nat.zero_le _, Nat.zero_le _⟩ (fun r35 u36 H locs h hP hD hS => ?_)
                obtain ⟨o34, rfl⟩ : ∃ z, z = u36 := ⟨_, rfl⟩
                have hP : va_P D vwCl (cLP kc a o34) H := hP
                have hD : va_D A (cLP kc a o34) := hD
                refine lv_if_ne (tgt := 136) hx hb dX3_read_116 (by decide) (fun c37 => ?_) (fun c37 => ?_)
                · have h := br2 h c37
                  obtain ⟨x38, ex38⟩ : ∃ z : Int32, z = i16 + 1 := ⟨_, rfl⟩
                  have h := nm_out h x38 ex38
                  refine lv_iinc (v := x38) (lv' := [(6, .int x38), (7, .int r25), (9, .int x23), (0, .ref (a 0 0)), (2, .int p2), (3, .int p3), (4, .int p4), (5, .ref (a 7 0)), (8, .int i18)]) hx hb dX3_read_136 hl (k := 7) rfl (by rw [ex38]; rfl) (by decide) rfl (fun ls hl => ?_)
                  exact hJ_139 x38 o34 ls H locs h (lv_sub hl [3, 4, 5, 6, 7, 0, 1, 8] rfl) hP hD hS
                · have h := br1 h c37
                  refine lv_aload_n hx hb dX3_read_119 rfl (lv_at hl 2 rfl) ?_
                  refine va_get (D := D) (ci := 3) (v := .ref (a 1 0)) (C := RX3) (T := TX3) (N := 10) hx hb hts hi3 hown hK.1 hP 0 rfl rfl 1 (by decide) (hts (.fieldLink RX3 19 "LastPenny" "now" "LLastPenny$World;") (by decide +kernel)) (fun _ h9 => h9) rfl dX3_read_120 ?_
                  refine lv_aload_n hx hb dX3_read_123 rfl (lv_at hl 2 rfl) ?_
                  refine va_get (D := D) (ci := 3) (v := .ref (a 3 0)) (C := RX3) (T := TX3) (N := 10) hx hb hts hi3 hown hK.1 hP 0 rfl rfl 3 (by decide) (hts (.fieldLink RX3 26 "LastPenny" "aside" "LLastPenny$World;") (by decide +kernel)) (fun _ h9 => h9) rfl dX3_read_124 ?_
                  refine q_cVv (As := [.ref (a 3 0)]) (rest := []) ⟨hx, hb, hml, hown, hts⟩ hK (c_X2_become l D kc (a 1) (a 3) (o34 1) (o34 3) H.size _ h) (cwV 1 hts gX3_read_X2_become rfl rfl rfl (by decide +kernel) ⟨Nat.le_of_ble_eq_true rfl, Nat.le_of_ble_eq_true rfl⟩) (cut_LP_1_3 D kc a o34) hP hD hS hA 2 0 rfl rfl rfl hl.1 rfl (Nat.le_of_ble_eq_true rfl) dX3_read_127 ⟨Nat.zero_le _, Nat.zero_le _⟩ (fun u41 H locs h hP hD hS => ?_)
                  obtain ⟨w39, v40⟩ := u41
                  obtain ⟨o42, eo42⟩ : ∃ z, z = (va_up (va_up o34 1 w39) 3 v40) := ⟨_, rfl⟩
                  have h := nm_out h o42 eo42
                  have hP : va_P D vwCl (cLP kc a o42) H := q_to hP (by subst eo42; rfl)
                  have hD : va_D A (cLP kc a o42) := q_toD hD (by subst eo42; rfl)
                  refine lv_bipush (v := -20) hx hb dX3_read_130 (by decide) ?_
                  refine lv_iload hx hb dX3_read_132 (lv_at hl 8 rfl) ?_
                  refine lv_isub hx hb dX3_read_134 ?_
                  exact hret ((-20) - i18) o42 H locs ls _ h hP hD hS dX3_read_135
        · subst ej15
          simp only [gi_7_1] at h
          refine W.eq (g2 := F0 m 48 ls [.ref (a 8 0)]) rfl ?_
          refine lv_astore (lv' := [(5, .ref (a 8 0)), (0, .ref (a 0 0)), (1, .int (nI 1)), (2, .int p2), (3, .int p3), (4, .int p4)]) hx hb dX3_read_48 hl (by decide) rfl (fun ls hl => ?_)
          refine lv_iconst (v := 0) hx hb dX3_read_50 (by decide) ?_
          refine lv_istore (lv' := [(6, .int 0), (5, .ref (a 8 0)), (0, .ref (a 0 0)), (1, .int (nI 1)), (2, .int p2), (3, .int p3), (4, .int p4)]) hx hb dX3_read_51 hl (by decide) rfl (fun ls hl => ?_)
          refine lv_iconst (v := 0) hx hb dX3_read_53 (by decide) ?_
          refine lv_istore (lv' := [(7, .int 0), (6, .int 0), (5, .ref (a 8 0)), (0, .ref (a 0 0)), (1, .int (nI 1)), (2, .int p2), (3, .int p3), (4, .int p4)]) hx hb dX3_read_54 hl (by decide) rfl (fun ls hl => ?_)
          refine lv_iconst (v := 0) hx hb dX3_read_56 (by decide) ?_
          refine lv_istore (lv' := [(8, .int 0), (7, .int 0), (6, .int 0), (5, .ref (a 8 0)), (0, .ref (a 0 0)), (1, .int (nI 1)), (2, .int p2), (3, .int p3), (4, .int p4)]) hx hb dX3_read_57 hl (by decide) rfl (fun ls hl => ?_)
          refine h (fun (i16 : Int32) (i17 : Int32) (i18 : Int32) (o19 : S3) => ∀ (ls : Array Slot) (H : Heap) (locs : List Loc), lv_has ls 10 [(0, .ref (a 0 0)), (2, .int p2), (3, .int p3), (4, .int p4), (5, .ref (a 8 0)), (6, .int i16), (7, .int i17), (8, .int i18)] → va_P D vwCl (cLP kc a o19) H → va_D A (cLP kc a o19) → va_S A s.heap H locs → W p l e rm_X3_read s m args below meth c H locs 0 0 Q (F0 m 59 ls [])) ?_ ls H locs (lv_sub hl [4, 6, 7, 8, 3, 2, 1, 0] rfl) hP hD hS
          intro i16 i17 i18 o19 h ls H locs hl hP hD hS
          refine lv_iload hx hb dX3_read_59 (lv_at hl 7 rfl) ?_
          refine lv_iload hx hb dX3_read_61 (lv_at hl 3 rfl) ?_
          refine jn_elim h (fun J145 eJ145 h => ?_)
          have hJ_145 : ∀  (ls : Array Slot), J145 () → lv_has ls 10 [(0, .ref (a 0 0)), (6, .int i16), (7, .int i17)] → W p l e rm_X3_read s m args below meth c H locs 0 0 Q (F0 m 145 ls []) := by
            intro  ls h hl
            subst eJ145
            refine lv_aload_n hx hb dX3_read_145 rfl (lv_at hl 0 rfl) ?_
            refine lv_iload hx hb dX3_read_146 (lv_at hl 2 rfl) ?_
            refine va_put (D := D) (ci := 3) (v := .int i17) (ty := .int) (C := RX3) (T := TX3) (N := 10) hx hb hts hi3 tyX3 tyX3_ok nmX3 hown hK.1 hP hD hS 0 rfl rfl 7 (by decide) (hts (.fieldLink RX3 221 "LastPenny" "tornFault" "I") (by decide +kernel)) (fun _ h9 => h9) rfl (by decide +kernel) rfl rfl (Nat.le_of_ble_eq_true rfl) dX3_read_148 (fun H locs hP hD hS => ?_)
            obtain ⟨o20, eo20⟩ : ∃ z, z = (va_up o19 0 (va_up (o19 0) 0 (upd ((o19 0) 0) 7 i17))) := ⟨_, rfl⟩
            have h := nm_out h o20 eo20
            have hP : va_P D vwCl (cLP kc a o20) H := q_to hP (by subst eo20; rfl)
            have hD : va_D A (cLP kc a o20) := q_toD hD (by subst eo20; rfl)
            refine lv_iload hx hb dX3_read_151 (lv_at hl 1 rfl) ?_
            exact hret i16 o20 H locs ls _ h hP hD hS dX3_read_153
          refine lv_icmp_ge (tgt := 145) hx hb dX3_read_63 (by decide) (fun c21 => ?_) (fun c21 => ?_)
          · have h := br1 h c21
            exact hJ_145 ls h (lv_sub hl [0, 5, 6] rfl)
          · have h := br2 h c21
            refine lv_iload hx hb dX3_read_66 (lv_at hl 6 rfl) ?_
            refine lv_if_ne (tgt := 145) hx hb dX3_read_68 (by decide) (fun c22 => ?_) (fun c22 => ?_)
            · have h := br2 h c22
              exact hJ_145 ls h (lv_sub hl [0, 5, 6] rfl)
            · have h := br1 h c22
              refine lv_iload_n hx hb dX3_read_71 rfl (lv_at hl 2 rfl) ?_
              refine lv_iconst (v := 2) hx hb dX3_read_72 (by decide) ?_
              refine lv_iload hx hb dX3_read_73 (lv_at hl 7 rfl) ?_
              refine lv_imul hx hb dX3_read_75 ?_
              refine lv_iadd hx hb dX3_read_76 ?_
              refine lv_topi (fun x23 ex23 => ?_)
              have h := nm_out h x23 ex23
              refine lv_istore (lv' := [(9, .int x23), (0, .ref (a 0 0)), (2, .int p2), (3, .int p3), (4, .int p4), (5, .ref (a 8 0)), (6, .int i16), (7, .int i17), (8, .int i18)]) hx hb dX3_read_77 hl (by decide) rfl (fun ls hl => ?_)
              refine lv_aload hx hb dX3_read_79 (lv_at hl 5 rfl) ?_
              refine lv_iload_n hx hb dX3_read_81 rfl (lv_at hl 2 rfl) ?_
              refine lv_iload hx hb dX3_read_82 (lv_at hl 0 rfl) ?_
              refine q_cVi (As := [.int p2, .int x23]) (rest := []) ⟨hx, hb, hml, hown, hts⟩ hK (c_X0_faultOfPair l D kc (a 8) p2 x23 (o19 8) H.size _ h) (cwV 2 hts gX3_read_X0_faultOfPair rfl rfl rfl (by decide +kernel) ⟨Nat.le_of_ble_eq_true rfl, Nat.le_of_ble_eq_true rfl⟩) (cut_LP_8 D kc a o19) hP hD hS hA 0 0 rfl rfl rfl hl.1 rfl (Nat.le_of_ble_eq_true rfl) dX3_read_84 ⟨Nat.zero_le _, Nat.zero_le _⟩ (fun r25 u26 H locs h hP hD hS => ?_)
              obtain ⟨w24, rfl⟩ : ∃ z, z = u26 := ⟨_, rfl⟩
              obtain ⟨o27, eo27⟩ : ∃ z, z = (va_up o19 8 w24) := ⟨_, rfl⟩
              have h := nm_out h o27 eo27
              have hP : va_P D vwCl (cLP kc a o27) H := q_to hP (by subst eo27; rfl)
              have hD : va_D A (cLP kc a o27) := q_toD hD (by subst eo27; rfl)
              refine lv_istore (lv' := [(7, .int r25), (9, .int x23), (0, .ref (a 0 0)), (2, .int p2), (3, .int p3), (4, .int p4), (5, .ref (a 8 0)), (6, .int i16), (8, .int i18)]) hx hb dX3_read_87 hl (by decide) rfl (fun ls hl => ?_)
              refine lv_iload hx hb dX3_read_89 (lv_at hl 0 rfl) ?_
              refine jn_elim h (fun J139 eJ139 h => ?_)
              have hJ_139 : ∀ (i28 : Int32) (o29 : S3) (ls : Array Slot) (H : Heap) (locs : List Loc), J139 i28 o29 → lv_has ls 10 [(0, .ref (a 0 0)), (2, .int p2), (3, .int p3), (4, .int p4), (5, .ref (a 8 0)), (6, .int i28), (7, .int r25), (8, .int i18)] → va_P D vwCl (cLP kc a o29) H → va_D A (cLP kc a o29) → va_S A s.heap H locs → W p l e rm_X3_read s m args below meth c H locs 0 0 Q (F0 m 139 ls []) := by
                intro i28 o29 ls H locs h hl hP hD hS
                subst eJ139
                obtain ⟨x30, ex30⟩ : ∃ z : Int32, z = i18 + 1 := ⟨_, rfl⟩
                have h := nm_out h x30 ex30
                refine lv_iinc (v := x30) (lv' := [(8, .int x30), (0, .ref (a 0 0)), (2, .int p2), (3, .int p3), (4, .int p4), (5, .ref (a 8 0)), (6, .int i28), (7, .int r25)]) hx hb dX3_read_139 hl (k := 7) rfl (by rw [ex30]; rfl) (by decide) rfl (fun ls hl => ?_)
                refine lv_goto (tgt := 59) hx hb dX3_read_142 (by decide) ?_
                exact h ls H locs (lv_sub hl [1, 2, 3, 4, 5, 6, 7, 0] rfl) hP hD hS
              refine lv_if_ne (tgt := 139) hx hb dX3_read_91 (by decide) (fun c31 => ?_) (fun c31 => ?_)
              · have h := br2 h c31
                exact hJ_139 i16 o27 ls H locs h (lv_sub hl [2, 3, 4, 5, 6, 7, 0, 8] rfl) hP hD hS
              · have h := br1 h c31
                refine lv_aload_n hx hb dX3_read_94 rfl (lv_at hl 2 rfl) ?_
                refine lv_aload hx hb dX3_read_95 (lv_at hl 6 rfl) ?_
                refine va_get (D := D) (ci := 0) (v := .ref (a 8 1)) (C := RX0) (T := TX0) (N := 3) hx hb hts hi0 hown hK.1 hP 50 rfl rfl 2 (by decide) (hts (.fieldLink RX3 215 "LastPenny$Sheet" "cells" "[I") (by decide +kernel)) (fun _ h9 => h9) rfl dX3_read_97 ?_
                refine lv_iload hx hb dX3_read_100 (lv_at hl 1 rfl) ?_
                obtain ⟨hi_32, h⟩ := h
                refine va_iald hx hb hK.1 hP 51 0 rfl rfl hi_32 dX3_read_102 ?_
                refine lv_aload hx hb dX3_read_103 (lv_at hl 6 rfl) ?_
                refine va_get (D := D) (ci := 0) (v := .ref (a 8 1)) (C := RX0) (T := TX0) (N := 3) hx hb hts hi0 hown hK.1 hP 50 rfl rfl 2 (by decide) (hts (.fieldLink RX3 215 "LastPenny$Sheet" "cells" "[I") (by decide +kernel)) (fun _ h9 => h9) rfl dX3_read_105 ?_
                refine lv_iload hx hb dX3_read_108 (lv_at hl 1 rfl) ?_
                refine lv_iconst (v := 1) hx hb dX3_read_110 (by decide) ?_
                refine lv_iadd hx hb dX3_read_111 ?_
                obtain ⟨hi_33, h⟩ := h
                refine va_iald hx hb hK.1 hP 51 0 rfl rfl hi_33 dX3_read_112 ?_
                refine q_cVi (As := [.int (o27 8 1 x23.toNatClampNeg), .int (o27 8 1 (x23 + 1).toNatClampNeg)]) (rest := []) ⟨hx, hb, hml, hown, hts⟩ hK (c_X3_takeMeans l D kc a (o27 8 1 x23.toNatClampNeg) (o27 8 1 (x23 + 1).toNatClampNeg) o27 H.size _ h) (cwV 2 hts gX3_read_X3_takeMeans rfl rfl rfl (by decide +kernel) ⟨Nat.le_of_ble_eq_true rfl, Nat.le_of_ble_eq_true rfl⟩) (cut_same (fun u : S3 => cLP kc a u) o27) hP hD hS hA 3 0 rfl rfl rfl hl.1 rfl (Nat.le_of_ble_eq_true rfl) dX3_read_113 ⟨Nat.zero_le _, Nat.zero_le _⟩ (fun r35 u36 H locs h hP hD hS => ?_)
                obtain ⟨o34, rfl⟩ : ∃ z, z = u36 := ⟨_, rfl⟩
                have hP : va_P D vwCl (cLP kc a o34) H := hP
                have hD : va_D A (cLP kc a o34) := hD
                refine lv_if_ne (tgt := 136) hx hb dX3_read_116 (by decide) (fun c37 => ?_) (fun c37 => ?_)
                · have h := br2 h c37
                  obtain ⟨x38, ex38⟩ : ∃ z : Int32, z = i16 + 1 := ⟨_, rfl⟩
                  have h := nm_out h x38 ex38
                  refine lv_iinc (v := x38) (lv' := [(6, .int x38), (7, .int r25), (9, .int x23), (0, .ref (a 0 0)), (2, .int p2), (3, .int p3), (4, .int p4), (5, .ref (a 8 0)), (8, .int i18)]) hx hb dX3_read_136 hl (k := 7) rfl (by rw [ex38]; rfl) (by decide) rfl (fun ls hl => ?_)
                  exact hJ_139 x38 o34 ls H locs h (lv_sub hl [3, 4, 5, 6, 7, 0, 1, 8] rfl) hP hD hS
                · have h := br1 h c37
                  refine lv_aload_n hx hb dX3_read_119 rfl (lv_at hl 2 rfl) ?_
                  refine va_get (D := D) (ci := 3) (v := .ref (a 1 0)) (C := RX3) (T := TX3) (N := 10) hx hb hts hi3 hown hK.1 hP 0 rfl rfl 1 (by decide) (hts (.fieldLink RX3 19 "LastPenny" "now" "LLastPenny$World;") (by decide +kernel)) (fun _ h9 => h9) rfl dX3_read_120 ?_
                  refine lv_aload_n hx hb dX3_read_123 rfl (lv_at hl 2 rfl) ?_
                  refine va_get (D := D) (ci := 3) (v := .ref (a 3 0)) (C := RX3) (T := TX3) (N := 10) hx hb hts hi3 hown hK.1 hP 0 rfl rfl 3 (by decide) (hts (.fieldLink RX3 26 "LastPenny" "aside" "LLastPenny$World;") (by decide +kernel)) (fun _ h9 => h9) rfl dX3_read_124 ?_
                  refine q_cVv (As := [.ref (a 3 0)]) (rest := []) ⟨hx, hb, hml, hown, hts⟩ hK (c_X2_become l D kc (a 1) (a 3) (o34 1) (o34 3) H.size _ h) (cwV 1 hts gX3_read_X2_become rfl rfl rfl (by decide +kernel) ⟨Nat.le_of_ble_eq_true rfl, Nat.le_of_ble_eq_true rfl⟩) (cut_LP_1_3 D kc a o34) hP hD hS hA 2 0 rfl rfl rfl hl.1 rfl (Nat.le_of_ble_eq_true rfl) dX3_read_127 ⟨Nat.zero_le _, Nat.zero_le _⟩ (fun u41 H locs h hP hD hS => ?_)
                  obtain ⟨w39, v40⟩ := u41
                  obtain ⟨o42, eo42⟩ : ∃ z, z = (va_up (va_up o34 1 w39) 3 v40) := ⟨_, rfl⟩
                  have h := nm_out h o42 eo42
                  have hP : va_P D vwCl (cLP kc a o42) H := q_to hP (by subst eo42; rfl)
                  have hD : va_D A (cLP kc a o42) := q_toD hD (by subst eo42; rfl)
                  refine lv_bipush (v := -20) hx hb dX3_read_130 (by decide) ?_
                  refine lv_iload hx hb dX3_read_132 (lv_at hl 8 rfl) ?_
                  refine lv_isub hx hb dX3_read_134 ?_
                  exact hret ((-20) - i18) o42 H locs ls _ h hP hD hS dX3_read_135
        · subst ej15
          simp only [gi_7_2] at h
          refine W.eq (g2 := F0 m 48 ls [.ref (a 9 0)]) rfl ?_
          refine lv_astore (lv' := [(5, .ref (a 9 0)), (0, .ref (a 0 0)), (1, .int (nI 2)), (2, .int p2), (3, .int p3), (4, .int p4)]) hx hb dX3_read_48 hl (by decide) rfl (fun ls hl => ?_)
          refine lv_iconst (v := 0) hx hb dX3_read_50 (by decide) ?_
          refine lv_istore (lv' := [(6, .int 0), (5, .ref (a 9 0)), (0, .ref (a 0 0)), (1, .int (nI 2)), (2, .int p2), (3, .int p3), (4, .int p4)]) hx hb dX3_read_51 hl (by decide) rfl (fun ls hl => ?_)
          refine lv_iconst (v := 0) hx hb dX3_read_53 (by decide) ?_
          refine lv_istore (lv' := [(7, .int 0), (6, .int 0), (5, .ref (a 9 0)), (0, .ref (a 0 0)), (1, .int (nI 2)), (2, .int p2), (3, .int p3), (4, .int p4)]) hx hb dX3_read_54 hl (by decide) rfl (fun ls hl => ?_)
          refine lv_iconst (v := 0) hx hb dX3_read_56 (by decide) ?_
          refine lv_istore (lv' := [(8, .int 0), (7, .int 0), (6, .int 0), (5, .ref (a 9 0)), (0, .ref (a 0 0)), (1, .int (nI 2)), (2, .int p2), (3, .int p3), (4, .int p4)]) hx hb dX3_read_57 hl (by decide) rfl (fun ls hl => ?_)
          refine h (fun (i16 : Int32) (i17 : Int32) (i18 : Int32) (o19 : S3) => ∀ (ls : Array Slot) (H : Heap) (locs : List Loc), lv_has ls 10 [(0, .ref (a 0 0)), (2, .int p2), (3, .int p3), (4, .int p4), (5, .ref (a 9 0)), (6, .int i16), (7, .int i17), (8, .int i18)] → va_P D vwCl (cLP kc a o19) H → va_D A (cLP kc a o19) → va_S A s.heap H locs → W p l e rm_X3_read s m args below meth c H locs 0 0 Q (F0 m 59 ls [])) ?_ ls H locs (lv_sub hl [4, 6, 7, 8, 3, 2, 1, 0] rfl) hP hD hS
          intro i16 i17 i18 o19 h ls H locs hl hP hD hS
          refine lv_iload hx hb dX3_read_59 (lv_at hl 7 rfl) ?_
          refine lv_iload hx hb dX3_read_61 (lv_at hl 3 rfl) ?_
          refine jn_elim h (fun J145 eJ145 h => ?_)
          have hJ_145 : ∀  (ls : Array Slot), J145 () → lv_has ls 10 [(0, .ref (a 0 0)), (6, .int i16), (7, .int i17)] → W p l e rm_X3_read s m args below meth c H locs 0 0 Q (F0 m 145 ls []) := by
            intro  ls h hl
            subst eJ145
            refine lv_aload_n hx hb dX3_read_145 rfl (lv_at hl 0 rfl) ?_
            refine lv_iload hx hb dX3_read_146 (lv_at hl 2 rfl) ?_
            refine va_put (D := D) (ci := 3) (v := .int i17) (ty := .int) (C := RX3) (T := TX3) (N := 10) hx hb hts hi3 tyX3 tyX3_ok nmX3 hown hK.1 hP hD hS 0 rfl rfl 7 (by decide) (hts (.fieldLink RX3 221 "LastPenny" "tornFault" "I") (by decide +kernel)) (fun _ h9 => h9) rfl (by decide +kernel) rfl rfl (Nat.le_of_ble_eq_true rfl) dX3_read_148 (fun H locs hP hD hS => ?_)
            obtain ⟨o20, eo20⟩ : ∃ z, z = (va_up o19 0 (va_up (o19 0) 0 (upd ((o19 0) 0) 7 i17))) := ⟨_, rfl⟩
            have h := nm_out h o20 eo20
            have hP : va_P D vwCl (cLP kc a o20) H := q_to hP (by subst eo20; rfl)
            have hD : va_D A (cLP kc a o20) := q_toD hD (by subst eo20; rfl)
            refine lv_iload hx hb dX3_read_151 (lv_at hl 1 rfl) ?_
            exact hret i16 o20 H locs ls _ h hP hD hS dX3_read_153
          refine lv_icmp_ge (tgt := 145) hx hb dX3_read_63 (by decide) (fun c21 => ?_) (fun c21 => ?_)
          · have h := br1 h c21
            exact hJ_145 ls h (lv_sub hl [0, 5, 6] rfl)
          · have h := br2 h c21
            refine lv_iload hx hb dX3_read_66 (lv_at hl 6 rfl) ?_
            refine lv_if_ne (tgt := 145) hx hb dX3_read_68 (by decide) (fun c22 => ?_) (fun c22 => ?_)
            · have h := br2 h c22
              exact hJ_145 ls h (lv_sub hl [0, 5, 6] rfl)
            · have h := br1 h c22
              refine lv_iload_n hx hb dX3_read_71 rfl (lv_at hl 2 rfl) ?_
              refine lv_iconst (v := 2) hx hb dX3_read_72 (by decide) ?_
              refine lv_iload hx hb dX3_read_73 (lv_at hl 7 rfl) ?_
              refine lv_imul hx hb dX3_read_75 ?_
              refine lv_iadd hx hb dX3_read_76 ?_
              refine lv_topi (fun x23 ex23 => ?_)
              have h := nm_out h x23 ex23
              refine lv_istore (lv' := [(9, .int x23), (0, .ref (a 0 0)), (2, .int p2), (3, .int p3), (4, .int p4), (5, .ref (a 9 0)), (6, .int i16), (7, .int i17), (8, .int i18)]) hx hb dX3_read_77 hl (by decide) rfl (fun ls hl => ?_)
              refine lv_aload hx hb dX3_read_79 (lv_at hl 5 rfl) ?_
              refine lv_iload_n hx hb dX3_read_81 rfl (lv_at hl 2 rfl) ?_
              refine lv_iload hx hb dX3_read_82 (lv_at hl 0 rfl) ?_
              refine q_cVi (As := [.int p2, .int x23]) (rest := []) ⟨hx, hb, hml, hown, hts⟩ hK (c_X0_faultOfPair l D kc (a 9) p2 x23 (o19 9) H.size _ h) (cwV 2 hts gX3_read_X0_faultOfPair rfl rfl rfl (by decide +kernel) ⟨Nat.le_of_ble_eq_true rfl, Nat.le_of_ble_eq_true rfl⟩) (cut_LP_9 D kc a o19) hP hD hS hA 0 0 rfl rfl rfl hl.1 rfl (Nat.le_of_ble_eq_true rfl) dX3_read_84 ⟨Nat.zero_le _, Nat.zero_le _⟩ (fun r25 u26 H locs h hP hD hS => ?_)
              obtain ⟨w24, rfl⟩ : ∃ z, z = u26 := ⟨_, rfl⟩
              obtain ⟨o27, eo27⟩ : ∃ z, z = (va_up o19 9 w24) := ⟨_, rfl⟩
              have h := nm_out h o27 eo27
              have hP : va_P D vwCl (cLP kc a o27) H := q_to hP (by subst eo27; rfl)
              have hD : va_D A (cLP kc a o27) := q_toD hD (by subst eo27; rfl)
              refine lv_istore (lv' := [(7, .int r25), (9, .int x23), (0, .ref (a 0 0)), (2, .int p2), (3, .int p3), (4, .int p4), (5, .ref (a 9 0)), (6, .int i16), (8, .int i18)]) hx hb dX3_read_87 hl (by decide) rfl (fun ls hl => ?_)
              refine lv_iload hx hb dX3_read_89 (lv_at hl 0 rfl) ?_
              refine jn_elim h (fun J139 eJ139 h => ?_)
              have hJ_139 : ∀ (i28 : Int32) (o29 : S3) (ls : Array Slot) (H : Heap) (locs : List Loc), J139 i28 o29 → lv_has ls 10 [(0, .ref (a 0 0)), (2, .int p2), (3, .int p3), (4, .int p4), (5, .ref (a 9 0)), (6, .int i28), (7, .int r25), (8, .int i18)] → va_P D vwCl (cLP kc a o29) H → va_D A (cLP kc a o29) → va_S A s.heap H locs → W p l e rm_X3_read s m args below meth c H locs 0 0 Q (F0 m 139 ls []) := by
                intro i28 o29 ls H locs h hl hP hD hS
                subst eJ139
                obtain ⟨x30, ex30⟩ : ∃ z : Int32, z = i18 + 1 := ⟨_, rfl⟩
                have h := nm_out h x30 ex30
                refine lv_iinc (v := x30) (lv' := [(8, .int x30), (0, .ref (a 0 0)), (2, .int p2), (3, .int p3), (4, .int p4), (5, .ref (a 9 0)), (6, .int i28), (7, .int r25)]) hx hb dX3_read_139 hl (k := 7) rfl (by rw [ex30]; rfl) (by decide) rfl (fun ls hl => ?_)
                refine lv_goto (tgt := 59) hx hb dX3_read_142 (by decide) ?_
                exact h ls H locs (lv_sub hl [1, 2, 3, 4, 5, 6, 7, 0] rfl) hP hD hS
              refine lv_if_ne (tgt := 139) hx hb dX3_read_91 (by decide) (fun c31 => ?_) (fun c31 => ?_)
              · have h := br2 h c31
                exact hJ_139 i16 o27 ls H locs h (lv_sub hl [2, 3, 4, 5, 6, 7, 0, 8] rfl) hP hD hS
              · have h := br1 h c31
                refine lv_aload_n hx hb dX3_read_94 rfl (lv_at hl 2 rfl) ?_
                refine lv_aload hx hb dX3_read_95 (lv_at hl 6 rfl) ?_
                refine va_get (D := D) (ci := 0) (v := .ref (a 9 1)) (C := RX0) (T := TX0) (N := 3) hx hb hts hi0 hown hK.1 hP 52 rfl rfl 2 (by decide) (hts (.fieldLink RX3 215 "LastPenny$Sheet" "cells" "[I") (by decide +kernel)) (fun _ h9 => h9) rfl dX3_read_97 ?_
                refine lv_iload hx hb dX3_read_100 (lv_at hl 1 rfl) ?_
                obtain ⟨hi_32, h⟩ := h
                refine va_iald hx hb hK.1 hP 53 0 rfl rfl hi_32 dX3_read_102 ?_
                refine lv_aload hx hb dX3_read_103 (lv_at hl 6 rfl) ?_
                refine va_get (D := D) (ci := 0) (v := .ref (a 9 1)) (C := RX0) (T := TX0) (N := 3) hx hb hts hi0 hown hK.1 hP 52 rfl rfl 2 (by decide) (hts (.fieldLink RX3 215 "LastPenny$Sheet" "cells" "[I") (by decide +kernel)) (fun _ h9 => h9) rfl dX3_read_105 ?_
                refine lv_iload hx hb dX3_read_108 (lv_at hl 1 rfl) ?_
                refine lv_iconst (v := 1) hx hb dX3_read_110 (by decide) ?_
                refine lv_iadd hx hb dX3_read_111 ?_
                obtain ⟨hi_33, h⟩ := h
                refine va_iald hx hb hK.1 hP 53 0 rfl rfl hi_33 dX3_read_112 ?_
                refine q_cVi (As := [.int (o27 9 1 x23.toNatClampNeg), .int (o27 9 1 (x23 + 1).toNatClampNeg)]) (rest := []) ⟨hx, hb, hml, hown, hts⟩ hK (c_X3_takeMeans l D kc a (o27 9 1 x23.toNatClampNeg) (o27 9 1 (x23 + 1).toNatClampNeg) o27 H.size _ h) (cwV 2 hts gX3_read_X3_takeMeans rfl rfl rfl (by decide +kernel) ⟨Nat.le_of_ble_eq_true rfl, Nat.le_of_ble_eq_true rfl⟩) (cut_same (fun u : S3 => cLP kc a u) o27) hP hD hS hA 3 0 rfl rfl rfl hl.1 rfl (Nat.le_of_ble_eq_true rfl) dX3_read_113 ⟨Nat.zero_le _, Nat.zero_le _⟩ (fun r35 u36 H locs h hP hD hS => ?_)
                obtain ⟨o34, rfl⟩ : ∃ z, z = u36 := ⟨_, rfl⟩
                have hP : va_P D vwCl (cLP kc a o34) H := hP
                have hD : va_D A (cLP kc a o34) := hD
                refine lv_if_ne (tgt := 136) hx hb dX3_read_116 (by decide) (fun c37 => ?_) (fun c37 => ?_)
                · have h := br2 h c37
                  obtain ⟨x38, ex38⟩ : ∃ z : Int32, z = i16 + 1 := ⟨_, rfl⟩
                  have h := nm_out h x38 ex38
                  refine lv_iinc (v := x38) (lv' := [(6, .int x38), (7, .int r25), (9, .int x23), (0, .ref (a 0 0)), (2, .int p2), (3, .int p3), (4, .int p4), (5, .ref (a 9 0)), (8, .int i18)]) hx hb dX3_read_136 hl (k := 7) rfl (by rw [ex38]; rfl) (by decide) rfl (fun ls hl => ?_)
                  exact hJ_139 x38 o34 ls H locs h (lv_sub hl [3, 4, 5, 6, 7, 0, 1, 8] rfl) hP hD hS
                · have h := br1 h c37
                  refine lv_aload_n hx hb dX3_read_119 rfl (lv_at hl 2 rfl) ?_
                  refine va_get (D := D) (ci := 3) (v := .ref (a 1 0)) (C := RX3) (T := TX3) (N := 10) hx hb hts hi3 hown hK.1 hP 0 rfl rfl 1 (by decide) (hts (.fieldLink RX3 19 "LastPenny" "now" "LLastPenny$World;") (by decide +kernel)) (fun _ h9 => h9) rfl dX3_read_120 ?_
                  refine lv_aload_n hx hb dX3_read_123 rfl (lv_at hl 2 rfl) ?_
                  refine va_get (D := D) (ci := 3) (v := .ref (a 3 0)) (C := RX3) (T := TX3) (N := 10) hx hb hts hi3 hown hK.1 hP 0 rfl rfl 3 (by decide) (hts (.fieldLink RX3 26 "LastPenny" "aside" "LLastPenny$World;") (by decide +kernel)) (fun _ h9 => h9) rfl dX3_read_124 ?_
                  refine q_cVv (As := [.ref (a 3 0)]) (rest := []) ⟨hx, hb, hml, hown, hts⟩ hK (c_X2_become l D kc (a 1) (a 3) (o34 1) (o34 3) H.size _ h) (cwV 1 hts gX3_read_X2_become rfl rfl rfl (by decide +kernel) ⟨Nat.le_of_ble_eq_true rfl, Nat.le_of_ble_eq_true rfl⟩) (cut_LP_1_3 D kc a o34) hP hD hS hA 2 0 rfl rfl rfl hl.1 rfl (Nat.le_of_ble_eq_true rfl) dX3_read_127 ⟨Nat.zero_le _, Nat.zero_le _⟩ (fun u41 H locs h hP hD hS => ?_)
                  obtain ⟨w39, v40⟩ := u41
                  obtain ⟨o42, eo42⟩ : ∃ z, z = (va_up (va_up o34 1 w39) 3 v40) := ⟨_, rfl⟩
                  have h := nm_out h o42 eo42
                  have hP : va_P D vwCl (cLP kc a o42) H := q_to hP (by subst eo42; rfl)
                  have hD : va_D A (cLP kc a o42) := q_toD hD (by subst eo42; rfl)
                  refine lv_bipush (v := -20) hx hb dX3_read_130 (by decide) ?_
                  refine lv_iload hx hb dX3_read_132 (lv_at hl 8 rfl) ?_
                  refine lv_isub hx hb dX3_read_134 ?_
                  exact hret ((-20) - i18) o42 H locs ls _ h hP hD hS dX3_read_135
        · subst ej15
          simp only [gi_7_3] at h
          refine W.eq (g2 := F0 m 48 ls [.ref (a 10 0)]) rfl ?_
          refine lv_astore (lv' := [(5, .ref (a 10 0)), (0, .ref (a 0 0)), (1, .int (nI 3)), (2, .int p2), (3, .int p3), (4, .int p4)]) hx hb dX3_read_48 hl (by decide) rfl (fun ls hl => ?_)
          refine lv_iconst (v := 0) hx hb dX3_read_50 (by decide) ?_
          refine lv_istore (lv' := [(6, .int 0), (5, .ref (a 10 0)), (0, .ref (a 0 0)), (1, .int (nI 3)), (2, .int p2), (3, .int p3), (4, .int p4)]) hx hb dX3_read_51 hl (by decide) rfl (fun ls hl => ?_)
          refine lv_iconst (v := 0) hx hb dX3_read_53 (by decide) ?_
          refine lv_istore (lv' := [(7, .int 0), (6, .int 0), (5, .ref (a 10 0)), (0, .ref (a 0 0)), (1, .int (nI 3)), (2, .int p2), (3, .int p3), (4, .int p4)]) hx hb dX3_read_54 hl (by decide) rfl (fun ls hl => ?_)
          refine lv_iconst (v := 0) hx hb dX3_read_56 (by decide) ?_
          refine lv_istore (lv' := [(8, .int 0), (7, .int 0), (6, .int 0), (5, .ref (a 10 0)), (0, .ref (a 0 0)), (1, .int (nI 3)), (2, .int p2), (3, .int p3), (4, .int p4)]) hx hb dX3_read_57 hl (by decide) rfl (fun ls hl => ?_)
          refine h (fun (i16 : Int32) (i17 : Int32) (i18 : Int32) (o19 : S3) => ∀ (ls : Array Slot) (H : Heap) (locs : List Loc), lv_has ls 10 [(0, .ref (a 0 0)), (2, .int p2), (3, .int p3), (4, .int p4), (5, .ref (a 10 0)), (6, .int i16), (7, .int i17), (8, .int i18)] → va_P D vwCl (cLP kc a o19) H → va_D A (cLP kc a o19) → va_S A s.heap H locs → W p l e rm_X3_read s m args below meth c H locs 0 0 Q (F0 m 59 ls [])) ?_ ls H locs (lv_sub hl [4, 6, 7, 8, 3, 2, 1, 0] rfl) hP hD hS
          intro i16 i17 i18 o19 h ls H locs hl hP hD hS
          refine lv_iload hx hb dX3_read_59 (lv_at hl 7 rfl) ?_
          refine lv_iload hx hb dX3_read_61 (lv_at hl 3 rfl) ?_
          refine jn_elim h (fun J145 eJ145 h => ?_)
          have hJ_145 : ∀  (ls : Array Slot), J145 () → lv_has ls 10 [(0, .ref (a 0 0)), (6, .int i16), (7, .int i17)] → W p l e rm_X3_read s m args below meth c H locs 0 0 Q (F0 m 145 ls []) := by
            intro  ls h hl
            subst eJ145
            refine lv_aload_n hx hb dX3_read_145 rfl (lv_at hl 0 rfl) ?_
            refine lv_iload hx hb dX3_read_146 (lv_at hl 2 rfl) ?_
            refine va_put (D := D) (ci := 3) (v := .int i17) (ty := .int) (C := RX3) (T := TX3) (N := 10) hx hb hts hi3 tyX3 tyX3_ok nmX3 hown hK.1 hP hD hS 0 rfl rfl 7 (by decide) (hts (.fieldLink RX3 221 "LastPenny" "tornFault" "I") (by decide +kernel)) (fun _ h9 => h9) rfl (by decide +kernel) rfl rfl (Nat.le_of_ble_eq_true rfl) dX3_read_148 (fun H locs hP hD hS => ?_)
            obtain ⟨o20, eo20⟩ : ∃ z, z = (va_up o19 0 (va_up (o19 0) 0 (upd ((o19 0) 0) 7 i17))) := ⟨_, rfl⟩
            have h := nm_out h o20 eo20
            have hP : va_P D vwCl (cLP kc a o20) H := q_to hP (by subst eo20; rfl)
            have hD : va_D A (cLP kc a o20) := q_toD hD (by subst eo20; rfl)
            refine lv_iload hx hb dX3_read_151 (lv_at hl 1 rfl) ?_
            exact hret i16 o20 H locs ls _ h hP hD hS dX3_read_153
          refine lv_icmp_ge (tgt := 145) hx hb dX3_read_63 (by decide) (fun c21 => ?_) (fun c21 => ?_)
          · have h := br1 h c21
            exact hJ_145 ls h (lv_sub hl [0, 5, 6] rfl)
          · have h := br2 h c21
            refine lv_iload hx hb dX3_read_66 (lv_at hl 6 rfl) ?_
            refine lv_if_ne (tgt := 145) hx hb dX3_read_68 (by decide) (fun c22 => ?_) (fun c22 => ?_)
            · have h := br2 h c22
              exact hJ_145 ls h (lv_sub hl [0, 5, 6] rfl)
            · have h := br1 h c22
              refine lv_iload_n hx hb dX3_read_71 rfl (lv_at hl 2 rfl) ?_
              refine lv_iconst (v := 2) hx hb dX3_read_72 (by decide) ?_
              refine lv_iload hx hb dX3_read_73 (lv_at hl 7 rfl) ?_
              refine lv_imul hx hb dX3_read_75 ?_
              refine lv_iadd hx hb dX3_read_76 ?_
              refine lv_topi (fun x23 ex23 => ?_)
              have h := nm_out h x23 ex23
              refine lv_istore (lv' := [(9, .int x23), (0, .ref (a 0 0)), (2, .int p2), (3, .int p3), (4, .int p4), (5, .ref (a 10 0)), (6, .int i16), (7, .int i17), (8, .int i18)]) hx hb dX3_read_77 hl (by decide) rfl (fun ls hl => ?_)
              refine lv_aload hx hb dX3_read_79 (lv_at hl 5 rfl) ?_
              refine lv_iload_n hx hb dX3_read_81 rfl (lv_at hl 2 rfl) ?_
              refine lv_iload hx hb dX3_read_82 (lv_at hl 0 rfl) ?_
              refine q_cVi (As := [.int p2, .int x23]) (rest := []) ⟨hx, hb, hml, hown, hts⟩ hK (c_X0_faultOfPair l D kc (a 10) p2 x23 (o19 10) H.size _ h) (cwV 2 hts gX3_read_X0_faultOfPair rfl rfl rfl (by decide +kernel) ⟨Nat.le_of_ble_eq_true rfl, Nat.le_of_ble_eq_true rfl⟩) (cut_LP_10 D kc a o19) hP hD hS hA 0 0 rfl rfl rfl hl.1 rfl (Nat.le_of_ble_eq_true rfl) dX3_read_84 ⟨Nat.zero_le _, Nat.zero_le _⟩ (fun r25 u26 H locs h hP hD hS => ?_)
              obtain ⟨w24, rfl⟩ : ∃ z, z = u26 := ⟨_, rfl⟩
              obtain ⟨o27, eo27⟩ : ∃ z, z = (va_up o19 10 w24) := ⟨_, rfl⟩
              have h := nm_out h o27 eo27
              have hP : va_P D vwCl (cLP kc a o27) H := q_to hP (by subst eo27; rfl)
              have hD : va_D A (cLP kc a o27) := q_toD hD (by subst eo27; rfl)
              refine lv_istore (lv' := [(7, .int r25), (9, .int x23), (0, .ref (a 0 0)), (2, .int p2), (3, .int p3), (4, .int p4), (5, .ref (a 10 0)), (6, .int i16), (8, .int i18)]) hx hb dX3_read_87 hl (by decide) rfl (fun ls hl => ?_)
              refine lv_iload hx hb dX3_read_89 (lv_at hl 0 rfl) ?_
              refine jn_elim h (fun J139 eJ139 h => ?_)
              have hJ_139 : ∀ (i28 : Int32) (o29 : S3) (ls : Array Slot) (H : Heap) (locs : List Loc), J139 i28 o29 → lv_has ls 10 [(0, .ref (a 0 0)), (2, .int p2), (3, .int p3), (4, .int p4), (5, .ref (a 10 0)), (6, .int i28), (7, .int r25), (8, .int i18)] → va_P D vwCl (cLP kc a o29) H → va_D A (cLP kc a o29) → va_S A s.heap H locs → W p l e rm_X3_read s m args below meth c H locs 0 0 Q (F0 m 139 ls []) := by
                intro i28 o29 ls H locs h hl hP hD hS
                subst eJ139
                obtain ⟨x30, ex30⟩ : ∃ z : Int32, z = i18 + 1 := ⟨_, rfl⟩
                have h := nm_out h x30 ex30
                refine lv_iinc (v := x30) (lv' := [(8, .int x30), (0, .ref (a 0 0)), (2, .int p2), (3, .int p3), (4, .int p4), (5, .ref (a 10 0)), (6, .int i28), (7, .int r25)]) hx hb dX3_read_139 hl (k := 7) rfl (by rw [ex30]; rfl) (by decide) rfl (fun ls hl => ?_)
                refine lv_goto (tgt := 59) hx hb dX3_read_142 (by decide) ?_
                exact h ls H locs (lv_sub hl [1, 2, 3, 4, 5, 6, 7, 0] rfl) hP hD hS
              refine lv_if_ne (tgt := 139) hx hb dX3_read_91 (by decide) (fun c31 => ?_) (fun c31 => ?_)
              · have h := br2 h c31
                exact hJ_139 i16 o27 ls H locs h (lv_sub hl [2, 3, 4, 5, 6, 7, 0, 8] rfl) hP hD hS
              · have h := br1 h c31
                refine lv_aload_n hx hb dX3_read_94 rfl (lv_at hl 2 rfl) ?_
                refine lv_aload hx hb dX3_read_95 (lv_at hl 6 rfl) ?_
                refine va_get (D := D) (ci := 0) (v := .ref (a 10 1)) (C := RX0) (T := TX0) (N := 3) hx hb hts hi0 hown hK.1 hP 54 rfl rfl 2 (by decide) (hts (.fieldLink RX3 215 "LastPenny$Sheet" "cells" "[I") (by decide +kernel)) (fun _ h9 => h9) rfl dX3_read_97 ?_
                refine lv_iload hx hb dX3_read_100 (lv_at hl 1 rfl) ?_
                obtain ⟨hi_32, h⟩ := h
                refine va_iald hx hb hK.1 hP 55 0 rfl rfl hi_32 dX3_read_102 ?_
                refine lv_aload hx hb dX3_read_103 (lv_at hl 6 rfl) ?_
                refine va_get (D := D) (ci := 0) (v := .ref (a 10 1)) (C := RX0) (T := TX0) (N := 3) hx hb hts hi0 hown hK.1 hP 54 rfl rfl 2 (by decide) (hts (.fieldLink RX3 215 "LastPenny$Sheet" "cells" "[I") (by decide +kernel)) (fun _ h9 => h9) rfl dX3_read_105 ?_
                refine lv_iload hx hb dX3_read_108 (lv_at hl 1 rfl) ?_
                refine lv_iconst (v := 1) hx hb dX3_read_110 (by decide) ?_
                refine lv_iadd hx hb dX3_read_111 ?_
                obtain ⟨hi_33, h⟩ := h
                refine va_iald hx hb hK.1 hP 55 0 rfl rfl hi_33 dX3_read_112 ?_
                refine q_cVi (As := [.int (o27 10 1 x23.toNatClampNeg), .int (o27 10 1 (x23 + 1).toNatClampNeg)]) (rest := []) ⟨hx, hb, hml, hown, hts⟩ hK (c_X3_takeMeans l D kc a (o27 10 1 x23.toNatClampNeg) (o27 10 1 (x23 + 1).toNatClampNeg) o27 H.size _ h) (cwV 2 hts gX3_read_X3_takeMeans rfl rfl rfl (by decide +kernel) ⟨Nat.le_of_ble_eq_true rfl, Nat.le_of_ble_eq_true rfl⟩) (cut_same (fun u : S3 => cLP kc a u) o27) hP hD hS hA 3 0 rfl rfl rfl hl.1 rfl (Nat.le_of_ble_eq_true rfl) dX3_read_113 ⟨Nat.zero_le _, Nat.zero_le _⟩ (fun r35 u36 H locs h hP hD hS => ?_)
                obtain ⟨o34, rfl⟩ : ∃ z, z = u36 := ⟨_, rfl⟩
                have hP : va_P D vwCl (cLP kc a o34) H := hP
                have hD : va_D A (cLP kc a o34) := hD
                refine lv_if_ne (tgt := 136) hx hb dX3_read_116 (by decide) (fun c37 => ?_) (fun c37 => ?_)
                · have h := br2 h c37
                  obtain ⟨x38, ex38⟩ : ∃ z : Int32, z = i16 + 1 := ⟨_, rfl⟩
                  have h := nm_out h x38 ex38
                  refine lv_iinc (v := x38) (lv' := [(6, .int x38), (7, .int r25), (9, .int x23), (0, .ref (a 0 0)), (2, .int p2), (3, .int p3), (4, .int p4), (5, .ref (a 10 0)), (8, .int i18)]) hx hb dX3_read_136 hl (k := 7) rfl (by rw [ex38]; rfl) (by decide) rfl (fun ls hl => ?_)
                  exact hJ_139 x38 o34 ls H locs h (lv_sub hl [3, 4, 5, 6, 7, 0, 1, 8] rfl) hP hD hS
                · have h := br1 h c37
                  refine lv_aload_n hx hb dX3_read_119 rfl (lv_at hl 2 rfl) ?_
                  refine va_get (D := D) (ci := 3) (v := .ref (a 1 0)) (C := RX3) (T := TX3) (N := 10) hx hb hts hi3 hown hK.1 hP 0 rfl rfl 1 (by decide) (hts (.fieldLink RX3 19 "LastPenny" "now" "LLastPenny$World;") (by decide +kernel)) (fun _ h9 => h9) rfl dX3_read_120 ?_
                  refine lv_aload_n hx hb dX3_read_123 rfl (lv_at hl 2 rfl) ?_
                  refine va_get (D := D) (ci := 3) (v := .ref (a 3 0)) (C := RX3) (T := TX3) (N := 10) hx hb hts hi3 hown hK.1 hP 0 rfl rfl 3 (by decide) (hts (.fieldLink RX3 26 "LastPenny" "aside" "LLastPenny$World;") (by decide +kernel)) (fun _ h9 => h9) rfl dX3_read_124 ?_
                  refine q_cVv (As := [.ref (a 3 0)]) (rest := []) ⟨hx, hb, hml, hown, hts⟩ hK (c_X2_become l D kc (a 1) (a 3) (o34 1) (o34 3) H.size _ h) (cwV 1 hts gX3_read_X2_become rfl rfl rfl (by decide +kernel) ⟨Nat.le_of_ble_eq_true rfl, Nat.le_of_ble_eq_true rfl⟩) (cut_LP_1_3 D kc a o34) hP hD hS hA 2 0 rfl rfl rfl hl.1 rfl (Nat.le_of_ble_eq_true rfl) dX3_read_127 ⟨Nat.zero_le _, Nat.zero_le _⟩ (fun u41 H locs h hP hD hS => ?_)
                  obtain ⟨w39, v40⟩ := u41
                  obtain ⟨o42, eo42⟩ : ∃ z, z = (va_up (va_up o34 1 w39) 3 v40) := ⟨_, rfl⟩
                  have h := nm_out h o42 eo42
                  have hP : va_P D vwCl (cLP kc a o42) H := q_to hP (by subst eo42; rfl)
                  have hD : va_D A (cLP kc a o42) := q_toD hD (by subst eo42; rfl)
                  refine lv_bipush (v := -20) hx hb dX3_read_130 (by decide) ?_
                  refine lv_iload hx hb dX3_read_132 (lv_at hl 8 rfl) ?_
                  refine lv_isub hx hb dX3_read_134 ?_
                  exact hret ((-20) - i18) o42 H locs ls _ h hP hD hS dX3_read_135
      · have h := br1 h c9
        refine lv_iconst (v := -1) hx hb dX3_read_29 (by decide) ?_
        exact hret (-1) o H locs ls _ h hP hD hS dX3_read_30

def w_X3_torn (o : S3) (K : Int32 → S3 → Prop) : Prop := K (o 0 0 7) o
abbrev rm_X3_torn : Room := { frames := 0, cells := 0, slots := 0, locals := 0 }
set_option maxHeartbeats 4000000 in
set_option maxRecDepth 100000 in
theorem c_X3_torn (l : Launch) (D : va_G) (kc : Nat → ClassId) (a : Nat → Nat → Nat) (o : S3) (sz : Nat) (K : Int32 → S3 → Prop) (h : w_X3_torn o K) : MetI l yX3_torn wsX3_torn rm_X3_torn D kc (fun u : S3 => cLP kc a u) o [.ref (a 0 0)] sz (fun r u => K r u) := by
  refine q_ei (code := cX3_torn) (maxL := 1) (by decide) rfl (Nat.le_of_ble_eq_true rfl) ?_
  intro p e s m args below meth c Q A hx hb hml hts hown hK hA hret ls hl hP hD hS
  have hown : s.vm.findClass RX3 = some m.cls := hown
  have hl : lv_has ls 1 [(0, .ref (a 0 0))] := hl
  have hP : va_P D vwCl (cLP kc a o) s.heap := hP
  have hD : va_D A (cLP kc a o) := hD
  have hS : va_S A s.heap s.heap [] := hS
  obtain ⟨H, eH⟩ : ∃ z, z = s.heap := ⟨_, rfl⟩
  obtain ⟨locs, eL⟩ : ∃ z : List Loc, z = [] := ⟨_, rfl⟩
  have hP := q_heap hP eH
  have hS := q_heapS hS eH eL
  refine q_start eH eL ?_
  clear eH eL
  have hi3 : ∀ w ∈ u_ws RX3 TX3 10, w ∈ wsX3_torn := by decide +kernel
  unfold w_X3_torn at h
  refine lv_aload_n hx hb dX3_torn_0 rfl (lv_at hl 0 rfl) ?_
  refine va_get (D := D) (ci := 3) (v := .int (o 0 0 7)) (C := RX3) (T := TX3) (N := 10) hx hb hts hi3 hown hK.1 hP 0 rfl rfl 7 (by decide) (hts (.fieldLink RX3 221 "LastPenny" "tornFault" "I") (by decide +kernel)) (fun _ h9 => h9) rfl dX3_torn_1 ?_
  exact hret (o 0 0 7) o H locs ls _ h hP hD hS dX3_torn_4

def w_X3_count (p1 : Int32) (o : S3) (K : Int32 → S3 → Prop) : Prop := br (p1 = 0) (K (o 1 0 5) o) (br (p1 = 1) (jn (fun (k3 : Int32) => br ((o 0 2 (1 : Int32).toNatClampNeg) = 0) (K (k3 + 0) o) (K (k3 + 1) o)) (fun J58 => br ((o 0 2 (0 : Int32).toNatClampNeg) = 0) (J58 0) (J58 1))) (br (p1 = 2) (K (o 6 0 1) o) (br (p1 = 3) (br ((o 7 0 0) = (-1)) (K (-4) o) (K (o 7 0 1) o)) (br (p1 = 4) (w_X2_keptByAll (o 1) (fun r11 w10 => nm ((va_up o 1 w10) : S3) (fun o13 => K r11 o13))) (K (-1) o)))))
abbrev rm_X3_count : Room := { frames := 1, cells := 0, slots := 0, locals := 22 }
set_option maxHeartbeats 4000000 in
set_option maxRecDepth 100000 in
theorem c_X3_count (l : Launch) (D : va_G) (kc : Nat → ClassId) (a : Nat → Nat → Nat) (p1 : Int32) (o : S3) (sz : Nat) (K : Int32 → S3 → Prop) (h : w_X3_count p1 o K) : MetI l yX3_count wsX3_count rm_X3_count D kc (fun u : S3 => cLP kc a u) o [.ref (a 0 0), .int p1] sz (fun r u => K r u) := by
  refine q_ei (code := cX3_count) (maxL := 2) (by decide) rfl (Nat.le_of_ble_eq_true rfl) ?_
  intro p e s m args below meth c Q A hx hb hml hts hown hK hA hret ls hl hP hD hS
  have hown : s.vm.findClass RX3 = some m.cls := hown
  have hl : lv_has ls 2 [(0, .ref (a 0 0)), (1, .int p1)] := hl
  have hP : va_P D vwCl (cLP kc a o) s.heap := hP
  have hD : va_D A (cLP kc a o) := hD
  have hS : va_S A s.heap s.heap [] := hS
  obtain ⟨H, eH⟩ : ∃ z, z = s.heap := ⟨_, rfl⟩
  obtain ⟨locs, eL⟩ : ∃ z : List Loc, z = [] := ⟨_, rfl⟩
  have hP := q_heap hP eH
  have hS := q_heapS hS eH eL
  refine q_start eH eL ?_
  clear eH eL
  have hi0 : ∀ w ∈ u_ws RX0 TX0 3, w ∈ wsX3_count := by decide +kernel
  have hi1 : ∀ w ∈ u_ws RX1 TX1 9, w ∈ wsX3_count := by decide +kernel
  have hi2 : ∀ w ∈ u_ws RX2 TX2 13, w ∈ wsX3_count := by decide +kernel
  have hi3 : ∀ w ∈ u_ws RX3 TX3 10, w ∈ wsX3_count := by decide +kernel
  unfold w_X3_count at h
  refine lv_iload_n hx hb dX3_count_0 rfl (lv_at hl 1 rfl) ?_
  by_cases c1 : p1 = 0
  · have h := br1 h c1
    refine lv_tableIn (tgt := 36) hx hb dX3_count_1 (by rw [c1]; all_goals decide) (by rw [c1]; all_goals decide) (by rw [c1]; all_goals rfl) (by decide) ?_
    refine lv_aload_n hx hb dX3_count_36 rfl (lv_at hl 0 rfl) ?_
    refine va_get (D := D) (ci := 3) (v := .ref (a 1 0)) (C := RX3) (T := TX3) (N := 10) hx hb hts hi3 hown hK.1 hP 0 rfl rfl 1 (by decide) (hts (.fieldLink RX3 19 "LastPenny" "now" "LLastPenny$World;") (by decide +kernel)) (fun _ h9 => h9) rfl dX3_count_37 ?_
    refine va_get (D := D) (ci := 2) (v := .int (o 1 0 5)) (C := RX2) (T := TX2) (N := 13) hx hb hts hi2 hown hK.1 hP 6 rfl rfl 5 (by decide) (hts (.fieldLink RX3 180 "LastPenny$World" "seen" "I") (by decide +kernel)) (fun _ h9 => h9) rfl dX3_count_40 ?_
    exact hret (o 1 0 5) o H locs ls _ h hP hD hS dX3_count_43
  have h := br2 h c1
  by_cases c2 : p1 = 1
  · have h := br1 h c2
    refine lv_tableIn (tgt := 44) hx hb dX3_count_1 (by rw [c2]; all_goals decide) (by rw [c2]; all_goals decide) (by rw [c2]; all_goals rfl) (by decide) ?_
    refine lv_aload_n hx hb dX3_count_44 rfl (lv_at hl 0 rfl) ?_
    refine va_get (D := D) (ci := 3) (v := .ref (a 0 2)) (C := RX3) (T := TX3) (N := 10) hx hb hts hi3 hown hK.1 hP 0 rfl rfl 5 (by decide) (hts (.fieldLink RX3 33 "LastPenny" "imageThere" "[Z") (by decide +kernel)) (fun _ h9 => h9) rfl dX3_count_45 ?_
    refine lv_iconst (v := 0) hx hb dX3_count_48 (by decide) ?_
    refine va_zald hx hb hK.1 hP 2 2 rfl rfl (by unfold vp_in; decide) dX3_count_49 ?_
    refine jn_elim h (fun J58 eJ58 h => ?_)
    have hJ_58 : ∀ (k3 : Int32) (ls : Array Slot), J58 k3 → lv_has ls 2 [(0, .ref (a 0 0))] → W p l e rm_X3_count s m args below meth c H locs 0 0 Q (F0 m 58 ls [.int k3]) := by
      intro k3 ls h hl
      subst eJ58
      refine lv_aload_n hx hb dX3_count_58 rfl (lv_at hl 0 rfl) ?_
      refine va_get (D := D) (ci := 3) (v := .ref (a 0 2)) (C := RX3) (T := TX3) (N := 10) hx hb hts hi3 hown hK.1 hP 0 rfl rfl 5 (by decide) (hts (.fieldLink RX3 33 "LastPenny" "imageThere" "[Z") (by decide +kernel)) (fun _ h9 => h9) rfl dX3_count_59 ?_
      refine lv_iconst (v := 1) hx hb dX3_count_62 (by decide) ?_
      refine va_zald hx hb hK.1 hP 2 2 rfl rfl (by unfold vp_in; decide) dX3_count_63 ?_
      refine lv_if_eq (tgt := 71) hx hb dX3_count_64 (by decide) (fun c4 => ?_) (fun c4 => ?_)
      · have h := br1 h c4
        refine lv_iconst (v := 0) hx hb dX3_count_71 (by decide) ?_
        refine lv_iadd hx hb dX3_count_72 ?_
        exact hret (k3 + 0) o H locs ls _ h hP hD hS dX3_count_73
      · have h := br2 h c4
        refine lv_iconst (v := 1) hx hb dX3_count_67 (by decide) ?_
        refine lv_goto (tgt := 72) hx hb dX3_count_68 (by decide) ?_
        refine lv_iadd hx hb dX3_count_72 ?_
        exact hret (k3 + 1) o H locs ls _ h hP hD hS dX3_count_73
    refine lv_if_eq (tgt := 57) hx hb dX3_count_50 (by decide) (fun c5 => ?_) (fun c5 => ?_)
    · have h := br1 h c5
      refine lv_iconst (v := 0) hx hb dX3_count_57 (by decide) ?_
      exact hJ_58 0 ls h (lv_sub hl [0] rfl)
    · have h := br2 h c5
      refine lv_iconst (v := 1) hx hb dX3_count_53 (by decide) ?_
      refine lv_goto (tgt := 58) hx hb dX3_count_54 (by decide) ?_
      exact hJ_58 1 ls h (lv_sub hl [0] rfl)
  have h := br2 h c2
  by_cases c6 : p1 = 2
  · have h := br1 h c6
    refine lv_tableIn (tgt := 74) hx hb dX3_count_1 (by rw [c6]; all_goals decide) (by rw [c6]; all_goals decide) (by rw [c6]; all_goals rfl) (by decide) ?_
    refine lv_aload_n hx hb dX3_count_74 rfl (lv_at hl 0 rfl) ?_
    refine va_get (D := D) (ci := 3) (v := .ref (a 6 0)) (C := RX3) (T := TX3) (N := 10) hx hb hts hi3 hown hK.1 hP 0 rfl rfl 0 (by decide) (hts (.fieldLink RX3 10 "LastPenny" "tape" "LLastPenny$Tape;") (by decide +kernel)) (fun _ h9 => h9) rfl dX3_count_75 ?_
    refine va_get (D := D) (ci := 1) (v := .int (o 6 0 1)) (C := RX1) (T := TX1) (N := 9) hx hb hts hi1 hown hK.1 hP 46 rfl rfl 1 (by decide) (hts (.fieldLink RX3 59 "LastPenny$Tape" "length" "I") (by decide +kernel)) (fun _ h9 => h9) rfl dX3_count_78 ?_
    exact hret (o 6 0 1) o H locs ls _ h hP hD hS dX3_count_81
  have h := br2 h c6
  by_cases c7 : p1 = 3
  · have h := br1 h c7
    refine lv_tableIn (tgt := 82) hx hb dX3_count_1 (by rw [c7]; all_goals decide) (by rw [c7]; all_goals decide) (by rw [c7]; all_goals rfl) (by decide) ?_
    refine lv_aload_n hx hb dX3_count_82 rfl (lv_at hl 0 rfl) ?_
    refine va_get (D := D) (ci := 3) (v := .ref (a 0 3)) (C := RX3) (T := TX3) (N := 10) hx hb hts hi3 hown hK.1 hP 0 rfl rfl 6 (by decide) (hts (.fieldLink RX3 39 "LastPenny" "sheets" "[LLastPenny$Sheet;") (by decide +kernel)) (fun _ h9 => h9) rfl dX3_count_83 ?_
    refine lv_iconst (v := 0) hx hb dX3_count_86 (by decide) ?_
    refine va_aldq hx hb hK.1 hP 3 4 rfl rfl (by unfold vp_in; decide) dX3_count_87 ?_
    refine W.eq (g2 := F0 m 88 ls [.ref (a 7 0)]) rfl ?_
    refine va_get (D := D) (ci := 0) (v := .int (o 7 0 0)) (C := RX0) (T := TX0) (N := 3) hx hb hts hi0 hown hK.1 hP 48 rfl rfl 0 (by decide) (hts (.fieldLink RX3 224 "LastPenny$Sheet" "lane" "I") (by decide +kernel)) (fun _ h9 => h9) rfl dX3_count_88 ?_
    refine lv_iconst (v := -1) hx hb dX3_count_91 (by decide) ?_
    refine lv_icmp_ne (tgt := 100) hx hb dX3_count_92 (by decide) (fun c8 => ?_) (fun c8 => ?_)
    · have h := br2 h c8
      refine lv_aload_n hx hb dX3_count_100 rfl (lv_at hl 0 rfl) ?_
      refine va_get (D := D) (ci := 3) (v := .ref (a 0 3)) (C := RX3) (T := TX3) (N := 10) hx hb hts hi3 hown hK.1 hP 0 rfl rfl 6 (by decide) (hts (.fieldLink RX3 39 "LastPenny" "sheets" "[LLastPenny$Sheet;") (by decide +kernel)) (fun _ h9 => h9) rfl dX3_count_101 ?_
      refine lv_iconst (v := 0) hx hb dX3_count_104 (by decide) ?_
      refine va_aldq hx hb hK.1 hP 3 4 rfl rfl (by unfold vp_in; decide) dX3_count_105 ?_
      refine W.eq (g2 := F0 m 106 ls [.ref (a 7 0)]) rfl ?_
      refine va_get (D := D) (ci := 0) (v := .int (o 7 0 1)) (C := RX0) (T := TX0) (N := 3) hx hb hts hi0 hown hK.1 hP 48 rfl rfl 1 (by decide) (hts (.fieldLink RX3 227 "LastPenny$Sheet" "size" "I") (by decide +kernel)) (fun _ h9 => h9) rfl dX3_count_106 ?_
      exact hret (o 7 0 1) o H locs ls _ h hP hD hS dX3_count_109
    · have h := br1 h c8
      refine lv_bipush (v := -4) hx hb dX3_count_95 (by decide) ?_
      refine lv_goto (tgt := 109) hx hb dX3_count_97 (by decide) ?_
      exact hret (-4) o H locs ls _ h hP hD hS dX3_count_109
  have h := br2 h c7
  by_cases c9 : p1 = 4
  · have h := br1 h c9
    refine lv_tableIn (tgt := 110) hx hb dX3_count_1 (by rw [c9]; all_goals decide) (by rw [c9]; all_goals decide) (by rw [c9]; all_goals rfl) (by decide) ?_
    refine lv_aload_n hx hb dX3_count_110 rfl (lv_at hl 0 rfl) ?_
    refine va_get (D := D) (ci := 3) (v := .ref (a 1 0)) (C := RX3) (T := TX3) (N := 10) hx hb hts hi3 hown hK.1 hP 0 rfl rfl 1 (by decide) (hts (.fieldLink RX3 19 "LastPenny" "now" "LLastPenny$World;") (by decide +kernel)) (fun _ h9 => h9) rfl dX3_count_111 ?_
    refine q_cVi (As := []) (rest := []) ⟨hx, hb, hml, hown, hts⟩ hK (c_X2_keptByAll l D kc (a 1) (o 1) H.size _ h) (cwV 0 hts gX3_count_X2_keptByAll rfl rfl rfl (by decide +kernel) ⟨Nat.le_of_ble_eq_true rfl, Nat.le_of_ble_eq_true rfl⟩) (cut_LP_1 D kc a o) hP hD hS hA 2 0 rfl rfl rfl hl.1 rfl (Nat.le_of_ble_eq_true rfl) dX3_count_114 ⟨Nat.zero_le _, Nat.zero_le _⟩ (fun r11 u12 H locs h hP hD hS => ?_)
    obtain ⟨w10, rfl⟩ : ∃ z, z = u12 := ⟨_, rfl⟩
    obtain ⟨o13, eo13⟩ : ∃ z, z = (va_up o 1 w10) := ⟨_, rfl⟩
    have h := nm_out h o13 eo13
    have hP : va_P D vwCl (cLP kc a o13) H := q_to hP (by subst eo13; rfl)
    have hD : va_D A (cLP kc a o13) := q_toD hD (by subst eo13; rfl)
    exact hret r11 o13 H locs ls _ h hP hD hS dX3_count_117
  have h := br2 h c9
  have ht14 := lv_neT (a := 0) c1 (by decide)
  have ht15 := lv_neT (a := 1) c2 (by decide)
  have ht16 := lv_neT (a := 2) c6 (by decide)
  have ht17 := lv_neT (a := 3) c7 (by decide)
  have ht18 := lv_neT (a := 4) c9 (by decide)
  refine lv_tableOut (tgt := 118) hx hb dX3_count_1 (by omega) (by decide) ?_
  refine lv_iconst (v := -1) hx hb dX3_count_118 (by decide) ?_
  exact hret (-1) o H locs ls _ h hP hD hS dX3_count_119

