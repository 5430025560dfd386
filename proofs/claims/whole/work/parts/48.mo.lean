def w_X4_help (p1 : Int32) (p2 : Int32) (mo : S2) (lo : SL) (K : Int32 → S2 → SL → Prop) : Prop := w_X4_in (p1.toInt64) (0 : Int64) (20 : Int64) (fun r1 => br (r1 = 0) (K (-1) mo lo) (w_X4_isPart p2 (fun r4 => br (r4 = 0) (K (-1) mo lo) (br ((mo 1 (23 : Int32).toNatClampNeg) = 4) (K (-3) mo lo) (w_X4_starts mo lo (fun mo8 lo9 => w_X4_ruinedBehind p1 mo8 lo9 (fun r13 mo11 lo12 => nm ((-4) : Int32) (fun x15 => lfp5 (fun G52 (i16 : Int32) (i17 : Int32) (i18 : Int32) (mo19 : S2) (lo20 : SL) => br ((((mo19 0 3) * (mo19 0 3)) * 20) ≤ i18) (br (i17 = (-4)) (K (-4) mo19 lo20) (br (p2 = 0) (K i17 mo19 lo20) (K i16 mo19 lo20))) ((¬ ((mo19 0 3) * 20) = 0) ∧ (nm ((i18 / ((mo19 0 3) * 20)) : Int32) (fun x25 => (¬ (mo19 0 3) = 0) ∧ (nm (((i18 / 20) - (i18 / 20) / (mo19 0 3) * (mo19 0 3)) : Int32) (fun x27 => nm ((1 + (i18 - i18 / 20 * 20)) : Int32) (fun x28 => jn (fun (i29 : Int32) (i30 : Int32) (mo31 : S2) (lo32 : SL) => nm (i18 + 1 : Int32) (fun x33 => G52 i29 i30 x33 mo31 lo32)) (fun J233 => br (x25 = x27) (J233 i16 i17 mo19 lo20) (w_X4_starts mo19 lo20 (fun mo35 lo36 => nm ((24 + (4 * (mo35 2 (23 : Int32).toNatClampNeg))) : Int32) (fun x38 => vp_in x38 57 ∧ (nm ((va_up mo35 2 (upd (mo35 2) x38.toNatClampNeg (mo35 2 (20 : Int32).toNatClampNeg))) : S2) (fun mo40 => vp_in (x38 + 1) 57 ∧ (nm ((va_up mo40 2 (upd (mo40 2) (x38 + 1).toNatClampNeg x25)) : S2) (fun mo42 => vp_in (x38 + 2) 57 ∧ (nm ((va_up mo42 2 (upd (mo42 2) (x38 + 2).toNatClampNeg x27)) : S2) (fun mo44 => vp_in (x38 + 3) 57 ∧ (nm ((va_up mo44 2 (upd (mo44 2) (x38 + 3).toNatClampNeg x28)) : S2) (fun mo46 => nm ((va_up mo46 2 (upd (mo46 2) (23 : Int32).toNatClampNeg ((mo46 2 (23 : Int32).toNatClampNeg) + 1))) : S2) (fun mo47 => w_X4_ruinedBehind p1 mo47 lo36 (fun r50 mo48 lo49 => jn (fun (k52 : Int32) => jn (fun (k53 : Int32) => J233 k53 k52 mo48 lo49) (fun J232 => br (i16 ≤ r50) (J232 i16) (J232 r50))) (fun J218 => br (i16 ≤ r50) (J218 i17) (J218 (((1000 * x25) + (100 * x27)) + x28)))))))))))))))))))))))) r13 x15 0 mo11 lo12))))))))
abbrev rm_X4_help : Room := { frames := 6, cells := 0, slots := 0, locals := 131 }
set_option maxHeartbeats 4000000 in
set_option maxRecDepth 100000 in
theorem c_X4_help (l : Launch) (D : va_G) (kc : Nat → ClassId) (a : Nat → Nat) (p1 : Int32) (p2 : Int32) (mo : S2) (lo : SL) (sz : Nat) (K : Int32 → S2 → SL → Prop) (h : w_X4_help p1 p2 mo lo K) : MetI l yX4_help wsX4_help rm_X4_help D kc (fun u : S2 × SL => cM kc a u.1 u.2) (mo, lo) [.ref (a 0), .int p1, .int p2] sz (fun r u => K r u.1 u.2) := by
  refine q_ei (code := cX4_help) (maxL := 11) (by decide) rfl (Nat.le_of_ble_eq_true rfl) ?_
  intro p e s m args below meth c Q A hx hb hml hts hown hK hA hret ls hl hP hD hS
  have hown : s.vm.findClass RX4 = some m.cls := hown
  have hl : lv_has ls 11 [(0, .ref (a 0)), (1, .int p1), (2, .int p2)] := hl
  have hP : va_P D vwCl (cM kc a mo lo) s.heap := hP
  have hD : va_D A (cM kc a mo lo) := hD
  have hS : va_S A s.heap s.heap [] := hS
  obtain ⟨H, eH⟩ : ∃ z, z = s.heap := ⟨_, rfl⟩
  obtain ⟨locs, eL⟩ : ∃ z : List Loc, z = [] := ⟨_, rfl⟩
  have hP := q_heap hP eH
  have hS := q_heapS hS eH eL
  refine q_start eH eL ?_
  clear eH eL
  have hi4 : ∀ w ∈ u_ws RX4 TX4 29, w ∈ wsX4_help := by decide +kernel
  unfold w_X4_help at h
  refine lv_iload_n hx hb dX4_help_0 rfl (lv_at hl 1 rfl) ?_
  refine lv_i2l hx hb dX4_help_1 rfl ?_
  refine lv_lconst (v := 0) hx hb dX4_help_2 (by decide) ?_
  refine lv_ldc2 (v := 20) hx hb hown (hts (.constantLong RX4 205 (20)) (by decide +kernel)) dX4_help_3 ?_
  refine q_cSi (As := [.long (p1.toInt64), .long 0, .long 20]) (rest := []) ⟨hx, hb, hml, hown, hts⟩ hK (c_X4_in l D kc (p1.toInt64) (0 : Int64) (20 : Int64) H.size _ h) (va_cwS 3 hts gX4_help_X4_in rfl rfl rfl (by decide +kernel) ⟨Nat.le_of_ble_eq_true rfl, Nat.le_of_ble_eq_true rfl⟩) (cut_nil _) hP hD hS hA rfl hl.1 rfl (Nat.le_of_ble_eq_true rfl) dX4_help_6 ⟨Nat.zero_le _, Nat.zero_le _⟩ (fun r1 _ H locs h hP hD hS => ?_)
  have hP : va_P D vwCl (cM kc a mo lo) H := hP
  have hD : va_D A (cM kc a mo lo) := hD
  refine lv_if_eq (tgt := 19) hx hb dX4_help_9 (by decide) (fun c3 => ?_) (fun c3 => ?_)
  · have h := br1 h c3
    refine lv_iconst (v := -1) hx hb dX4_help_19 (by decide) ?_
    exact hret (-1) (mo, lo) H locs ls _ h hP hD hS dX4_help_20
  · have h := br2 h c3
    refine lv_iload_n hx hb dX4_help_12 rfl (lv_at hl 2 rfl) ?_
    refine q_cSi (As := [.int p2]) (rest := []) ⟨hx, hb, hml, hown, hts⟩ hK (c_X4_isPart l D kc p2 H.size _ h) (va_cwS 1 hts gX4_help_X4_isPart rfl rfl rfl (by decide +kernel) ⟨Nat.le_of_ble_eq_true rfl, Nat.le_of_ble_eq_true rfl⟩) (cut_nil _) hP hD hS hA rfl hl.1 rfl (Nat.le_of_ble_eq_true rfl) dX4_help_13 ⟨Nat.zero_le _, Nat.zero_le _⟩ (fun r4 _ H locs h hP hD hS => ?_)
    have hP : va_P D vwCl (cM kc a mo lo) H := hP
    have hD : va_D A (cM kc a mo lo) := hD
    refine lv_if_ne (tgt := 21) hx hb dX4_help_16 (by decide) (fun c6 => ?_) (fun c6 => ?_)
    · have h := br2 h c6
      refine lv_aload_n hx hb dX4_help_21 rfl (lv_at hl 0 rfl) ?_
      refine va_get (D := D) (ci := 4) (v := .ref (a 1)) (C := RX4) (T := TX4) (N := 29) hx hb hts hi4 hown hK.1 hP 0 rfl rfl 0 (by decide) (hts (.fieldLink RX4 7 "LastPennyModel" "st" "[I") (by decide +kernel)) (fun _ h9 => h9) rfl dX4_help_22 ?_
      refine lv_bipush (v := 23) hx hb dX4_help_25 (by decide) ?_
      refine va_iald hx hb hK.1 hP 1 0 rfl rfl (by unfold vp_in; decide) dX4_help_27 ?_
      refine lv_iconst (v := 4) hx hb dX4_help_28 (by decide) ?_
      refine lv_icmp_ne (tgt := 35) hx hb dX4_help_29 (by decide) (fun c7 => ?_) (fun c7 => ?_)
      · have h := br2 h c7
        refine lv_aload_n hx hb dX4_help_35 rfl (lv_at hl 0 rfl) ?_
        refine q_cVv (As := []) (rest := []) ⟨hx, hb, hml, hown, hts⟩ hK (c_X4_starts l D kc a mo lo H.size _ h) (cwV 0 hts gX4_help_X4_starts rfl rfl rfl (by decide +kernel) ⟨Nat.le_of_ble_eq_true rfl, Nat.le_of_ble_eq_true rfl⟩) (cut_same (fun u : S2 × SL => cM kc a u.1 u.2) (mo, lo)) hP hD hS hA 4 0 rfl rfl rfl hl.1 rfl (Nat.le_of_ble_eq_true rfl) dX4_help_36 ⟨Nat.zero_le _, Nat.zero_le _⟩ (fun u10 H locs h hP hD hS => ?_)
        obtain ⟨mo8, lo9⟩ := u10
        have hP : va_P D vwCl (cM kc a mo8 lo9) H := hP
        have hD : va_D A (cM kc a mo8 lo9) := hD
        refine lv_aload_n hx hb dX4_help_39 rfl (lv_at hl 0 rfl) ?_
        refine lv_iload_n hx hb dX4_help_40 rfl (lv_at hl 1 rfl) ?_
        refine q_cVi (As := [.int p1]) (rest := []) ⟨hx, hb, hml, hown, hts⟩ hK (c_X4_ruinedBehind l D kc a p1 mo8 lo9 H.size _ h) (cwV 1 hts gX4_help_X4_ruinedBehind rfl rfl rfl (by decide +kernel) ⟨Nat.le_of_ble_eq_true rfl, Nat.le_of_ble_eq_true rfl⟩) (cut_same (fun u : S2 × SL => cM kc a u.1 u.2) (mo8, lo9)) hP hD hS hA 4 0 rfl rfl rfl hl.1 rfl (Nat.le_of_ble_eq_true rfl) dX4_help_41 ⟨Nat.zero_le _, Nat.zero_le _⟩ (fun r13 u14 H locs h hP hD hS => ?_)
        obtain ⟨mo11, lo12⟩ := u14
        have hP : va_P D vwCl (cM kc a mo11 lo12) H := hP
        have hD : va_D A (cM kc a mo11 lo12) := hD
        refine lv_istore_n (lv' := [(3, .int r13), (0, .ref (a 0)), (1, .int p1), (2, .int p2)]) hx hb dX4_help_44 rfl hl (by decide) rfl (fun ls hl => ?_)
        refine lv_bipush (v := -4) hx hb dX4_help_45 (by decide) ?_
        refine lv_topi (fun x15 ex15 => ?_)
        have h := nm_out h x15 ex15
        refine lv_istore (lv' := [(4, .int x15), (3, .int r13), (0, .ref (a 0)), (1, .int p1), (2, .int p2)]) hx hb dX4_help_47 hl (by decide) rfl (fun ls hl => ?_)
        refine lv_iconst (v := 0) hx hb dX4_help_49 (by decide) ?_
        refine lv_istore (lv' := [(5, .int 0), (4, .int x15), (3, .int r13), (0, .ref (a 0)), (1, .int p1), (2, .int p2)]) hx hb dX4_help_50 hl (by decide) rfl (fun ls hl => ?_)
        refine h (fun (i16 : Int32) (i17 : Int32) (i18 : Int32) (mo19 : S2) (lo20 : SL) => ∀ (ls : Array Slot) (H : Heap) (locs : List Loc), lv_has ls 11 [(0, .ref (a 0)), (1, .int p1), (2, .int p2), (3, .int i16), (4, .int i17), (5, .int i18)] → va_P D vwCl (cM kc a mo19 lo20) H → va_D A (cM kc a mo19 lo20) → va_S A s.heap H locs → W p l e rm_X4_help s m args below meth c H locs 0 0 Q (F0 m 52 ls [])) ?_ ls H locs (lv_sub hl [3, 4, 5, 2, 1, 0] rfl) hP hD hS
        intro i16 i17 i18 mo19 lo20 h ls H locs hl hP hD hS
        refine lv_iload hx hb dX4_help_52 (lv_at hl 5 rfl) ?_
        refine lv_aload_n hx hb dX4_help_54 rfl (lv_at hl 0 rfl) ?_
        refine va_get (D := D) (ci := 4) (v := .int (mo19 0 3)) (C := RX4) (T := TX4) (N := 29) hx hb hts hi4 hown hK.1 hP 0 rfl rfl 3 (by decide) (hts (.fieldLink RX4 67 "LastPennyModel" "people" "I") (by decide +kernel)) (fun _ h9 => h9) rfl dX4_help_55 ?_
        refine lv_aload_n hx hb dX4_help_58 rfl (lv_at hl 0 rfl) ?_
        refine va_get (D := D) (ci := 4) (v := .int (mo19 0 3)) (C := RX4) (T := TX4) (N := 29) hx hb hts hi4 hown hK.1 hP 0 rfl rfl 3 (by decide) (hts (.fieldLink RX4 67 "LastPennyModel" "people" "I") (by decide +kernel)) (fun _ h9 => h9) rfl dX4_help_59 ?_
        refine lv_imul hx hb dX4_help_62 ?_
        refine lv_bipush (v := 20) hx hb dX4_help_63 (by decide) ?_
        refine lv_imul hx hb dX4_help_65 ?_
        refine lv_icmp_ge (tgt := 239) hx hb dX4_help_66 (by decide) (fun c21 => ?_) (fun c21 => ?_)
        · have h := br1 h c21
          refine lv_iload hx hb dX4_help_239 (lv_at hl 4 rfl) ?_
          refine lv_bipush (v := -4) hx hb dX4_help_241 (by decide) ?_
          refine lv_icmp_ne (tgt := 251) hx hb dX4_help_243 (by decide) (fun c22 => ?_) (fun c22 => ?_)
          · have h := br2 h c22
            refine lv_iload_n hx hb dX4_help_251 rfl (lv_at hl 2 rfl) ?_
            refine lv_if_ne (tgt := 260) hx hb dX4_help_252 (by decide) (fun c23 => ?_) (fun c23 => ?_)
            · have h := br2 h c23
              refine lv_iload_n hx hb dX4_help_260 rfl (lv_at hl 3 rfl) ?_
              exact hret i16 (mo19, lo20) H locs ls _ h hP hD hS dX4_help_261
            · have h := br1 h c23
              refine lv_iload hx hb dX4_help_255 (lv_at hl 4 rfl) ?_
              refine lv_goto (tgt := 261) hx hb dX4_help_257 (by decide) ?_
              exact hret i17 (mo19, lo20) H locs ls _ h hP hD hS dX4_help_261
          · have h := br1 h c22
            refine lv_bipush (v := -4) hx hb dX4_help_246 (by decide) ?_
            refine lv_goto (tgt := 261) hx hb dX4_help_248 (by decide) ?_
            exact hret (-4) (mo19, lo20) H locs ls _ h hP hD hS dX4_help_261
        · have h := br2 h c21
          refine lv_iload hx hb dX4_help_69 (lv_at hl 5 rfl) ?_
          refine lv_aload_n hx hb dX4_help_71 rfl (lv_at hl 0 rfl) ?_
          refine va_get (D := D) (ci := 4) (v := .int (mo19 0 3)) (C := RX4) (T := TX4) (N := 29) hx hb hts hi4 hown hK.1 hP 0 rfl rfl 3 (by decide) (hts (.fieldLink RX4 67 "LastPennyModel" "people" "I") (by decide +kernel)) (fun _ h9 => h9) rfl dX4_help_72 ?_
          refine lv_bipush (v := 20) hx hb dX4_help_75 (by decide) ?_
          refine lv_imul hx hb dX4_help_77 ?_
          obtain ⟨hn24, h⟩ := h
          refine lv_idiv hx hb dX4_help_78 hn24 ?_
          refine lv_topi (fun x25 ex25 => ?_)
          have h := nm_out h x25 ex25
          refine lv_istore (lv' := [(6, .int x25), (0, .ref (a 0)), (1, .int p1), (2, .int p2), (3, .int i16), (4, .int i17), (5, .int i18)]) hx hb dX4_help_79 hl (by decide) rfl (fun ls hl => ?_)
          refine lv_iload hx hb dX4_help_81 (lv_at hl 6 rfl) ?_
          refine lv_bipush (v := 20) hx hb dX4_help_83 (by decide) ?_
          refine lv_idiv hx hb dX4_help_85 (by decide) ?_
          refine lv_aload_n hx hb dX4_help_86 rfl (lv_at hl 1 rfl) ?_
          refine va_get (D := D) (ci := 4) (v := .int (mo19 0 3)) (C := RX4) (T := TX4) (N := 29) hx hb hts hi4 hown hK.1 hP 0 rfl rfl 3 (by decide) (hts (.fieldLink RX4 67 "LastPennyModel" "people" "I") (by decide +kernel)) (fun _ h9 => h9) rfl dX4_help_87 ?_
          obtain ⟨hn26, h⟩ := h
          refine lv_irem hx hb dX4_help_90 hn26 ?_
          refine lv_topi (fun x27 ex27 => ?_)
          have h := nm_out h x27 ex27
          refine lv_istore (lv' := [(7, .int x27), (6, .int x25), (0, .ref (a 0)), (1, .int p1), (2, .int p2), (3, .int i16), (4, .int i17), (5, .int i18)]) hx hb dX4_help_91 hl (by decide) rfl (fun ls hl => ?_)
          refine lv_iconst (v := 1) hx hb dX4_help_93 (by decide) ?_
          refine lv_iload hx hb dX4_help_94 (lv_at hl 7 rfl) ?_
          refine lv_bipush (v := 20) hx hb dX4_help_96 (by decide) ?_
          refine lv_irem hx hb dX4_help_98 (by decide) ?_
          refine lv_iadd hx hb dX4_help_99 ?_
          refine lv_topi (fun x28 ex28 => ?_)
          have h := nm_out h x28 ex28
          refine lv_istore (lv' := [(8, .int x28), (7, .int x27), (6, .int x25), (0, .ref (a 0)), (1, .int p1), (2, .int p2), (3, .int i16), (4, .int i17), (5, .int i18)]) hx hb dX4_help_100 hl (by decide) rfl (fun ls hl => ?_)
          refine lv_iload hx hb dX4_help_102 (lv_at hl 2 rfl) ?_
          refine lv_iload hx hb dX4_help_104 (lv_at hl 1 rfl) ?_
          refine jn_elim h (fun J233 eJ233 h => ?_)
          have hJ_233 : ∀ (i29 : Int32) (i30 : Int32) (mo31 : S2) (lo32 : SL) (ls : Array Slot) (H : Heap) (locs : List Loc), J233 i29 i30 mo31 lo32 → lv_has ls 11 [(0, .ref (a 0)), (1, .int p1), (2, .int p2), (3, .int i29), (4, .int i30), (5, .int i18)] → va_P D vwCl (cM kc a mo31 lo32) H → va_D A (cM kc a mo31 lo32) → va_S A s.heap H locs → W p l e rm_X4_help s m args below meth c H locs 0 0 Q (F0 m 233 ls []) := by
            intro i29 i30 mo31 lo32 ls H locs h hl hP hD hS
            subst eJ233
            obtain ⟨x33, ex33⟩ : ∃ z : Int32, z = i18 + 1 := ⟨_, rfl⟩
            have h := nm_out h x33 ex33
            refine lv_iinc (v := x33) (lv' := [(5, .int x33), (0, .ref (a 0)), (1, .int p1), (2, .int p2), (3, .int i29), (4, .int i30)]) hx hb dX4_help_233 hl (k := 5) rfl (by rw [ex33]; rfl) (by decide) rfl (fun ls hl => ?_)
            refine lv_goto (tgt := 52) hx hb dX4_help_236 (by decide) ?_
            exact h ls H locs (lv_sub hl [1, 2, 3, 4, 5, 0] rfl) hP hD hS
          refine lv_icmp_eq (tgt := 233) hx hb dX4_help_106 (by decide) (fun c34 => ?_) (fun c34 => ?_)
          · have h := br1 h c34
            exact hJ_233 i16 i17 mo19 lo20 ls H locs h (lv_sub hl [3, 4, 5, 6, 7, 8] rfl) hP hD hS
          · have h := br2 h c34
            refine lv_aload_n hx hb dX4_help_109 rfl (lv_at hl 3 rfl) ?_
            refine q_cVv (As := []) (rest := []) ⟨hx, hb, hml, hown, hts⟩ hK (c_X4_starts l D kc a mo19 lo20 H.size _ h) (cwV 0 hts gX4_help_X4_starts rfl rfl rfl (by decide +kernel) ⟨Nat.le_of_ble_eq_true rfl, Nat.le_of_ble_eq_true rfl⟩) (cut_same (fun u : S2 × SL => cM kc a u.1 u.2) (mo19, lo20)) hP hD hS hA 4 0 rfl rfl rfl hl.1 rfl (Nat.le_of_ble_eq_true rfl) dX4_help_110 ⟨Nat.zero_le _, Nat.zero_le _⟩ (fun u37 H locs h hP hD hS => ?_)
            obtain ⟨mo35, lo36⟩ := u37
            have hP : va_P D vwCl (cM kc a mo35 lo36) H := hP
            have hD : va_D A (cM kc a mo35 lo36) := hD
            refine lv_bipush (v := 24) hx hb dX4_help_113 (by decide) ?_
            refine lv_iconst (v := 4) hx hb dX4_help_115 (by decide) ?_
            refine lv_aload_n hx hb dX4_help_116 rfl (lv_at hl 3 rfl) ?_
            refine va_get (D := D) (ci := 4) (v := .ref (a 2)) (C := RX4) (T := TX4) (N := 29) hx hb hts hi4 hown hK.1 hP 0 rfl rfl 1 (by decide) (hts (.fieldLink RX4 13 "LastPennyModel" "now" "[I") (by decide +kernel)) (fun _ h9 => h9) rfl dX4_help_117 ?_
            refine lv_bipush (v := 23) hx hb dX4_help_120 (by decide) ?_
            refine va_iald hx hb hK.1 hP 2 0 rfl rfl (by unfold vp_in; decide) dX4_help_122 ?_
            refine lv_imul hx hb dX4_help_123 ?_
            refine lv_iadd hx hb dX4_help_124 ?_
            refine lv_topi (fun x38 ex38 => ?_)
            have h := nm_out h x38 ex38
            refine lv_istore (lv' := [(9, .int x38), (8, .int x28), (7, .int x27), (6, .int x25), (0, .ref (a 0)), (1, .int p1), (2, .int p2), (3, .int i16), (4, .int i17), (5, .int i18)]) hx hb dX4_help_125 hl (by decide) rfl (fun ls hl => ?_)
            refine lv_aload_n hx hb dX4_help_127 rfl (lv_at hl 4 rfl) ?_
            refine va_get (D := D) (ci := 4) (v := .ref (a 2)) (C := RX4) (T := TX4) (N := 29) hx hb hts hi4 hown hK.1 hP 0 rfl rfl 1 (by decide) (hts (.fieldLink RX4 13 "LastPennyModel" "now" "[I") (by decide +kernel)) (fun _ h9 => h9) rfl dX4_help_128 ?_
            refine lv_iload hx hb dX4_help_131 (lv_at hl 0 rfl) ?_
            refine lv_aload_n hx hb dX4_help_133 rfl (lv_at hl 4 rfl) ?_
            refine va_get (D := D) (ci := 4) (v := .ref (a 2)) (C := RX4) (T := TX4) (N := 29) hx hb hts hi4 hown hK.1 hP 0 rfl rfl 1 (by decide) (hts (.fieldLink RX4 13 "LastPennyModel" "now" "[I") (by decide +kernel)) (fun _ h9 => h9) rfl dX4_help_134 ?_
            refine lv_bipush (v := 20) hx hb dX4_help_137 (by decide) ?_
            refine va_iald hx hb hK.1 hP 2 0 rfl rfl (by unfold vp_in; decide) dX4_help_139 ?_
            obtain ⟨hi_39, h⟩ := h
            refine va_iast hx hb hK.1 hP hD hS 2 0 rfl rfl hi_39 dX4_help_140 (fun H locs hP hD hS => ?_)
            obtain ⟨mo40, emo40⟩ : ∃ z, z = (va_up mo35 2 (upd (mo35 2) x38.toNatClampNeg (mo35 2 (20 : Int32).toNatClampNeg))) := ⟨_, rfl⟩
            have h := nm_out h mo40 emo40
            have hP : va_P D vwCl (cM kc a mo40 lo36) H := q_to hP (by subst emo40; rfl)
            have hD : va_D A (cM kc a mo40 lo36) := q_toD hD (by subst emo40; rfl)
            refine lv_aload_n hx hb dX4_help_141 rfl (lv_at hl 4 rfl) ?_
            refine va_get (D := D) (ci := 4) (v := .ref (a 2)) (C := RX4) (T := TX4) (N := 29) hx hb hts hi4 hown hK.1 hP 0 rfl rfl 1 (by decide) (hts (.fieldLink RX4 13 "LastPennyModel" "now" "[I") (by decide +kernel)) (fun _ h9 => h9) rfl dX4_help_142 ?_
            refine lv_iload hx hb dX4_help_145 (lv_at hl 0 rfl) ?_
            refine lv_iconst (v := 1) hx hb dX4_help_147 (by decide) ?_
            refine lv_iadd hx hb dX4_help_148 ?_
            refine lv_iload hx hb dX4_help_149 (lv_at hl 3 rfl) ?_
            obtain ⟨hi_41, h⟩ := h
            refine va_iast hx hb hK.1 hP hD hS 2 0 rfl rfl hi_41 dX4_help_151 (fun H locs hP hD hS => ?_)
            obtain ⟨mo42, emo42⟩ : ∃ z, z = (va_up mo40 2 (upd (mo40 2) (x38 + 1).toNatClampNeg x25)) := ⟨_, rfl⟩
            have h := nm_out h mo42 emo42
            have hP : va_P D vwCl (cM kc a mo42 lo36) H := q_to hP (by subst emo42; rfl)
            have hD : va_D A (cM kc a mo42 lo36) := q_toD hD (by subst emo42; rfl)
            refine lv_aload_n hx hb dX4_help_152 rfl (lv_at hl 4 rfl) ?_
            refine va_get (D := D) (ci := 4) (v := .ref (a 2)) (C := RX4) (T := TX4) (N := 29) hx hb hts hi4 hown hK.1 hP 0 rfl rfl 1 (by decide) (hts (.fieldLink RX4 13 "LastPennyModel" "now" "[I") (by decide +kernel)) (fun _ h9 => h9) rfl dX4_help_153 ?_
            refine lv_iload hx hb dX4_help_156 (lv_at hl 0 rfl) ?_
            refine lv_iconst (v := 2) hx hb dX4_help_158 (by decide) ?_
            refine lv_iadd hx hb dX4_help_159 ?_
            refine lv_iload hx hb dX4_help_160 (lv_at hl 2 rfl) ?_
            obtain ⟨hi_43, h⟩ := h
            refine va_iast hx hb hK.1 hP hD hS 2 0 rfl rfl hi_43 dX4_help_162 (fun H locs hP hD hS => ?_)
            obtain ⟨mo44, emo44⟩ : ∃ z, z = (va_up mo42 2 (upd (mo42 2) (x38 + 2).toNatClampNeg x27)) := ⟨_, rfl⟩
            have h := nm_out h mo44 emo44
            have hP : va_P D vwCl (cM kc a mo44 lo36) H := q_to hP (by subst emo44; rfl)
            have hD : va_D A (cM kc a mo44 lo36) := q_toD hD (by subst emo44; rfl)
            refine lv_aload_n hx hb dX4_help_163 rfl (lv_at hl 4 rfl) ?_
            refine va_get (D := D) (ci := 4) (v := .ref (a 2)) (C := RX4) (T := TX4) (N := 29) hx hb hts hi4 hown hK.1 hP 0 rfl rfl 1 (by decide) (hts (.fieldLink RX4 13 "LastPennyModel" "now" "[I") (by decide +kernel)) (fun _ h9 => h9) rfl dX4_help_164 ?_
            refine lv_iload hx hb dX4_help_167 (lv_at hl 0 rfl) ?_
            refine lv_iconst (v := 3) hx hb dX4_help_169 (by decide) ?_
            refine lv_iadd hx hb dX4_help_170 ?_
            refine lv_iload hx hb dX4_help_171 (lv_at hl 1 rfl) ?_
            obtain ⟨hi_45, h⟩ := h
            refine va_iast hx hb hK.1 hP hD hS 2 0 rfl rfl hi_45 dX4_help_173 (fun H locs hP hD hS => ?_)
            obtain ⟨mo46, emo46⟩ : ∃ z, z = (va_up mo44 2 (upd (mo44 2) (x38 + 3).toNatClampNeg x28)) := ⟨_, rfl⟩
            have h := nm_out h mo46 emo46
            have hP : va_P D vwCl (cM kc a mo46 lo36) H := q_to hP (by subst emo46; rfl)
            have hD : va_D A (cM kc a mo46 lo36) := q_toD hD (by subst emo46; rfl)
            refine lv_aload_n hx hb dX4_help_174 rfl (lv_at hl 4 rfl) ?_
            refine va_get (D := D) (ci := 4) (v := .ref (a 2)) (C := RX4) (T := TX4) (N := 29) hx hb hts hi4 hown hK.1 hP 0 rfl rfl 1 (by decide) (hts (.fieldLink RX4 13 "LastPennyModel" "now" "[I") (by decide +kernel)) (fun _ h9 => h9) rfl dX4_help_175 ?_
            refine lv_bipush (v := 23) hx hb dX4_help_178 (by decide) ?_
            refine lv_dup2_11 hx hb dX4_help_180 rfl rfl ?_
            refine va_iald hx hb hK.1 hP 2 0 rfl rfl (by unfold vp_in; decide) dX4_help_181 ?_
            refine lv_iconst (v := 1) hx hb dX4_help_182 (by decide) ?_
            refine lv_iadd hx hb dX4_help_183 ?_
            refine va_iast hx hb hK.1 hP hD hS 2 0 rfl rfl (by unfold vp_in; decide) dX4_help_184 (fun H locs hP hD hS => ?_)
            obtain ⟨mo47, emo47⟩ : ∃ z, z = (va_up mo46 2 (upd (mo46 2) (23 : Int32).toNatClampNeg ((mo46 2 (23 : Int32).toNatClampNeg) + 1))) := ⟨_, rfl⟩
            have h := nm_out h mo47 emo47
            have hP : va_P D vwCl (cM kc a mo47 lo36) H := q_to hP (by subst emo47; rfl)
            have hD : va_D A (cM kc a mo47 lo36) := q_toD hD (by subst emo47; rfl)
            refine lv_aload_n hx hb dX4_help_185 rfl (lv_at hl 4 rfl) ?_
            refine lv_iload_n hx hb dX4_help_186 rfl (lv_at hl 5 rfl) ?_
            refine q_cVi (As := [.int p1]) (rest := []) ⟨hx, hb, hml, hown, hts⟩ hK (c_X4_ruinedBehind l D kc a p1 mo47 lo36 H.size _ h) (cwV 1 hts gX4_help_X4_ruinedBehind rfl rfl rfl (by decide +kernel) ⟨Nat.le_of_ble_eq_true rfl, Nat.le_of_ble_eq_true rfl⟩) (cut_same (fun u : S2 × SL => cM kc a u.1 u.2) (mo47, lo36)) hP hD hS hA 4 0 rfl rfl rfl hl.1 rfl (Nat.le_of_ble_eq_true rfl) dX4_help_187 ⟨Nat.zero_le _, Nat.zero_le _⟩ (fun r50 u51 H locs h hP hD hS => ?_)
            obtain ⟨mo48, lo49⟩ := u51
            have hP : va_P D vwCl (cM kc a mo48 lo49) H := hP
            have hD : va_D A (cM kc a mo48 lo49) := hD
            refine lv_istore (lv' := [(10, .int r50), (9, .int x38), (8, .int x28), (7, .int x27), (6, .int x25), (0, .ref (a 0)), (1, .int p1), (2, .int p2), (3, .int i16), (4, .int i17), (5, .int i18)]) hx hb dX4_help_190 hl (by decide) rfl (fun ls hl => ?_)
            refine lv_iload hx hb dX4_help_192 (lv_at hl 0 rfl) ?_
            refine lv_iload_n hx hb dX4_help_194 rfl (lv_at hl 8 rfl) ?_
            refine jn_elim h (fun J218 eJ218 h => ?_)
            have hJ_218 : ∀ (k52 : Int32) (ls : Array Slot), J218 k52 → lv_has ls 11 [(0, .ref (a 0)), (1, .int p1), (2, .int p2), (3, .int i16), (5, .int i18), (10, .int r50)] → W p l e rm_X4_help s m args below meth c H locs 0 0 Q (F0 m 218 ls [.int k52]) := by
              intro k52 ls h hl
              subst eJ218
              refine lv_istore (lv' := [(4, .int k52), (0, .ref (a 0)), (1, .int p1), (2, .int p2), (3, .int i16), (5, .int i18), (10, .int r50)]) hx hb dX4_help_218 hl (by decide) rfl (fun ls hl => ?_)
              refine lv_iload hx hb dX4_help_220 (lv_at hl 6 rfl) ?_
              refine lv_iload_n hx hb dX4_help_222 rfl (lv_at hl 4 rfl) ?_
              refine jn_elim h (fun J232 eJ232 h => ?_)
              have hJ_232 : ∀ (k53 : Int32) (ls : Array Slot), J232 k53 → lv_has ls 11 [(0, .ref (a 0)), (1, .int p1), (2, .int p2), (4, .int k52), (5, .int i18)] → W p l e rm_X4_help s m args below meth c H locs 0 0 Q (F0 m 232 ls [.int k53]) := by
                intro k53 ls h hl
                subst eJ232
                refine lv_istore_n (lv' := [(3, .int k53), (0, .ref (a 0)), (1, .int p1), (2, .int p2), (4, .int k52), (5, .int i18)]) hx hb dX4_help_232 rfl hl (by decide) rfl (fun ls hl => ?_)
                exact hJ_233 k53 k52 mo48 lo49 ls H locs h (lv_sub hl [1, 2, 3, 0, 4, 5] rfl) hP hD hS
              refine lv_icmp_ge (tgt := 231) hx hb dX4_help_223 (by decide) (fun c54 => ?_) (fun c54 => ?_)
              · have h := br1 h c54
                refine lv_iload_n hx hb dX4_help_231 rfl (lv_at hl 4 rfl) ?_
                exact hJ_232 i16 ls h (lv_sub hl [1, 2, 3, 0, 5] rfl)
              · have h := br2 h c54
                refine lv_iload hx hb dX4_help_226 (lv_at hl 6 rfl) ?_
                refine lv_goto (tgt := 232) hx hb dX4_help_228 (by decide) ?_
                exact hJ_232 r50 ls h (lv_sub hl [1, 2, 3, 0, 5] rfl)
            refine lv_icmp_ge (tgt := 216) hx hb dX4_help_195 (by decide) (fun c55 => ?_) (fun c55 => ?_)
            · have h := br1 h c55
              refine lv_iload hx hb dX4_help_216 (lv_at hl 9 rfl) ?_
              exact hJ_218 i17 ls h (lv_sub hl [5, 6, 7, 8, 10, 0] rfl)
            · have h := br2 h c55
              refine lv_sipush (v := 1000) hx hb dX4_help_198 (by decide) ?_
              refine lv_iload hx hb dX4_help_201 (lv_at hl 4 rfl) ?_
              refine lv_imul hx hb dX4_help_203 ?_
              refine lv_bipush (v := 100) hx hb dX4_help_204 (by decide) ?_
              refine lv_iload hx hb dX4_help_206 (lv_at hl 3 rfl) ?_
              refine lv_imul hx hb dX4_help_208 ?_
              refine lv_iadd hx hb dX4_help_209 ?_
              refine lv_iload hx hb dX4_help_210 (lv_at hl 2 rfl) ?_
              refine lv_iadd hx hb dX4_help_212 ?_
              refine lv_goto (tgt := 218) hx hb dX4_help_213 (by decide) ?_
              exact hJ_218 (((1000 * x25) + (100 * x27)) + x28) ls h (lv_sub hl [5, 6, 7, 8, 10, 0] rfl)
      · have h := br1 h c7
        refine lv_bipush (v := -3) hx hb dX4_help_32 (by decide) ?_
        exact hret (-3) (mo, lo) H locs ls _ h hP hD hS dX4_help_34
    · have h := br1 h c6
      refine lv_iconst (v := -1) hx hb dX4_help_19 (by decide) ?_
      exact hret (-1) (mo, lo) H locs ls _ h hP hD hS dX4_help_20

def w_X4_swap (p1 : Int32) (p2 : Int32) (mo : S2) (lo : SL) (K : Int32 → S2 → SL → Prop) : Prop := w_X4_isFar p1 (fun r1 => br (r1 = 0) (K (-1) mo lo) (w_X4_isPart p2 (fun r4 => br (r4 = 0) (K (-1) mo lo) (w_X4_starts mo lo (fun mo7 lo8 => w_X4_ruinedBehind p1 mo7 lo8 (fun r12 mo10 lo11 => nm ((-4) : Int32) (fun x14 => lfp5 (fun G33 (i15 : Int32) (i16 : Int32) (i17 : Int32) (mo18 : S2) (lo19 : SL) => br ((mo18 0 3) ≤ i17) (br (i16 = (-4)) (K (-4) mo18 lo19) (br (p2 = 0) (K i16 mo18 lo19) (K i15 mo18 lo19))) (nm ((i17 + 1) : Int32) (fun x23 => lfp5 (fun G48 (i24 : Int32) (i25 : Int32) (i26 : Int32) (mo27 : S2) (lo28 : SL) => br ((mo27 0 3) ≤ i26) (nm (i17 + 1 : Int32) (fun x30 => G33 i24 i25 x30 mo27 lo28)) (w_X4_starts mo27 lo28 (fun mo31 lo32 => w_X4_of i17 (2 : Int32) mo31 lo32 (fun r36 mo34 lo35 => w_X4_of i26 (2 : Int32) mo34 lo35 (fun r40 mo38 lo39 => w_X4_becomesOf i17 (2 : Int32) r40 mo38 lo39 (fun mo42 lo43 => w_X4_becomesOf i26 (2 : Int32) r36 mo42 lo43 (fun mo45 lo46 => w_X4_ruinedBehind p1 mo45 lo46 (fun r50 mo48 lo49 => jn (fun (k52 : Int32) => jn (fun (k53 : Int32) => nm (i26 + 1 : Int32) (fun x54 => G48 k53 k52 x54 mo48 lo49)) (fun J133 => br (i24 ≤ r50) (J133 i24) (J133 r50))) (fun J119 => br (i24 ≤ r50) (J119 i25) (J119 ((10 * i17) + i26))))))))))) i15 i16 x23 mo18 lo19))) r12 x14 0 mo10 lo11)))))))
abbrev rm_X4_swap : Room := { frames := 6, cells := 0, slots := 0, locals := 131 }
set_option maxHeartbeats 4000000 in
set_option maxRecDepth 100000 in
theorem c_X4_swap (l : Launch) (D : va_G) (kc : Nat → ClassId) (a : Nat → Nat) (p1 : Int32) (p2 : Int32) (mo : S2) (lo : SL) (sz : Nat) (K : Int32 → S2 → SL → Prop) (h : w_X4_swap p1 p2 mo lo K) : MetI l yX4_swap wsX4_swap rm_X4_swap D kc (fun u : S2 × SL => cM kc a u.1 u.2) (mo, lo) [.ref (a 0), .int p1, .int p2] sz (fun r u => K r u.1 u.2) := by
  refine q_ei (code := cX4_swap) (maxL := 9) (by decide) rfl (Nat.le_of_ble_eq_true rfl) ?_
  intro p e s m args below meth c Q A hx hb hml hts hown hK hA hret ls hl hP hD hS
  have hown : s.vm.findClass RX4 = some m.cls := hown
  have hl : lv_has ls 9 [(0, .ref (a 0)), (1, .int p1), (2, .int p2)] := hl
  have hP : va_P D vwCl (cM kc a mo lo) s.heap := hP
  have hD : va_D A (cM kc a mo lo) := hD
  have hS : va_S A s.heap s.heap [] := hS
  obtain ⟨H, eH⟩ : ∃ z, z = s.heap := ⟨_, rfl⟩
  obtain ⟨locs, eL⟩ : ∃ z : List Loc, z = [] := ⟨_, rfl⟩
  have hP := q_heap hP eH
  have hS := q_heapS hS eH eL
  refine q_start eH eL ?_
  clear eH eL
  have hi4 : ∀ w ∈ u_ws RX4 TX4 29, w ∈ wsX4_swap := by decide +kernel
  unfold w_X4_swap at h
  refine lv_iload_n hx hb dX4_swap_0 rfl (lv_at hl 1 rfl) ?_
  refine q_cSi (As := [.int p1]) (rest := []) ⟨hx, hb, hml, hown, hts⟩ hK (c_X4_isFar l D kc p1 H.size _ h) (va_cwS 1 hts gX4_swap_X4_isFar rfl rfl rfl (by decide +kernel) ⟨Nat.le_of_ble_eq_true rfl, Nat.le_of_ble_eq_true rfl⟩) (cut_nil _) hP hD hS hA rfl hl.1 rfl (Nat.le_of_ble_eq_true rfl) dX4_swap_1 ⟨Nat.zero_le _, Nat.zero_le _⟩ (fun r1 _ H locs h hP hD hS => ?_)
  have hP : va_P D vwCl (cM kc a mo lo) H := hP
  have hD : va_D A (cM kc a mo lo) := hD
  refine lv_if_eq (tgt := 14) hx hb dX4_swap_4 (by decide) (fun c3 => ?_) (fun c3 => ?_)
  · have h := br1 h c3
    refine lv_iconst (v := -1) hx hb dX4_swap_14 (by decide) ?_
    exact hret (-1) (mo, lo) H locs ls _ h hP hD hS dX4_swap_15
  · have h := br2 h c3
    refine lv_iload_n hx hb dX4_swap_7 rfl (lv_at hl 2 rfl) ?_
    refine q_cSi (As := [.int p2]) (rest := []) ⟨hx, hb, hml, hown, hts⟩ hK (c_X4_isPart l D kc p2 H.size _ h) (va_cwS 1 hts gX4_swap_X4_isPart rfl rfl rfl (by decide +kernel) ⟨Nat.le_of_ble_eq_true rfl, Nat.le_of_ble_eq_true rfl⟩) (cut_nil _) hP hD hS hA rfl hl.1 rfl (Nat.le_of_ble_eq_true rfl) dX4_swap_8 ⟨Nat.zero_le _, Nat.zero_le _⟩ (fun r4 _ H locs h hP hD hS => ?_)
    have hP : va_P D vwCl (cM kc a mo lo) H := hP
    have hD : va_D A (cM kc a mo lo) := hD
    refine lv_if_ne (tgt := 16) hx hb dX4_swap_11 (by decide) (fun c6 => ?_) (fun c6 => ?_)
    · have h := br2 h c6
      refine lv_aload_n hx hb dX4_swap_16 rfl (lv_at hl 0 rfl) ?_
      refine q_cVv (As := []) (rest := []) ⟨hx, hb, hml, hown, hts⟩ hK (c_X4_starts l D kc a mo lo H.size _ h) (cwV 0 hts gX4_swap_X4_starts rfl rfl rfl (by decide +kernel) ⟨Nat.le_of_ble_eq_true rfl, Nat.le_of_ble_eq_true rfl⟩) (cut_same (fun u : S2 × SL => cM kc a u.1 u.2) (mo, lo)) hP hD hS hA 4 0 rfl rfl rfl hl.1 rfl (Nat.le_of_ble_eq_true rfl) dX4_swap_17 ⟨Nat.zero_le _, Nat.zero_le _⟩ (fun u9 H locs h hP hD hS => ?_)
      obtain ⟨mo7, lo8⟩ := u9
      have hP : va_P D vwCl (cM kc a mo7 lo8) H := hP
      have hD : va_D A (cM kc a mo7 lo8) := hD
      refine lv_aload_n hx hb dX4_swap_20 rfl (lv_at hl 0 rfl) ?_
      refine lv_iload_n hx hb dX4_swap_21 rfl (lv_at hl 1 rfl) ?_
      refine q_cVi (As := [.int p1]) (rest := []) ⟨hx, hb, hml, hown, hts⟩ hK (c_X4_ruinedBehind l D kc a p1 mo7 lo8 H.size _ h) (cwV 1 hts gX4_swap_X4_ruinedBehind rfl rfl rfl (by decide +kernel) ⟨Nat.le_of_ble_eq_true rfl, Nat.le_of_ble_eq_true rfl⟩) (cut_same (fun u : S2 × SL => cM kc a u.1 u.2) (mo7, lo8)) hP hD hS hA 4 0 rfl rfl rfl hl.1 rfl (Nat.le_of_ble_eq_true rfl) dX4_swap_22 ⟨Nat.zero_le _, Nat.zero_le _⟩ (fun r12 u13 H locs h hP hD hS => ?_)
      obtain ⟨mo10, lo11⟩ := u13
      have hP : va_P D vwCl (cM kc a mo10 lo11) H := hP
      have hD : va_D A (cM kc a mo10 lo11) := hD
      refine lv_istore_n (lv' := [(3, .int r12), (0, .ref (a 0)), (1, .int p1), (2, .int p2)]) hx hb dX4_swap_25 rfl hl (by decide) rfl (fun ls hl => ?_)
      refine lv_bipush (v := -4) hx hb dX4_swap_26 (by decide) ?_
      refine lv_topi (fun x14 ex14 => ?_)
      have h := nm_out h x14 ex14
      refine lv_istore (lv' := [(4, .int x14), (3, .int r12), (0, .ref (a 0)), (1, .int p1), (2, .int p2)]) hx hb dX4_swap_28 hl (by decide) rfl (fun ls hl => ?_)
      refine lv_iconst (v := 0) hx hb dX4_swap_30 (by decide) ?_
      refine lv_istore (lv' := [(5, .int 0), (4, .int x14), (3, .int r12), (0, .ref (a 0)), (1, .int p1), (2, .int p2)]) hx hb dX4_swap_31 hl (by decide) rfl (fun ls hl => ?_)
      refine h (fun (i15 : Int32) (i16 : Int32) (i17 : Int32) (mo18 : S2) (lo19 : SL) => ∀ (ls : Array Slot) (H : Heap) (locs : List Loc), lv_has ls 9 [(0, .ref (a 0)), (1, .int p1), (2, .int p2), (3, .int i15), (4, .int i16), (5, .int i17)] → va_P D vwCl (cM kc a mo18 lo19) H → va_D A (cM kc a mo18 lo19) → va_S A s.heap H locs → W p l e rm_X4_swap s m args below meth c H locs 0 0 Q (F0 m 33 ls [])) ?_ ls H locs (lv_sub hl [3, 4, 5, 2, 1, 0] rfl) hP hD hS
      intro i15 i16 i17 mo18 lo19 h ls H locs hl hP hD hS
      refine lv_iload hx hb dX4_swap_33 (lv_at hl 5 rfl) ?_
      refine lv_aload_n hx hb dX4_swap_35 rfl (lv_at hl 0 rfl) ?_
      refine va_get (D := D) (ci := 4) (v := .int (mo18 0 3)) (C := RX4) (T := TX4) (N := 29) hx hb hts hi4 hown hK.1 hP 0 rfl rfl 3 (by decide) (hts (.fieldLink RX4 67 "LastPennyModel" "people" "I") (by decide +kernel)) (fun _ h9 => h9) rfl dX4_swap_36 ?_
      refine lv_icmp_ge (tgt := 146) hx hb dX4_swap_39 (by decide) (fun c20 => ?_) (fun c20 => ?_)
      · have h := br1 h c20
        refine lv_iload hx hb dX4_swap_146 (lv_at hl 4 rfl) ?_
        refine lv_bipush (v := -4) hx hb dX4_swap_148 (by decide) ?_
        refine lv_icmp_ne (tgt := 158) hx hb dX4_swap_150 (by decide) (fun c21 => ?_) (fun c21 => ?_)
        · have h := br2 h c21
          refine lv_iload_n hx hb dX4_swap_158 rfl (lv_at hl 2 rfl) ?_
          refine lv_if_ne (tgt := 167) hx hb dX4_swap_159 (by decide) (fun c22 => ?_) (fun c22 => ?_)
          · have h := br2 h c22
            refine lv_iload_n hx hb dX4_swap_167 rfl (lv_at hl 3 rfl) ?_
            exact hret i15 (mo18, lo19) H locs ls _ h hP hD hS dX4_swap_168
          · have h := br1 h c22
            refine lv_iload hx hb dX4_swap_162 (lv_at hl 4 rfl) ?_
            refine lv_goto (tgt := 168) hx hb dX4_swap_164 (by decide) ?_
            exact hret i16 (mo18, lo19) H locs ls _ h hP hD hS dX4_swap_168
        · have h := br1 h c21
          refine lv_bipush (v := -4) hx hb dX4_swap_153 (by decide) ?_
          refine lv_goto (tgt := 168) hx hb dX4_swap_155 (by decide) ?_
          exact hret (-4) (mo18, lo19) H locs ls _ h hP hD hS dX4_swap_168
      · have h := br2 h c20
        refine lv_iload hx hb dX4_swap_42 (lv_at hl 5 rfl) ?_
        refine lv_iconst (v := 1) hx hb dX4_swap_44 (by decide) ?_
        refine lv_iadd hx hb dX4_swap_45 ?_
        refine lv_topi (fun x23 ex23 => ?_)
        have h := nm_out h x23 ex23
        refine lv_istore (lv' := [(6, .int x23), (0, .ref (a 0)), (1, .int p1), (2, .int p2), (3, .int i15), (4, .int i16), (5, .int i17)]) hx hb dX4_swap_46 hl (by decide) rfl (fun ls hl => ?_)
        refine h (fun (i24 : Int32) (i25 : Int32) (i26 : Int32) (mo27 : S2) (lo28 : SL) => ∀ (ls : Array Slot) (H : Heap) (locs : List Loc), lv_has ls 9 [(0, .ref (a 0)), (1, .int p1), (2, .int p2), (3, .int i24), (4, .int i25), (5, .int i17), (6, .int i26)] → va_P D vwCl (cM kc a mo27 lo28) H → va_D A (cM kc a mo27 lo28) → va_S A s.heap H locs → W p l e rm_X4_swap s m args below meth c H locs 0 0 Q (F0 m 48 ls [])) ?_ ls H locs (lv_sub hl [1, 2, 3, 4, 5, 6, 0] rfl) hP hD hS
        intro i24 i25 i26 mo27 lo28 h ls H locs hl hP hD hS
        refine lv_iload hx hb dX4_swap_48 (lv_at hl 6 rfl) ?_
        refine lv_aload_n hx hb dX4_swap_50 rfl (lv_at hl 0 rfl) ?_
        refine va_get (D := D) (ci := 4) (v := .int (mo27 0 3)) (C := RX4) (T := TX4) (N := 29) hx hb hts hi4 hown hK.1 hP 0 rfl rfl 3 (by decide) (hts (.fieldLink RX4 67 "LastPennyModel" "people" "I") (by decide +kernel)) (fun _ h9 => h9) rfl dX4_swap_51 ?_
        refine lv_icmp_ge (tgt := 140) hx hb dX4_swap_54 (by decide) (fun c29 => ?_) (fun c29 => ?_)
        · have h := br1 h c29
          obtain ⟨x30, ex30⟩ : ∃ z : Int32, z = i17 + 1 := ⟨_, rfl⟩
          have h := nm_out h x30 ex30
          refine lv_iinc (v := x30) (lv' := [(5, .int x30), (0, .ref (a 0)), (1, .int p1), (2, .int p2), (3, .int i24), (4, .int i25), (6, .int i26)]) hx hb dX4_swap_140 hl (k := 5) rfl (by rw [ex30]; rfl) (by decide) rfl (fun ls hl => ?_)
          refine lv_goto (tgt := 33) hx hb dX4_swap_143 (by decide) ?_
          exact h ls H locs (lv_sub hl [1, 2, 3, 4, 5, 0] rfl) hP hD hS
        · have h := br2 h c29
          refine lv_aload_n hx hb dX4_swap_57 rfl (lv_at hl 0 rfl) ?_
          refine q_cVv (As := []) (rest := []) ⟨hx, hb, hml, hown, hts⟩ hK (c_X4_starts l D kc a mo27 lo28 H.size _ h) (cwV 0 hts gX4_swap_X4_starts rfl rfl rfl (by decide +kernel) ⟨Nat.le_of_ble_eq_true rfl, Nat.le_of_ble_eq_true rfl⟩) (cut_same (fun u : S2 × SL => cM kc a u.1 u.2) (mo27, lo28)) hP hD hS hA 4 0 rfl rfl rfl hl.1 rfl (Nat.le_of_ble_eq_true rfl) dX4_swap_58 ⟨Nat.zero_le _, Nat.zero_le _⟩ (fun u33 H locs h hP hD hS => ?_)
          obtain ⟨mo31, lo32⟩ := u33
          have hP : va_P D vwCl (cM kc a mo31 lo32) H := hP
          have hD : va_D A (cM kc a mo31 lo32) := hD
          refine lv_aload_n hx hb dX4_swap_61 rfl (lv_at hl 0 rfl) ?_
          refine lv_iload hx hb dX4_swap_62 (lv_at hl 5 rfl) ?_
          refine lv_iconst (v := 2) hx hb dX4_swap_64 (by decide) ?_
          refine q_cVi (As := [.int i17, .int 2]) (rest := []) ⟨hx, hb, hml, hown, hts⟩ hK (c_X4_of l D kc a i17 (2 : Int32) mo31 lo32 H.size _ h) (cwV 2 hts gX4_swap_X4_of rfl rfl rfl (by decide +kernel) ⟨Nat.le_of_ble_eq_true rfl, Nat.le_of_ble_eq_true rfl⟩) (cut_same (fun u : S2 × SL => cM kc a u.1 u.2) (mo31, lo32)) hP hD hS hA 4 0 rfl rfl rfl hl.1 rfl (Nat.le_of_ble_eq_true rfl) dX4_swap_65 ⟨Nat.zero_le _, Nat.zero_le _⟩ (fun r36 u37 H locs h hP hD hS => ?_)
          obtain ⟨mo34, lo35⟩ := u37
          have hP : va_P D vwCl (cM kc a mo34 lo35) H := hP
          have hD : va_D A (cM kc a mo34 lo35) := hD
          refine lv_istore (lv' := [(7, .int r36), (0, .ref (a 0)), (1, .int p1), (2, .int p2), (3, .int i24), (4, .int i25), (5, .int i17), (6, .int i26)]) hx hb dX4_swap_68 hl (by decide) rfl (fun ls hl => ?_)
          refine lv_aload_n hx hb dX4_swap_70 rfl (lv_at hl 1 rfl) ?_
          refine lv_iload hx hb dX4_swap_71 (lv_at hl 6 rfl) ?_
          refine lv_iconst (v := 2) hx hb dX4_swap_73 (by decide) ?_
          refine lv_aload_n hx hb dX4_swap_74 rfl (lv_at hl 1 rfl) ?_
          refine lv_iload hx hb dX4_swap_75 (lv_at hl 7 rfl) ?_
          refine lv_iconst (v := 2) hx hb dX4_swap_77 (by decide) ?_
          refine q_cVi (As := [.int i26, .int 2]) (rest := [.int 2, .int i17, .ref (a 0)]) ⟨hx, hb, hml, hown, hts⟩ hK (c_X4_of l D kc a i26 (2 : Int32) mo34 lo35 H.size _ h) (cwV 2 hts gX4_swap_X4_of rfl rfl rfl (by decide +kernel) ⟨Nat.le_of_ble_eq_true rfl, Nat.le_of_ble_eq_true rfl⟩) (cut_same (fun u : S2 × SL => cM kc a u.1 u.2) (mo34, lo35)) hP hD hS hA 4 0 rfl rfl rfl hl.1 rfl (Nat.le_of_ble_eq_true rfl) dX4_swap_78 ⟨Nat.zero_le _, Nat.zero_le _⟩ (fun r40 u41 H locs h hP hD hS => ?_)
          obtain ⟨mo38, lo39⟩ := u41
          have hP : va_P D vwCl (cM kc a mo38 lo39) H := hP
          have hD : va_D A (cM kc a mo38 lo39) := hD
          refine q_cVv (As := [.int i17, .int 2, .int r40]) (rest := []) ⟨hx, hb, hml, hown, hts⟩ hK (c_X4_becomesOf l D kc a i17 (2 : Int32) r40 mo38 lo39 H.size _ h) (cwV 3 hts gX4_swap_X4_becomesOf rfl rfl rfl (by decide +kernel) ⟨Nat.le_of_ble_eq_true rfl, Nat.le_of_ble_eq_true rfl⟩) (cut_same (fun u : S2 × SL => cM kc a u.1 u.2) (mo38, lo39)) hP hD hS hA 4 0 rfl rfl rfl hl.1 rfl (Nat.le_of_ble_eq_true rfl) dX4_swap_81 ⟨Nat.zero_le _, Nat.zero_le _⟩ (fun u44 H locs h hP hD hS => ?_)
          obtain ⟨mo42, lo43⟩ := u44
          have hP : va_P D vwCl (cM kc a mo42 lo43) H := hP
          have hD : va_D A (cM kc a mo42 lo43) := hD
          refine lv_aload_n hx hb dX4_swap_84 rfl (lv_at hl 1 rfl) ?_
          refine lv_iload hx hb dX4_swap_85 (lv_at hl 7 rfl) ?_
          refine lv_iconst (v := 2) hx hb dX4_swap_87 (by decide) ?_
          refine lv_iload hx hb dX4_swap_88 (lv_at hl 0 rfl) ?_
          refine q_cVv (As := [.int i26, .int 2, .int r36]) (rest := []) ⟨hx, hb, hml, hown, hts⟩ hK (c_X4_becomesOf l D kc a i26 (2 : Int32) r36 mo42 lo43 H.size _ h) (cwV 3 hts gX4_swap_X4_becomesOf rfl rfl rfl (by decide +kernel) ⟨Nat.le_of_ble_eq_true rfl, Nat.le_of_ble_eq_true rfl⟩) (cut_same (fun u : S2 × SL => cM kc a u.1 u.2) (mo42, lo43)) hP hD hS hA 4 0 rfl rfl rfl hl.1 rfl (Nat.le_of_ble_eq_true rfl) dX4_swap_90 ⟨Nat.zero_le _, Nat.zero_le _⟩ (fun u47 H locs h hP hD hS => ?_)
          obtain ⟨mo45, lo46⟩ := u47
          have hP : va_P D vwCl (cM kc a mo45 lo46) H := hP
          have hD : va_D A (cM kc a mo45 lo46) := hD
          refine lv_aload_n hx hb dX4_swap_93 rfl (lv_at hl 1 rfl) ?_
          refine lv_iload_n hx hb dX4_swap_94 rfl (lv_at hl 2 rfl) ?_
          refine q_cVi (As := [.int p1]) (rest := []) ⟨hx, hb, hml, hown, hts⟩ hK (c_X4_ruinedBehind l D kc a p1 mo45 lo46 H.size _ h) (cwV 1 hts gX4_swap_X4_ruinedBehind rfl rfl rfl (by decide +kernel) ⟨Nat.le_of_ble_eq_true rfl, Nat.le_of_ble_eq_true rfl⟩) (cut_same (fun u : S2 × SL => cM kc a u.1 u.2) (mo45, lo46)) hP hD hS hA 4 0 rfl rfl rfl hl.1 rfl (Nat.le_of_ble_eq_true rfl) dX4_swap_95 ⟨Nat.zero_le _, Nat.zero_le _⟩ (fun r50 u51 H locs h hP hD hS => ?_)
          obtain ⟨mo48, lo49⟩ := u51
          have hP : va_P D vwCl (cM kc a mo48 lo49) H := hP
          have hD : va_D A (cM kc a mo48 lo49) := hD
          refine lv_istore (lv' := [(8, .int r50), (7, .int r36), (0, .ref (a 0)), (1, .int p1), (2, .int p2), (3, .int i24), (4, .int i25), (5, .int i17), (6, .int i26)]) hx hb dX4_swap_98 hl (by decide) rfl (fun ls hl => ?_)
          refine lv_iload hx hb dX4_swap_100 (lv_at hl 0 rfl) ?_
          refine lv_iload_n hx hb dX4_swap_102 rfl (lv_at hl 5 rfl) ?_
          refine jn_elim h (fun J119 eJ119 h => ?_)
          have hJ_119 : ∀ (k52 : Int32) (ls : Array Slot), J119 k52 → lv_has ls 9 [(0, .ref (a 0)), (1, .int p1), (2, .int p2), (3, .int i24), (5, .int i17), (6, .int i26), (8, .int r50)] → W p l e rm_X4_swap s m args below meth c H locs 0 0 Q (F0 m 119 ls [.int k52]) := by
            intro k52 ls h hl
            subst eJ119
            refine lv_istore (lv' := [(4, .int k52), (0, .ref (a 0)), (1, .int p1), (2, .int p2), (3, .int i24), (5, .int i17), (6, .int i26), (8, .int r50)]) hx hb dX4_swap_119 hl (by decide) rfl (fun ls hl => ?_)
            refine lv_iload hx hb dX4_swap_121 (lv_at hl 7 rfl) ?_
            refine lv_iload_n hx hb dX4_swap_123 rfl (lv_at hl 4 rfl) ?_
            refine jn_elim h (fun J133 eJ133 h => ?_)
            have hJ_133 : ∀ (k53 : Int32) (ls : Array Slot), J133 k53 → lv_has ls 9 [(0, .ref (a 0)), (1, .int p1), (2, .int p2), (4, .int k52), (5, .int i17), (6, .int i26)] → W p l e rm_X4_swap s m args below meth c H locs 0 0 Q (F0 m 133 ls [.int k53]) := by
              intro k53 ls h hl
              subst eJ133
              refine lv_istore_n (lv' := [(3, .int k53), (0, .ref (a 0)), (1, .int p1), (2, .int p2), (4, .int k52), (5, .int i17), (6, .int i26)]) hx hb dX4_swap_133 rfl hl (by decide) rfl (fun ls hl => ?_)
              obtain ⟨x54, ex54⟩ : ∃ z : Int32, z = i26 + 1 := ⟨_, rfl⟩
              have h := nm_out h x54 ex54
              refine lv_iinc (v := x54) (lv' := [(6, .int x54), (3, .int k53), (0, .ref (a 0)), (1, .int p1), (2, .int p2), (4, .int k52), (5, .int i17)]) hx hb dX4_swap_134 hl (k := 6) rfl (by rw [ex54]; rfl) (by decide) rfl (fun ls hl => ?_)
              refine lv_goto (tgt := 48) hx hb dX4_swap_137 (by decide) ?_
              exact h ls H locs (lv_sub hl [2, 3, 4, 1, 5, 6, 0] rfl) hP hD hS
            refine lv_icmp_ge (tgt := 132) hx hb dX4_swap_124 (by decide) (fun c55 => ?_) (fun c55 => ?_)
            · have h := br1 h c55
              refine lv_iload_n hx hb dX4_swap_132 rfl (lv_at hl 4 rfl) ?_
              exact hJ_133 i24 ls h (lv_sub hl [1, 2, 3, 0, 5, 6] rfl)
            · have h := br2 h c55
              refine lv_iload hx hb dX4_swap_127 (lv_at hl 7 rfl) ?_
              refine lv_goto (tgt := 133) hx hb dX4_swap_129 (by decide) ?_
              exact hJ_133 r50 ls h (lv_sub hl [1, 2, 3, 0, 5, 6] rfl)
          refine lv_icmp_ge (tgt := 117) hx hb dX4_swap_103 (by decide) (fun c56 => ?_) (fun c56 => ?_)
          · have h := br1 h c56
            refine lv_iload hx hb dX4_swap_117 (lv_at hl 6 rfl) ?_
            exact hJ_119 i25 ls h (lv_sub hl [2, 3, 4, 5, 7, 8, 0] rfl)
          · have h := br2 h c56
            refine lv_bipush (v := 10) hx hb dX4_swap_106 (by decide) ?_
            refine lv_iload hx hb dX4_swap_108 (lv_at hl 7 rfl) ?_
            refine lv_imul hx hb dX4_swap_110 ?_
            refine lv_iload hx hb dX4_swap_111 (lv_at hl 8 rfl) ?_
            refine lv_iadd hx hb dX4_swap_113 ?_
            refine lv_goto (tgt := 119) hx hb dX4_swap_114 (by decide) ?_
            exact hJ_119 ((10 * i17) + i26) ls h (lv_sub hl [2, 3, 4, 5, 7, 8, 0] rfl)
    · have h := br1 h c6
      refine lv_iconst (v := -1) hx hb dX4_swap_14 (by decide) ?_
      exact hret (-1) (mo, lo) H locs ls _ h hP hD hS dX4_swap_15

def w_X4_findOdds (p1 : Int32) (p2 : Int32) (p3 : Int32) (mo : S2) (lo : SL) (K : S2 → SL → Prop) : Prop := nm ((va_up lo 19 0) : SL) (fun lo1 => nm ((va_up lo1 20 0) : SL) (fun lo2 => nm ((va_up lo2 21 1) : SL) (fun lo3 => lfp3 (fun G18 (i4 : Int32) (mo5 : S2) (lo6 : SL) => br (p3 ≤ i4) (lfp3 (fun G45 (i8 : Int32) (mo9 : S2) (lo10 : SL) => br ((1 <<< (p3 &&& 31)) ≤ i8) (K mo9 lo10) (w_X4_starts mo9 lo10 (fun mo12 lo13 => lfp4 (fun G63 (i15 : Int64) (i16 : Int32) (mo17 : S2) (lo18 : SL) => br (p3 ≤ i16) (jn (fun (k20 : Int64) => nm ((va_up lo18 19 ((lo18 19) + k20)) : SL) (fun lo21 => w_X4_of p2 (1 : Int32) mo17 lo21 (fun r24 mo22 lo23 => nm ((va_up lo23 20 ((lo21 20) + (i15 * (r24.toInt64)))) : SL) (fun lo26 => nm (i8 + 1 : Int32) (fun x27 => G45 x27 mo22 lo26))))) (fun J163 => br ((mo17 2 (22 : Int32).toNatClampNeg) = p2) (J163 i15) (J163 0))) (jn (fun (k29 : Int32) => jn (fun (k30 : Int64) => nm ((i15 * k30) : Int64) (fun x31 => jn (fun (k32 : Int32) => nm ((va_up mo17 2 (upd (mo17 2) (21 : Int32).toNatClampNeg k32)) : S2) (fun mo33 => w_X4_quarterGoes mo33 lo18 (fun mo34 lo35 => nm (i16 + 1 : Int32) (fun x37 => G63 x31 x37 mo34 lo35)))) (fun J130 => br (k29 = 0) (J130 (mo17 1 (21 : Int32).toNatClampNeg)) (J130 9)))) (fun J104 => br (k29 = 0) (J104 ((10 - p1).toInt64)) (J104 (p1.toInt64)))) (fun J85 => br (((i8 >>> (i16 &&& 31)) &&& 1) = 1) (J85 1) (J85 0)))) 1 0 mo12 lo13))) 0 mo5 lo6) (nm ((va_up lo6 21 ((lo6 21) * 10)) : SL) (fun lo41 => nm (i4 + 1 : Int32) (fun x42 => G18 x42 mo5 lo41)))) 0 mo lo3)))
abbrev rm_X4_findOdds : Room := { frames := 4, cells := 0, slots := 0, locals := 88 }
set_option maxHeartbeats 4000000 in
set_option maxRecDepth 100000 in
theorem c_X4_findOdds (l : Launch) (D : va_G) (kc : Nat → ClassId) (a : Nat → Nat) (p1 : Int32) (p2 : Int32) (p3 : Int32) (mo : S2) (lo : SL) (sz : Nat) (K : S2 → SL → Prop) (h : w_X4_findOdds p1 p2 p3 mo lo K) : MetV l yX4_findOdds wsX4_findOdds rm_X4_findOdds D kc (fun u : S2 × SL => cM kc a u.1 u.2) (mo, lo) [.ref (a 0), .int p1, .int p2, .int p3] sz (fun u => K u.1 u.2) := by
  refine q_ev (code := cX4_findOdds) (maxL := 9) (by decide) rfl (Nat.le_of_ble_eq_true rfl) ?_
  intro p e s m args below meth c Q A hx hb hml hts hown hK hA hret ls hl hP hD hS
  have hown : s.vm.findClass RX4 = some m.cls := hown
  have hl : lv_has ls 9 [(0, .ref (a 0)), (1, .int p1), (2, .int p2), (3, .int p3)] := hl
  have hP : va_P D vwCl (cM kc a mo lo) s.heap := hP
  have hD : va_D A (cM kc a mo lo) := hD
  have hS : va_S A s.heap s.heap [] := hS
  obtain ⟨H, eH⟩ : ∃ z, z = s.heap := ⟨_, rfl⟩
  obtain ⟨locs, eL⟩ : ∃ z : List Loc, z = [] := ⟨_, rfl⟩
  have hP := q_heap hP eH
  have hS := q_heapS hS eH eL
  refine q_start eH eL ?_
  clear eH eL
  have hi4 : ∀ w ∈ u_ws RX4 TX4 29, w ∈ wsX4_findOdds := by decide +kernel
  unfold w_X4_findOdds at h
  refine lv_aload_n hx hb dX4_findOdds_0 rfl (lv_at hl 0 rfl) ?_
  refine lv_lconst (v := 0) hx hb dX4_findOdds_1 (by decide) ?_
  refine va_put (D := D) (ci := 4) (v := .long 0) (ty := .long) (C := RX4) (T := TX4) (N := 29) hx hb hts hi4 tyX4 tyX4_ok nmX4 hown hK.1 hP hD hS 0 rfl rfl 19 (by decide) (hts (.fieldLink RX4 247 "LastPennyModel" "coinSum" "J") (by decide +kernel)) (fun _ h9 => h9) rfl (by decide +kernel) rfl rfl (Nat.le_of_ble_eq_true rfl) dX4_findOdds_2 (fun H locs hP hD hS => ?_)
  obtain ⟨lo1, elo1⟩ : ∃ z, z = (va_up lo 19 0) := ⟨_, rfl⟩
  have h := nm_out h lo1 elo1
  have hP : va_P D vwCl (cM kc a mo lo1) H := q_to hP (by subst elo1; rfl)
  have hD : va_D A (cM kc a mo lo1) := q_toD hD (by subst elo1; rfl)
  refine lv_aload_n hx hb dX4_findOdds_5 rfl (lv_at hl 0 rfl) ?_
  refine lv_lconst (v := 0) hx hb dX4_findOdds_6 (by decide) ?_
  refine va_put (D := D) (ci := 4) (v := .long 0) (ty := .long) (C := RX4) (T := TX4) (N := 29) hx hb hts hi4 tyX4 tyX4_ok nmX4 hown hK.1 hP hD hS 0 rfl rfl 20 (by decide) (hts (.fieldLink RX4 251 "LastPennyModel" "meansSum" "J") (by decide +kernel)) (fun _ h9 => h9) rfl (by decide +kernel) rfl rfl (Nat.le_of_ble_eq_true rfl) dX4_findOdds_7 (fun H locs hP hD hS => ?_)
  obtain ⟨lo2, elo2⟩ : ∃ z, z = (va_up lo1 20 0) := ⟨_, rfl⟩
  have h := nm_out h lo2 elo2
  have hP : va_P D vwCl (cM kc a mo lo2) H := q_to hP (by subst elo2; rfl)
  have hD : va_D A (cM kc a mo lo2) := q_toD hD (by subst elo2; rfl)
  refine lv_aload_n hx hb dX4_findOdds_10 rfl (lv_at hl 0 rfl) ?_
  refine lv_lconst (v := 1) hx hb dX4_findOdds_11 (by decide) ?_
  refine va_put (D := D) (ci := 4) (v := .long 1) (ty := .long) (C := RX4) (T := TX4) (N := 29) hx hb hts hi4 tyX4 tyX4_ok nmX4 hown hK.1 hP hD hS 0 rfl rfl 21 (by decide) (hts (.fieldLink RX4 254 "LastPennyModel" "allWays" "J") (by decide +kernel)) (fun _ h9 => h9) rfl (by decide +kernel) rfl rfl (Nat.le_of_ble_eq_true rfl) dX4_findOdds_12 (fun H locs hP hD hS => ?_)
  obtain ⟨lo3, elo3⟩ : ∃ z, z = (va_up lo2 21 1) := ⟨_, rfl⟩
  have h := nm_out h lo3 elo3
  have hP : va_P D vwCl (cM kc a mo lo3) H := q_to hP (by subst elo3; rfl)
  have hD : va_D A (cM kc a mo lo3) := q_toD hD (by subst elo3; rfl)
  refine lv_iconst (v := 0) hx hb dX4_findOdds_15 (by decide) ?_
  refine lv_istore (lv' := [(4, .int 0), (0, .ref (a 0)), (1, .int p1), (2, .int p2), (3, .int p3)]) hx hb dX4_findOdds_16 hl (by decide) rfl (fun ls hl => ?_)
  refine h (fun (i4 : Int32) (mo5 : S2) (lo6 : SL) => ∀ (ls : Array Slot) (H : Heap) (locs : List Loc), lv_has ls 9 [(0, .ref (a 0)), (1, .int p1), (2, .int p2), (3, .int p3), (4, .int i4)] → va_P D vwCl (cM kc a mo5 lo6) H → va_D A (cM kc a mo5 lo6) → va_S A s.heap H locs → W p l e rm_X4_findOdds s m args below meth c H locs 0 0 Q (F0 m 18 ls [])) ?_ ls H locs (lv_sub hl [1, 2, 3, 4, 0] rfl) hP hD hS
  intro i4 mo5 lo6 h ls H locs hl hP hD hS
  refine lv_iload hx hb dX4_findOdds_18 (lv_at hl 4 rfl) ?_
  refine lv_iload_n hx hb dX4_findOdds_20 rfl (lv_at hl 3 rfl) ?_
  refine lv_icmp_ge (tgt := 42) hx hb dX4_findOdds_21 (by decide) (fun c7 => ?_) (fun c7 => ?_)
  · have h := br1 h c7
    refine lv_iconst (v := 0) hx hb dX4_findOdds_42 (by decide) ?_
    refine lv_istore (lv' := [(4, .int 0), (0, .ref (a 0)), (1, .int p1), (2, .int p2), (3, .int p3)]) hx hb dX4_findOdds_43 hl (by decide) rfl (fun ls hl => ?_)
    refine h (fun (i8 : Int32) (mo9 : S2) (lo10 : SL) => ∀ (ls : Array Slot) (H : Heap) (locs : List Loc), lv_has ls 9 [(0, .ref (a 0)), (1, .int p1), (2, .int p2), (3, .int p3), (4, .int i8)] → va_P D vwCl (cM kc a mo9 lo10) H → va_D A (cM kc a mo9 lo10) → va_S A s.heap H locs → W p l e rm_X4_findOdds s m args below meth c H locs 0 0 Q (F0 m 45 ls [])) ?_ ls H locs (lv_sub hl [1, 2, 3, 4, 0] rfl) hP hD hS
    intro i8 mo9 lo10 h ls H locs hl hP hD hS
    refine lv_iload hx hb dX4_findOdds_45 (lv_at hl 4 rfl) ?_
    refine lv_iconst (v := 1) hx hb dX4_findOdds_47 (by decide) ?_
    refine lv_iload_n hx hb dX4_findOdds_48 rfl (lv_at hl 3 rfl) ?_
    refine lv_ishl hx hb dX4_findOdds_49 ?_
    refine lv_icmp_ge (tgt := 192) hx hb dX4_findOdds_50 (by decide) (fun c11 => ?_) (fun c11 => ?_)
    · have h := br1 h c11
      exact hret (mo9, lo10) H locs ls _ h hP hD hS dX4_findOdds_192
    · have h := br2 h c11
      refine lv_lconst (v := 1) hx hb dX4_findOdds_53 (by decide) ?_
      refine lv_lstore (lv' := [(5, .long 1), (0, .ref (a 0)), (1, .int p1), (2, .int p2), (3, .int p3), (4, .int i8)]) hx hb dX4_findOdds_54 hl (by decide) rfl (fun ls hl => ?_)
      refine lv_aload_n hx hb dX4_findOdds_56 rfl (lv_at hl 1 rfl) ?_
      refine q_cVv (As := []) (rest := []) ⟨hx, hb, hml, hown, hts⟩ hK (c_X4_starts l D kc a mo9 lo10 H.size _ h) (cwV 0 hts gX4_findOdds_X4_starts rfl rfl rfl (by decide +kernel) ⟨Nat.le_of_ble_eq_true rfl, Nat.le_of_ble_eq_true rfl⟩) (cut_same (fun u : S2 × SL => cM kc a u.1 u.2) (mo9, lo10)) hP hD hS hA 4 0 rfl rfl rfl hl.1 rfl (Nat.le_of_ble_eq_true rfl) dX4_findOdds_57 ⟨Nat.zero_le _, Nat.zero_le _⟩ (fun u14 H locs h hP hD hS => ?_)
      obtain ⟨mo12, lo13⟩ := u14
      have hP : va_P D vwCl (cM kc a mo12 lo13) H := hP
      have hD : va_D A (cM kc a mo12 lo13) := hD
      refine lv_iconst (v := 0) hx hb dX4_findOdds_60 (by decide) ?_
      refine lv_istore (lv' := [(7, .int 0), (5, .long 1), (0, .ref (a 0)), (1, .int p1), (2, .int p2), (3, .int p3), (4, .int i8)]) hx hb dX4_findOdds_61 hl (by decide) rfl (fun ls hl => ?_)
      refine h (fun (i15 : Int64) (i16 : Int32) (mo17 : S2) (lo18 : SL) => ∀ (ls : Array Slot) (H : Heap) (locs : List Loc), lv_has ls 9 [(0, .ref (a 0)), (1, .int p1), (2, .int p2), (3, .int p3), (4, .int i8), (5, .long i15), (7, .int i16)] → va_P D vwCl (cM kc a mo17 lo18) H → va_D A (cM kc a mo17 lo18) → va_S A s.heap H locs → W p l e rm_X4_findOdds s m args below meth c H locs 0 0 Q (F0 m 63 ls [])) ?_ ls H locs (lv_sub hl [2, 3, 4, 5, 6, 1, 0] rfl) hP hD hS
      intro i15 i16 mo17 lo18 h ls H locs hl hP hD hS
      refine lv_iload hx hb dX4_findOdds_63 (lv_at hl 6 rfl) ?_
      refine lv_iload_n hx hb dX4_findOdds_65 rfl (lv_at hl 3 rfl) ?_
      refine lv_icmp_ge (tgt := 141) hx hb dX4_findOdds_66 (by decide) (fun c19 => ?_) (fun c19 => ?_)
      · have h := br1 h c19
        refine lv_aload_n hx hb dX4_findOdds_141 rfl (lv_at hl 0 rfl) ?_
        refine lv_dup hx hb dX4_findOdds_142 rfl ?_
        refine va_get (D := D) (ci := 4) (v := .long (lo18 19)) (C := RX4) (T := TX4) (N := 29) hx hb hts hi4 hown hK.1 hP 0 rfl rfl 19 (by decide) (hts (.fieldLink RX4 247 "LastPennyModel" "coinSum" "J") (by decide +kernel)) (fun _ h9 => h9) rfl dX4_findOdds_143 ?_
        refine lv_aload_n hx hb dX4_findOdds_146 rfl (lv_at hl 0 rfl) ?_
        refine va_get (D := D) (ci := 4) (v := .ref (a 2)) (C := RX4) (T := TX4) (N := 29) hx hb hts hi4 hown hK.1 hP 0 rfl rfl 1 (by decide) (hts (.fieldLink RX4 13 "LastPennyModel" "now" "[I") (by decide +kernel)) (fun _ h9 => h9) rfl dX4_findOdds_147 ?_
        refine lv_bipush (v := 22) hx hb dX4_findOdds_150 (by decide) ?_
        refine va_iald hx hb hK.1 hP 2 0 rfl rfl (by unfold vp_in; decide) dX4_findOdds_152 ?_
        refine lv_iload_n hx hb dX4_findOdds_153 rfl (lv_at hl 2 rfl) ?_
        refine jn_elim h (fun J163 eJ163 h => ?_)
        have hJ_163 : ∀ (k20 : Int64) (ls : Array Slot), J163 k20 → lv_has ls 9 [(0, .ref (a 0)), (1, .int p1), (2, .int p2), (3, .int p3), (4, .int i8), (5, .long i15)] → W p l e rm_X4_findOdds s m args below meth c H locs 0 0 Q (F0 m 163 ls [.long k20, .long (lo18 19), .ref (a 0)]) := by
          intro k20 ls h hl
          subst eJ163
          refine lv_ladd hx hb dX4_findOdds_163 ?_
          refine va_put (D := D) (ci := 4) (v := .long ((lo18 19) + k20)) (ty := .long) (C := RX4) (T := TX4) (N := 29) hx hb hts hi4 tyX4 tyX4_ok nmX4 hown hK.1 hP hD hS 0 rfl rfl 19 (by decide) (hts (.fieldLink RX4 247 "LastPennyModel" "coinSum" "J") (by decide +kernel)) (fun _ h9 => h9) rfl (by decide +kernel) rfl rfl (Nat.le_of_ble_eq_true rfl) dX4_findOdds_164 (fun H locs hP hD hS => ?_)
          obtain ⟨lo21, elo21⟩ : ∃ z, z = (va_up lo18 19 ((lo18 19) + k20)) := ⟨_, rfl⟩
          have h := nm_out h lo21 elo21
          have hP : va_P D vwCl (cM kc a mo17 lo21) H := q_to hP (by subst elo21; rfl)
          have hD : va_D A (cM kc a mo17 lo21) := q_toD hD (by subst elo21; rfl)
          refine lv_aload_n hx hb dX4_findOdds_167 rfl (lv_at hl 0 rfl) ?_
          refine lv_dup hx hb dX4_findOdds_168 rfl ?_
          refine va_get (D := D) (ci := 4) (v := .long (lo21 20)) (C := RX4) (T := TX4) (N := 29) hx hb hts hi4 hown hK.1 hP 0 rfl rfl 20 (by decide) (hts (.fieldLink RX4 251 "LastPennyModel" "meansSum" "J") (by decide +kernel)) (fun _ h9 => h9) rfl dX4_findOdds_169 ?_
          refine lv_lload hx hb dX4_findOdds_172 (lv_at hl 5 rfl) ?_
          refine lv_aload_n hx hb dX4_findOdds_174 rfl (lv_at hl 0 rfl) ?_
          refine lv_iload_n hx hb dX4_findOdds_175 rfl (lv_at hl 2 rfl) ?_
          refine lv_iconst (v := 1) hx hb dX4_findOdds_176 (by decide) ?_
          refine q_cVi (As := [.int p2, .int 1]) (rest := [.long i15, .long (lo21 20), .ref (a 0)]) ⟨hx, hb, hml, hown, hts⟩ hK (c_X4_of l D kc a p2 (1 : Int32) mo17 lo21 H.size _ h) (cwV 2 hts gX4_findOdds_X4_of rfl rfl rfl (by decide +kernel) ⟨Nat.le_of_ble_eq_true rfl, Nat.le_of_ble_eq_true rfl⟩) (cut_same (fun u : S2 × SL => cM kc a u.1 u.2) (mo17, lo21)) hP hD hS hA 4 0 rfl rfl rfl hl.1 rfl (Nat.le_of_ble_eq_true rfl) dX4_findOdds_177 ⟨Nat.zero_le _, Nat.zero_le _⟩ (fun r24 u25 H locs h hP hD hS => ?_)
          obtain ⟨mo22, lo23⟩ := u25
          have hP : va_P D vwCl (cM kc a mo22 lo23) H := hP
          have hD : va_D A (cM kc a mo22 lo23) := hD
          refine lv_i2l hx hb dX4_findOdds_180 rfl ?_
          refine lv_lmul hx hb dX4_findOdds_181 ?_
          refine lv_ladd hx hb dX4_findOdds_182 ?_
          refine va_put (D := D) (ci := 4) (v := .long ((lo21 20) + (i15 * (r24.toInt64)))) (ty := .long) (C := RX4) (T := TX4) (N := 29) hx hb hts hi4 tyX4 tyX4_ok nmX4 hown hK.1 hP hD hS 0 rfl rfl 20 (by decide) (hts (.fieldLink RX4 251 "LastPennyModel" "meansSum" "J") (by decide +kernel)) (fun _ h9 => h9) rfl (by decide +kernel) rfl rfl (Nat.le_of_ble_eq_true rfl) dX4_findOdds_183 (fun H locs hP hD hS => ?_)
          obtain ⟨lo26, elo26⟩ : ∃ z, z = (va_up lo23 20 ((lo21 20) + (i15 * (r24.toInt64)))) := ⟨_, rfl⟩
          have h := nm_out h lo26 elo26
          have hP : va_P D vwCl (cM kc a mo22 lo26) H := q_to hP (by subst elo26; rfl)
          have hD : va_D A (cM kc a mo22 lo26) := q_toD hD (by subst elo26; rfl)
          obtain ⟨x27, ex27⟩ : ∃ z : Int32, z = i8 + 1 := ⟨_, rfl⟩
          have h := nm_out h x27 ex27
          refine lv_iinc (v := x27) (lv' := [(4, .int x27), (0, .ref (a 0)), (1, .int p1), (2, .int p2), (3, .int p3), (5, .long i15)]) hx hb dX4_findOdds_186 hl (k := 4) rfl (by rw [ex27]; rfl) (by decide) rfl (fun ls hl => ?_)
          refine lv_goto (tgt := 45) hx hb dX4_findOdds_189 (by decide) ?_
          exact h ls H locs (lv_sub hl [1, 2, 3, 4, 0] rfl) hP hD hS
        refine lv_icmp_ne (tgt := 162) hx hb dX4_findOdds_154 (by decide) (fun c28 => ?_) (fun c28 => ?_)
        · have h := br2 h c28
          refine lv_lconst (v := 0) hx hb dX4_findOdds_162 (by decide) ?_
          exact hJ_163 0 ls h (lv_sub hl [0, 1, 2, 3, 4, 5] rfl)
        · have h := br1 h c28
          refine lv_lload hx hb dX4_findOdds_157 (lv_at hl 5 rfl) ?_
          refine lv_goto (tgt := 163) hx hb dX4_findOdds_159 (by decide) ?_
          exact hJ_163 i15 ls h (lv_sub hl [0, 1, 2, 3, 4, 5] rfl)
      · have h := br2 h c19
        refine lv_iload hx hb dX4_findOdds_69 (lv_at hl 4 rfl) ?_
        refine lv_iload hx hb dX4_findOdds_71 (lv_at hl 6 rfl) ?_
        refine lv_ishr hx hb dX4_findOdds_73 ?_
        refine lv_iconst (v := 1) hx hb dX4_findOdds_74 (by decide) ?_
        refine lv_iand hx hb dX4_findOdds_75 ?_
        refine lv_iconst (v := 1) hx hb dX4_findOdds_76 (by decide) ?_
        refine jn_elim h (fun J85 eJ85 h => ?_)
        have hJ_85 : ∀ (k29 : Int32) (ls : Array Slot), J85 k29 → lv_has ls 9 [(0, .ref (a 0)), (1, .int p1), (2, .int p2), (3, .int p3), (4, .int i8), (5, .long i15), (7, .int i16)] → W p l e rm_X4_findOdds s m args below meth c H locs 0 0 Q (F0 m 85 ls [.int k29]) := by
          intro k29 ls h hl
          subst eJ85
          refine lv_istore (lv' := [(8, .int k29), (0, .ref (a 0)), (1, .int p1), (2, .int p2), (3, .int p3), (4, .int i8), (5, .long i15), (7, .int i16)]) hx hb dX4_findOdds_85 hl (by decide) rfl (fun ls hl => ?_)
          refine lv_lload hx hb dX4_findOdds_87 (lv_at hl 6 rfl) ?_
          refine lv_iload hx hb dX4_findOdds_89 (lv_at hl 0 rfl) ?_
          refine jn_elim h (fun J104 eJ104 h => ?_)
          have hJ_104 : ∀ (k30 : Int64) (ls : Array Slot), J104 k30 → lv_has ls 9 [(0, .ref (a 0)), (1, .int p1), (2, .int p2), (3, .int p3), (4, .int i8), (7, .int i16), (8, .int k29)] → W p l e rm_X4_findOdds s m args below meth c H locs 0 0 Q (F0 m 104 ls [.long k30, .long i15]) := by
            intro k30 ls h hl
            subst eJ104
            refine lv_lmul hx hb dX4_findOdds_104 ?_
            refine lv_topl (fun x31 ex31 => ?_)
            have h := nm_out h x31 ex31
            refine lv_lstore (lv' := [(5, .long x31), (0, .ref (a 0)), (1, .int p1), (2, .int p2), (3, .int p3), (4, .int i8), (7, .int i16), (8, .int k29)]) hx hb dX4_findOdds_105 hl (by decide) rfl (fun ls hl => ?_)
            refine lv_aload_n hx hb dX4_findOdds_107 rfl (lv_at hl 1 rfl) ?_
            refine va_get (D := D) (ci := 4) (v := .ref (a 2)) (C := RX4) (T := TX4) (N := 29) hx hb hts hi4 hown hK.1 hP 0 rfl rfl 1 (by decide) (hts (.fieldLink RX4 13 "LastPennyModel" "now" "[I") (by decide +kernel)) (fun _ h9 => h9) rfl dX4_findOdds_108 ?_
            refine lv_bipush (v := 21) hx hb dX4_findOdds_111 (by decide) ?_
            refine lv_iload hx hb dX4_findOdds_113 (lv_at hl 7 rfl) ?_
            refine jn_elim h (fun J130 eJ130 h => ?_)
            have hJ_130 : ∀ (k32 : Int32) (ls : Array Slot), J130 k32 → lv_has ls 9 [(0, .ref (a 0)), (1, .int p1), (2, .int p2), (3, .int p3), (4, .int i8), (5, .long x31), (7, .int i16)] → W p l e rm_X4_findOdds s m args below meth c H locs 0 0 Q (F0 m 130 ls [.int k32, .int 21, .ref (a 2)]) := by
              intro k32 ls h hl
              subst eJ130
              refine va_iast hx hb hK.1 hP hD hS 2 0 rfl rfl (by unfold vp_in; decide) dX4_findOdds_130 (fun H locs hP hD hS => ?_)
              obtain ⟨mo33, emo33⟩ : ∃ z, z = (va_up mo17 2 (upd (mo17 2) (21 : Int32).toNatClampNeg k32)) := ⟨_, rfl⟩
              have h := nm_out h mo33 emo33
              have hP : va_P D vwCl (cM kc a mo33 lo18) H := q_to hP (by subst emo33; rfl)
              have hD : va_D A (cM kc a mo33 lo18) := q_toD hD (by subst emo33; rfl)
              refine lv_aload_n hx hb dX4_findOdds_131 rfl (lv_at hl 0 rfl) ?_
              refine q_cVv (As := []) (rest := []) ⟨hx, hb, hml, hown, hts⟩ hK (c_X4_quarterGoes l D kc a mo33 lo18 H.size _ h) (cwV 0 hts gX4_findOdds_X4_quarterGoes rfl rfl rfl (by decide +kernel) ⟨Nat.le_of_ble_eq_true rfl, Nat.le_of_ble_eq_true rfl⟩) (cut_same (fun u : S2 × SL => cM kc a u.1 u.2) (mo33, lo18)) hP hD hS hA 4 0 rfl rfl rfl hl.1 rfl (Nat.le_of_ble_eq_true rfl) dX4_findOdds_132 ⟨Nat.zero_le _, Nat.zero_le _⟩ (fun u36 H locs h hP hD hS => ?_)
              obtain ⟨mo34, lo35⟩ := u36
              have hP : va_P D vwCl (cM kc a mo34 lo35) H := hP
              have hD : va_D A (cM kc a mo34 lo35) := hD
              obtain ⟨x37, ex37⟩ : ∃ z : Int32, z = i16 + 1 := ⟨_, rfl⟩
              have h := nm_out h x37 ex37
              refine lv_iinc (v := x37) (lv' := [(7, .int x37), (0, .ref (a 0)), (1, .int p1), (2, .int p2), (3, .int p3), (4, .int i8), (5, .long x31)]) hx hb dX4_findOdds_135 hl (k := 6) rfl (by rw [ex37]; rfl) (by decide) rfl (fun ls hl => ?_)
              refine lv_goto (tgt := 63) hx hb dX4_findOdds_138 (by decide) ?_
              exact h ls H locs (lv_sub hl [1, 2, 3, 4, 5, 6, 0] rfl) hP hD hS
            refine lv_if_eq (tgt := 123) hx hb dX4_findOdds_115 (by decide) (fun c38 => ?_) (fun c38 => ?_)
            · have h := br1 h c38
              refine lv_aload_n hx hb dX4_findOdds_123 rfl (lv_at hl 1 rfl) ?_
              refine va_get (D := D) (ci := 4) (v := .ref (a 1)) (C := RX4) (T := TX4) (N := 29) hx hb hts hi4 hown hK.1 hP 0 rfl rfl 0 (by decide) (hts (.fieldLink RX4 7 "LastPennyModel" "st" "[I") (by decide +kernel)) (fun _ h9 => h9) rfl dX4_findOdds_124 ?_
              refine lv_bipush (v := 21) hx hb dX4_findOdds_127 (by decide) ?_
              refine va_iald hx hb hK.1 hP 1 0 rfl rfl (by unfold vp_in; decide) dX4_findOdds_129 ?_
              exact hJ_130 (mo17 1 (21 : Int32).toNatClampNeg) ls h (lv_sub hl [1, 2, 3, 4, 5, 0, 6] rfl)
            · have h := br2 h c38
              refine lv_bipush (v := 9) hx hb dX4_findOdds_118 (by decide) ?_
              refine lv_goto (tgt := 130) hx hb dX4_findOdds_120 (by decide) ?_
              exact hJ_130 9 ls h (lv_sub hl [1, 2, 3, 4, 5, 0, 6] rfl)
          refine lv_if_eq (tgt := 99) hx hb dX4_findOdds_91 (by decide) (fun c39 => ?_) (fun c39 => ?_)
          · have h := br1 h c39
            refine lv_bipush (v := 10) hx hb dX4_findOdds_99 (by decide) ?_
            refine lv_iload_n hx hb dX4_findOdds_101 rfl (lv_at hl 2 rfl) ?_
            refine lv_isub hx hb dX4_findOdds_102 ?_
            refine lv_i2l hx hb dX4_findOdds_103 rfl ?_
            exact hJ_104 ((10 - p1).toInt64) ls h (lv_sub hl [1, 2, 3, 4, 5, 7, 0] rfl)
          · have h := br2 h c39
            refine lv_iload_n hx hb dX4_findOdds_94 rfl (lv_at hl 2 rfl) ?_
            refine lv_i2l hx hb dX4_findOdds_95 rfl ?_
            refine lv_goto (tgt := 104) hx hb dX4_findOdds_96 (by decide) ?_
            exact hJ_104 (p1.toInt64) ls h (lv_sub hl [1, 2, 3, 4, 5, 7, 0] rfl)
        refine lv_icmp_ne (tgt := 84) hx hb dX4_findOdds_77 (by decide) (fun c40 => ?_) (fun c40 => ?_)
        · have h := br2 h c40
          refine lv_iconst (v := 0) hx hb dX4_findOdds_84 (by decide) ?_
          exact hJ_85 0 ls h (lv_sub hl [0, 1, 2, 3, 4, 5, 6] rfl)
        · have h := br1 h c40
          refine lv_iconst (v := 1) hx hb dX4_findOdds_80 (by decide) ?_
          refine lv_goto (tgt := 85) hx hb dX4_findOdds_81 (by decide) ?_
          exact hJ_85 1 ls h (lv_sub hl [0, 1, 2, 3, 4, 5, 6] rfl)
  · have h := br2 h c7
    refine lv_aload_n hx hb dX4_findOdds_24 rfl (lv_at hl 0 rfl) ?_
    refine lv_dup hx hb dX4_findOdds_25 rfl ?_
    refine va_get (D := D) (ci := 4) (v := .long (lo6 21)) (C := RX4) (T := TX4) (N := 29) hx hb hts hi4 hown hK.1 hP 0 rfl rfl 21 (by decide) (hts (.fieldLink RX4 254 "LastPennyModel" "allWays" "J") (by decide +kernel)) (fun _ h9 => h9) rfl dX4_findOdds_26 ?_
    refine lv_ldc2 (v := 10) hx hb hown (hts (.constantLong RX4 257 (10)) (by decide +kernel)) dX4_findOdds_29 ?_
    refine lv_lmul hx hb dX4_findOdds_32 ?_
    refine va_put (D := D) (ci := 4) (v := .long ((lo6 21) * 10)) (ty := .long) (C := RX4) (T := TX4) (N := 29) hx hb hts hi4 tyX4 tyX4_ok nmX4 hown hK.1 hP hD hS 0 rfl rfl 21 (by decide) (hts (.fieldLink RX4 254 "LastPennyModel" "allWays" "J") (by decide +kernel)) (fun _ h9 => h9) rfl (by decide +kernel) rfl rfl (Nat.le_of_ble_eq_true rfl) dX4_findOdds_33 (fun H locs hP hD hS => ?_)
    obtain ⟨lo41, elo41⟩ : ∃ z, z = (va_up lo6 21 ((lo6 21) * 10)) := ⟨_, rfl⟩
    have h := nm_out h lo41 elo41
    have hP : va_P D vwCl (cM kc a mo5 lo41) H := q_to hP (by subst elo41; rfl)
    have hD : va_D A (cM kc a mo5 lo41) := q_toD hD (by subst elo41; rfl)
    obtain ⟨x42, ex42⟩ : ∃ z : Int32, z = i4 + 1 := ⟨_, rfl⟩
    have h := nm_out h x42 ex42
    refine lv_iinc (v := x42) (lv' := [(4, .int x42), (0, .ref (a 0)), (1, .int p1), (2, .int p2), (3, .int p3)]) hx hb dX4_findOdds_36 hl (k := 4) rfl (by rw [ex42]; rfl) (by decide) rfl (fun ls hl => ?_)
    refine lv_goto (tgt := 18) hx hb dX4_findOdds_39 (by decide) ?_
    exact h ls H locs (lv_sub hl [1, 2, 3, 4, 0] rfl) hP hD hS

