def w_X2_bringsTo (p1 : Int32) (w : S2) (K : Int32 → S2 → Prop) : Prop := w_X2_tradeBrings p1 w (fun r2 w1 => br (p1 = (w1 0 3)) (w_X2_coinBrings p1 w1 (fun r6 w5 => K (r2 + r6) w5)) (K (r2 + 0) w1))
abbrev rm_X2_bringsTo : Room := { frames := 2, cells := 0, slots := 0, locals := 44 }
set_option maxHeartbeats 4000000 in
set_option maxRecDepth 100000 in
theorem c_X2_bringsTo (l : Launch) (D : va_G) (kc : Nat → ClassId) (a : Nat → Nat) (p1 : Int32) (w : S2) (sz : Nat) (K : Int32 → S2 → Prop) (h : w_X2_bringsTo p1 w K) : MetI l yX2_bringsTo wsX2_bringsTo rm_X2_bringsTo D kc (fun u : S2 => cWl kc a u) w [.ref (a 0), .int p1] sz (fun r u => K r u) := by
  refine q_ei (code := cX2_bringsTo) (maxL := 2) (by decide) rfl (Nat.le_of_ble_eq_true rfl) ?_
  intro p e s m args below meth c Q A hx hb hml hts hown hK hA hret ls hl hP hD hS
  have hown : s.vm.findClass RX2 = some m.cls := hown
  have hl : lv_has ls 2 [(0, .ref (a 0)), (1, .int p1)] := hl
  have hP : va_P D vwCl (cWl kc a w) s.heap := hP
  have hD : va_D A (cWl kc a w) := hD
  have hS : va_S A s.heap s.heap [] := hS
  obtain ⟨H, eH⟩ : ∃ z, z = s.heap := ⟨_, rfl⟩
  obtain ⟨locs, eL⟩ : ∃ z : List Loc, z = [] := ⟨_, rfl⟩
  have hP := q_heap hP eH
  have hS := q_heapS hS eH eL
  refine q_start eH eL ?_
  clear eH eL
  have hi2 : ∀ w ∈ u_ws RX2 TX2 13, w ∈ wsX2_bringsTo := by decide +kernel
  unfold w_X2_bringsTo at h
  refine lv_aload_n hx hb dX2_bringsTo_0 rfl (lv_at hl 0 rfl) ?_
  refine lv_iload_n hx hb dX2_bringsTo_1 rfl (lv_at hl 1 rfl) ?_
  refine q_cVi (As := [.int p1]) (rest := []) ⟨hx, hb, hml, hown, hts⟩ hK (c_X2_tradeBrings l D kc a p1 w H.size _ h) (cwV 1 hts gX2_bringsTo_X2_tradeBrings rfl rfl rfl (by decide +kernel) ⟨Nat.le_of_ble_eq_true rfl, Nat.le_of_ble_eq_true rfl⟩) (cut_same (fun u : S2 => cWl kc a u) w) hP hD hS hA 2 0 rfl rfl rfl hl.1 rfl (Nat.le_of_ble_eq_true rfl) dX2_bringsTo_2 ⟨Nat.zero_le _, Nat.zero_le _⟩ (fun r2 u3 H locs h hP hD hS => ?_)
  obtain ⟨w1, rfl⟩ : ∃ z, z = u3 := ⟨_, rfl⟩
  have hP : va_P D vwCl (cWl kc a w1) H := hP
  have hD : va_D A (cWl kc a w1) := hD
  refine lv_iload_n hx hb dX2_bringsTo_5 rfl (lv_at hl 1 rfl) ?_
  refine lv_aload_n hx hb dX2_bringsTo_6 rfl (lv_at hl 0 rfl) ?_
  refine va_get (D := D) (ci := 2) (v := .int (w1 0 3)) (C := RX2) (T := TX2) (N := 13) hx hb hts hi2 hown hK.1 hP 0 rfl rfl 3 (by decide) (hts (.fieldLink RX2 43 "LastPenny$World" "holder" "I") (by decide +kernel)) (fun _ h9 => h9) rfl dX2_bringsTo_7 ?_
  refine lv_icmp_ne (tgt := 21) hx hb dX2_bringsTo_10 (by decide) (fun c4 => ?_) (fun c4 => ?_)
  · have h := br2 h c4
    refine lv_iconst (v := 0) hx hb dX2_bringsTo_21 (by decide) ?_
    refine lv_iadd hx hb dX2_bringsTo_22 ?_
    exact hret (r2 + 0) w1 H locs ls _ h hP hD hS dX2_bringsTo_23
  · have h := br1 h c4
    refine lv_aload_n hx hb dX2_bringsTo_13 rfl (lv_at hl 0 rfl) ?_
    refine lv_iload_n hx hb dX2_bringsTo_14 rfl (lv_at hl 1 rfl) ?_
    refine q_cVi (As := [.int p1]) (rest := [.int r2]) ⟨hx, hb, hml, hown, hts⟩ hK (c_X2_coinBrings l D kc a p1 w1 H.size _ h) (cwV 1 hts gX2_bringsTo_X2_coinBrings rfl rfl rfl (by decide +kernel) ⟨Nat.le_of_ble_eq_true rfl, Nat.le_of_ble_eq_true rfl⟩) (cut_same (fun u : S2 => cWl kc a u) w1) hP hD hS hA 2 0 rfl rfl rfl hl.1 rfl (Nat.le_of_ble_eq_true rfl) dX2_bringsTo_15 ⟨Nat.zero_le _, Nat.zero_le _⟩ (fun r6 u7 H locs h hP hD hS => ?_)
    obtain ⟨w5, rfl⟩ : ∃ z, z = u7 := ⟨_, rfl⟩
    have hP : va_P D vwCl (cWl kc a w5) H := hP
    have hD : va_D A (cWl kc a w5) := hD
    refine lv_goto (tgt := 22) hx hb dX2_bringsTo_18 (by decide) ?_
    refine lv_iadd hx hb dX2_bringsTo_22 ?_
    exact hret (r2 + r6) w5 H locs ls _ h hP hD hS dX2_bringsTo_23

def w_X3_bounded (p0 : Int32) (K : Int32 → Prop) : Prop := br (0 ≤ p0) (br (p0 ≤ 999) (K p0) (K 999)) (K 0)
abbrev rm_X3_bounded : Room := { frames := 0, cells := 0, slots := 0, locals := 0 }
set_option maxHeartbeats 4000000 in
set_option maxRecDepth 100000 in
theorem c_X3_bounded (l : Launch) (D : va_G) (kc : Nat → ClassId) (p0 : Int32) (sz : Nat) (K : Int32 → Prop) (h : w_X3_bounded p0 K) : MetI l yX3_bounded wsX3_bounded rm_X3_bounded D kc (fun _ : Unit => []) () [.int p0] sz (fun r _ => K r) := by
  refine q_ei (code := cX3_bounded) (maxL := 1) (by decide) rfl (Nat.le_of_ble_eq_true rfl) ?_
  intro p e s m args below meth c Q A hx hb hml hts hown hK hA hret ls hl hP hD hS
  have hown : s.vm.findClass RX3 = some m.cls := hown
  have hl : lv_has ls 1 [(0, .int p0)] := hl
  have hP : va_P D vwCl [] s.heap := hP
  have hS : va_S A s.heap s.heap [] := hS
  obtain ⟨H, eH⟩ : ∃ z, z = s.heap := ⟨_, rfl⟩
  obtain ⟨locs, eL⟩ : ∃ z : List Loc, z = [] := ⟨_, rfl⟩
  have hP := q_heap hP eH
  have hS := q_heapS hS eH eL
  refine q_start eH eL ?_
  clear eH eL
  unfold w_X3_bounded at h
  refine lv_iload_n hx hb dX3_bounded_0 rfl (lv_at hl 0 rfl) ?_
  refine lv_if_ge (tgt := 8) hx hb dX3_bounded_1 (by decide) (fun c1 => ?_) (fun c1 => ?_)
  · have h := br1 h c1
    refine lv_iload_n hx hb dX3_bounded_8 rfl (lv_at hl 0 rfl) ?_
    refine lv_sipush (v := 999) hx hb dX3_bounded_9 (by decide) ?_
    refine lv_icmp_le (tgt := 21) hx hb dX3_bounded_12 (by decide) (fun c2 => ?_) (fun c2 => ?_)
    · have h := br1 h c2
      refine lv_iload_n hx hb dX3_bounded_21 rfl (lv_at hl 0 rfl) ?_
      exact hret p0 () H locs ls _ h hP hD hS dX3_bounded_22
    · have h := br2 h c2
      refine lv_sipush (v := 999) hx hb dX3_bounded_15 (by decide) ?_
      refine lv_goto (tgt := 22) hx hb dX3_bounded_18 (by decide) ?_
      exact hret 999 () H locs ls _ h hP hD hS dX3_bounded_22
  · have h := br2 h c1
    refine lv_iconst (v := 0) hx hb dX3_bounded_4 (by decide) ?_
    refine lv_goto (tgt := 22) hx hb dX3_bounded_5 (by decide) ?_
    exact hret 0 () H locs ls _ h hP hD hS dX3_bounded_22

def w_X2_makeGifts (w : S2) (K : S2 → Prop) : Prop := lfp2 (fun G2 (i1 : Int32) (w2 : S2) => br ((w2 0 4) ≤ i1) (K w2) (nm ((i1 * 4) : Int32) (fun x4 => vp_in x4 16 ∧ (jn (fun (w6 : S2) => nm (i1 + 1 : Int32) (fun x7 => G2 x7 w6)) (fun J96 => br ((w2 5 x4.toNatClampNeg) = (w2 0 1)) (vp_in (x4 + 1) 16 ∧ (nm ((w2 5 (x4 + 1).toNatClampNeg) : Int32) (fun x10 => vp_in (x4 + 2) 16 ∧ (nm ((w2 5 (x4 + 2).toNatClampNeg) : Int32) (fun x12 => vp_in x10 5 ∧ (vp_in (x4 + 3) 16 ∧ (nm ((if (w2 5 (x4 + 3).toNatClampNeg) < (w2 2 x10.toNatClampNeg) then (w2 5 (x4 + 3).toNatClampNeg) else (w2 2 x10.toNatClampNeg)) : Int32) (fun x15 => vp_in x10 5 ∧ (vp_in x10 5 ∧ (nm ((va_up w2 2 (upd (w2 2) x10.toNatClampNeg ((w2 2 x10.toNatClampNeg) - x15))) : S2) (fun w18 => vp_in x12 5 ∧ (w_X3_bounded ((w18 2 x12.toNatClampNeg) + x15) (fun r20 => vp_in x12 5 ∧ (nm ((va_up w18 2 (upd (w18 2) x12.toNatClampNeg r20)) : S2) (fun w23 => J96 w23))))))))))))))) (J96 w2)))))) 0 w
abbrev rm_X2_makeGifts : Room := { frames := 1, cells := 0, slots := 0, locals := 60 }
set_option maxHeartbeats 4000000 in
set_option maxRecDepth 100000 in
theorem c_X2_makeGifts (l : Launch) (D : va_G) (kc : Nat → ClassId) (a : Nat → Nat) (w : S2) (sz : Nat) (K : S2 → Prop) (h : w_X2_makeGifts w K) : MetV l yX2_makeGifts wsX2_makeGifts rm_X2_makeGifts D kc (fun u : S2 => cWl kc a u) w [.ref (a 0)] sz (fun u => K u) := by
  refine q_ev (code := cX2_makeGifts) (maxL := 6) (by decide) rfl (Nat.le_of_ble_eq_true rfl) ?_
  intro p e s m args below meth c Q A hx hb hml hts hown hK hA hret ls hl hP hD hS
  have hown : s.vm.findClass RX2 = some m.cls := hown
  have hl : lv_has ls 6 [(0, .ref (a 0))] := hl
  have hP : va_P D vwCl (cWl kc a w) s.heap := hP
  have hD : va_D A (cWl kc a w) := hD
  have hS : va_S A s.heap s.heap [] := hS
  obtain ⟨H, eH⟩ : ∃ z, z = s.heap := ⟨_, rfl⟩
  obtain ⟨locs, eL⟩ : ∃ z : List Loc, z = [] := ⟨_, rfl⟩
  have hP := q_heap hP eH
  have hS := q_heapS hS eH eL
  refine q_start eH eL ?_
  clear eH eL
  have hi2 : ∀ w ∈ u_ws RX2 TX2 13, w ∈ wsX2_makeGifts := by decide +kernel
  unfold w_X2_makeGifts at h
  refine lv_iconst (v := 0) hx hb dX2_makeGifts_0 (by decide) ?_
  refine lv_istore_n (lv' := [(1, .int 0), (0, .ref (a 0))]) hx hb dX2_makeGifts_1 rfl hl (by decide) rfl (fun ls hl => ?_)
  refine h (fun (i1 : Int32) (w2 : S2) => ∀ (ls : Array Slot) (H : Heap) (locs : List Loc), lv_has ls 6 [(0, .ref (a 0)), (1, .int i1)] → va_P D vwCl (cWl kc a w2) H → va_D A (cWl kc a w2) → va_S A s.heap H locs → W p l e rm_X2_makeGifts s m args below meth c H locs 0 0 Q (F0 m 2 ls [])) ?_ ls H locs (lv_sub hl [1, 0] rfl) hP hD hS
  intro i1 w2 h ls H locs hl hP hD hS
  refine lv_iload_n hx hb dX2_makeGifts_2 rfl (lv_at hl 1 rfl) ?_
  refine lv_aload_n hx hb dX2_makeGifts_3 rfl (lv_at hl 0 rfl) ?_
  refine va_get (D := D) (ci := 2) (v := .int (w2 0 4)) (C := RX2) (T := TX2) (N := 13) hx hb hts hi2 hown hK.1 hP 0 rfl rfl 4 (by decide) (hts (.fieldLink RX2 46 "LastPenny$World" "gifts" "I") (by decide +kernel)) (fun _ h9 => h9) rfl dX2_makeGifts_4 ?_
  refine lv_icmp_ge (tgt := 102) hx hb dX2_makeGifts_7 (by decide) (fun c3 => ?_) (fun c3 => ?_)
  · have h := br1 h c3
    exact hret w2 H locs ls _ h hP hD hS dX2_makeGifts_102
  · have h := br2 h c3
    refine lv_iload_n hx hb dX2_makeGifts_10 rfl (lv_at hl 1 rfl) ?_
    refine lv_iconst (v := 4) hx hb dX2_makeGifts_11 (by decide) ?_
    refine lv_imul hx hb dX2_makeGifts_12 ?_
    refine lv_topi (fun x4 ex4 => ?_)
    have h := nm_out h x4 ex4
    refine lv_istore_n (lv' := [(2, .int x4), (0, .ref (a 0)), (1, .int i1)]) hx hb dX2_makeGifts_13 rfl hl (by decide) rfl (fun ls hl => ?_)
    refine lv_aload_n hx hb dX2_makeGifts_14 rfl (lv_at hl 1 rfl) ?_
    refine va_get (D := D) (ci := 2) (v := .ref (a 5)) (C := RX2) (T := TX2) (N := 13) hx hb hts hi2 hown hK.1 hP 0 rfl rfl 10 (by decide) (hts (.fieldLink RX2 24 "LastPenny$World" "giftCells" "[I") (by decide +kernel)) (fun _ h9 => h9) rfl dX2_makeGifts_15 ?_
    refine lv_iload_n hx hb dX2_makeGifts_18 rfl (lv_at hl 0 rfl) ?_
    obtain ⟨hi_5, h⟩ := h
    refine va_iald hx hb hK.1 hP 5 0 rfl rfl hi_5 dX2_makeGifts_19 ?_
    refine lv_aload_n hx hb dX2_makeGifts_20 rfl (lv_at hl 1 rfl) ?_
    refine va_get (D := D) (ci := 2) (v := .int (w2 0 1)) (C := RX2) (T := TX2) (N := 13) hx hb hts hi2 hown hK.1 hP 0 rfl rfl 1 (by decide) (hts (.fieldLink RX2 37 "LastPenny$World" "quarter" "I") (by decide +kernel)) (fun _ h9 => h9) rfl dX2_makeGifts_21 ?_
    refine jn_elim h (fun J96 eJ96 h => ?_)
    have hJ_96 : ∀ (w6 : S2) (ls : Array Slot) (H : Heap) (locs : List Loc), J96 w6 → lv_has ls 6 [(0, .ref (a 0)), (1, .int i1)] → va_P D vwCl (cWl kc a w6) H → va_D A (cWl kc a w6) → va_S A s.heap H locs → W p l e rm_X2_makeGifts s m args below meth c H locs 0 0 Q (F0 m 96 ls []) := by
      intro w6 ls H locs h hl hP hD hS
      subst eJ96
      obtain ⟨x7, ex7⟩ : ∃ z : Int32, z = i1 + 1 := ⟨_, rfl⟩
      have h := nm_out h x7 ex7
      refine lv_iinc (v := x7) (lv' := [(1, .int x7), (0, .ref (a 0))]) hx hb dX2_makeGifts_96 hl (k := 1) rfl (by rw [ex7]; rfl) (by decide) rfl (fun ls hl => ?_)
      refine lv_goto (tgt := 2) hx hb dX2_makeGifts_99 (by decide) ?_
      exact h ls H locs (lv_sub hl [1, 0] rfl) hP hD hS
    refine lv_icmp_ne (tgt := 96) hx hb dX2_makeGifts_24 (by decide) (fun c8 => ?_) (fun c8 => ?_)
    · have h := br2 h c8
      exact hJ_96 w2 ls H locs h (lv_sub hl [1, 2] rfl) hP hD hS
    · have h := br1 h c8
      refine lv_aload_n hx hb dX2_makeGifts_27 rfl (lv_at hl 1 rfl) ?_
      refine va_get (D := D) (ci := 2) (v := .ref (a 5)) (C := RX2) (T := TX2) (N := 13) hx hb hts hi2 hown hK.1 hP 0 rfl rfl 10 (by decide) (hts (.fieldLink RX2 24 "LastPenny$World" "giftCells" "[I") (by decide +kernel)) (fun _ h9 => h9) rfl dX2_makeGifts_28 ?_
      refine lv_iload_n hx hb dX2_makeGifts_31 rfl (lv_at hl 0 rfl) ?_
      refine lv_iconst (v := 1) hx hb dX2_makeGifts_32 (by decide) ?_
      refine lv_iadd hx hb dX2_makeGifts_33 ?_
      obtain ⟨hi_9, h⟩ := h
      refine va_iald hx hb hK.1 hP 5 0 rfl rfl hi_9 dX2_makeGifts_34 ?_
      refine lv_topi (fun x10 ex10 => ?_)
      have h := nm_out h x10 ex10
      refine lv_istore_n (lv' := [(3, .int x10), (2, .int x4), (0, .ref (a 0)), (1, .int i1)]) hx hb dX2_makeGifts_35 rfl hl (by decide) rfl (fun ls hl => ?_)
      refine lv_aload_n hx hb dX2_makeGifts_36 rfl (lv_at hl 2 rfl) ?_
      refine va_get (D := D) (ci := 2) (v := .ref (a 5)) (C := RX2) (T := TX2) (N := 13) hx hb hts hi2 hown hK.1 hP 0 rfl rfl 10 (by decide) (hts (.fieldLink RX2 24 "LastPenny$World" "giftCells" "[I") (by decide +kernel)) (fun _ h9 => h9) rfl dX2_makeGifts_37 ?_
      refine lv_iload_n hx hb dX2_makeGifts_40 rfl (lv_at hl 1 rfl) ?_
      refine lv_iconst (v := 2) hx hb dX2_makeGifts_41 (by decide) ?_
      refine lv_iadd hx hb dX2_makeGifts_42 ?_
      obtain ⟨hi_11, h⟩ := h
      refine va_iald hx hb hK.1 hP 5 0 rfl rfl hi_11 dX2_makeGifts_43 ?_
      refine lv_topi (fun x12 ex12 => ?_)
      have h := nm_out h x12 ex12
      refine lv_istore (lv' := [(4, .int x12), (3, .int x10), (2, .int x4), (0, .ref (a 0)), (1, .int i1)]) hx hb dX2_makeGifts_44 hl (by decide) rfl (fun ls hl => ?_)
      refine lv_aload_n hx hb dX2_makeGifts_46 rfl (lv_at hl 3 rfl) ?_
      refine va_get (D := D) (ci := 2) (v := .ref (a 2)) (C := RX2) (T := TX2) (N := 13) hx hb hts hi2 hown hK.1 hP 0 rfl rfl 7 (by decide) (hts (.fieldLink RX2 15 "LastPenny$World" "meansOf" "[I") (by decide +kernel)) (fun _ h9 => h9) rfl dX2_makeGifts_47 ?_
      refine lv_iload_n hx hb dX2_makeGifts_50 rfl (lv_at hl 1 rfl) ?_
      obtain ⟨hi_13, h⟩ := h
      refine va_iald hx hb hK.1 hP 2 0 rfl rfl hi_13 dX2_makeGifts_51 ?_
      refine lv_aload_n hx hb dX2_makeGifts_52 rfl (lv_at hl 3 rfl) ?_
      refine va_get (D := D) (ci := 2) (v := .ref (a 5)) (C := RX2) (T := TX2) (N := 13) hx hb hts hi2 hown hK.1 hP 0 rfl rfl 10 (by decide) (hts (.fieldLink RX2 24 "LastPenny$World" "giftCells" "[I") (by decide +kernel)) (fun _ h9 => h9) rfl dX2_makeGifts_53 ?_
      refine lv_iload_n hx hb dX2_makeGifts_56 rfl (lv_at hl 2 rfl) ?_
      refine lv_iconst (v := 3) hx hb dX2_makeGifts_57 (by decide) ?_
      refine lv_iadd hx hb dX2_makeGifts_58 ?_
      obtain ⟨hi_14, h⟩ := h
      refine va_iald hx hb hK.1 hP 5 0 rfl rfl hi_14 dX2_makeGifts_59 ?_
      refine va_mmin hx hb (by rw [hml]; exact hl.1.symm) hown (hts (.methodLink RX2 105 Lib.Math.min.name) (by decide +kernel)) (hts (.static Lib.Math.min.name) (by decide +kernel)) (hts (.initialized "java/lang/Math") (by decide +kernel)) (hts (.code Lib.Math.min.name Lib.Math.min.code 2 (some .int)) (by decide +kernel)) (Nat.le_of_ble_eq_true rfl) (Nat.le_of_ble_eq_true rfl) (Nat.zero_le _) (Nat.zero_le _) dX2_makeGifts_60 ?_
      refine lv_topi (fun x15 ex15 => ?_)
      have h := nm_out h x15 ex15
      refine lv_istore (lv' := [(5, .int x15), (4, .int x12), (3, .int x10), (2, .int x4), (0, .ref (a 0)), (1, .int i1)]) hx hb dX2_makeGifts_63 hl (by decide) rfl (fun ls hl => ?_)
      refine lv_aload_n hx hb dX2_makeGifts_65 rfl (lv_at hl 4 rfl) ?_
      refine va_get (D := D) (ci := 2) (v := .ref (a 2)) (C := RX2) (T := TX2) (N := 13) hx hb hts hi2 hown hK.1 hP 0 rfl rfl 7 (by decide) (hts (.fieldLink RX2 15 "LastPenny$World" "meansOf" "[I") (by decide +kernel)) (fun _ h9 => h9) rfl dX2_makeGifts_66 ?_
      refine lv_iload_n hx hb dX2_makeGifts_69 rfl (lv_at hl 2 rfl) ?_
      refine lv_dup2_11 hx hb dX2_makeGifts_70 rfl rfl ?_
      obtain ⟨hi_16, h⟩ := h
      refine va_iald hx hb hK.1 hP 2 0 rfl rfl hi_16 dX2_makeGifts_71 ?_
      refine lv_iload hx hb dX2_makeGifts_72 (lv_at hl 0 rfl) ?_
      refine lv_isub hx hb dX2_makeGifts_74 ?_
      obtain ⟨hi_17, h⟩ := h
      refine va_iast hx hb hK.1 hP hD hS 2 0 rfl rfl hi_17 dX2_makeGifts_75 (fun H locs hP hD hS => ?_)
      obtain ⟨w18, ew18⟩ : ∃ z, z = (va_up w2 2 (upd (w2 2) x10.toNatClampNeg ((w2 2 x10.toNatClampNeg) - x15))) := ⟨_, rfl⟩
      have h := nm_out h w18 ew18
      have hP : va_P D vwCl (cWl kc a w18) H := q_to hP (by subst ew18; rfl)
      have hD : va_D A (cWl kc a w18) := q_toD hD (by subst ew18; rfl)
      refine lv_aload_n hx hb dX2_makeGifts_76 rfl (lv_at hl 4 rfl) ?_
      refine va_get (D := D) (ci := 2) (v := .ref (a 2)) (C := RX2) (T := TX2) (N := 13) hx hb hts hi2 hown hK.1 hP 0 rfl rfl 7 (by decide) (hts (.fieldLink RX2 15 "LastPenny$World" "meansOf" "[I") (by decide +kernel)) (fun _ h9 => h9) rfl dX2_makeGifts_77 ?_
      refine lv_iload hx hb dX2_makeGifts_80 (lv_at hl 1 rfl) ?_
      refine lv_aload_n hx hb dX2_makeGifts_82 rfl (lv_at hl 4 rfl) ?_
      refine va_get (D := D) (ci := 2) (v := .ref (a 2)) (C := RX2) (T := TX2) (N := 13) hx hb hts hi2 hown hK.1 hP 0 rfl rfl 7 (by decide) (hts (.fieldLink RX2 15 "LastPenny$World" "meansOf" "[I") (by decide +kernel)) (fun _ h9 => h9) rfl dX2_makeGifts_83 ?_
      refine lv_iload hx hb dX2_makeGifts_86 (lv_at hl 1 rfl) ?_
      obtain ⟨hi_19, h⟩ := h
      refine va_iald hx hb hK.1 hP 2 0 rfl rfl hi_19 dX2_makeGifts_88 ?_
      refine lv_iload hx hb dX2_makeGifts_89 (lv_at hl 0 rfl) ?_
      refine lv_iadd hx hb dX2_makeGifts_91 ?_
      refine q_cNi (As := [.int ((w18 2 x12.toNatClampNeg) + x15)]) (rest := [.int x12, .ref (a 2)]) (host := RX3) ⟨hx, hb, hml, hown, hts⟩ hK (c_X3_bounded l D kc ((w18 2 x12.toNatClampNeg) + x15) H.size _ h) ⟨va_cnB 1 hts gX2_makeGifts_X3_bounded_n111 rfl rfl rfl hK.2.2.1 (hts (.initialized RX3) (by decide +kernel)) (by decide +kernel) ⟨Nat.le_of_ble_eq_true rfl, Nat.le_of_ble_eq_true rfl⟩, (hts (.static yX3_bounded) (by decide +kernel)), trivial⟩ (cut_nil _) hP hD hS hA rfl hl.1 rfl (Nat.le_of_ble_eq_true rfl) dX2_makeGifts_92 ⟨Nat.zero_le _, Nat.zero_le _⟩ (fun r20 _ H locs h hP hD hS => ?_)
      have hP : va_P D vwCl (cWl kc a w18) H := hP
      have hD : va_D A (cWl kc a w18) := hD
      obtain ⟨hi_22, h⟩ := h
      refine va_iast hx hb hK.1 hP hD hS 2 0 rfl rfl hi_22 dX2_makeGifts_95 (fun H locs hP hD hS => ?_)
      obtain ⟨w23, ew23⟩ : ∃ z, z = (va_up w18 2 (upd (w18 2) x12.toNatClampNeg r20)) := ⟨_, rfl⟩
      have h := nm_out h w23 ew23
      have hP : va_P D vwCl (cWl kc a w23) H := q_to hP (by subst ew23; rfl)
      have hD : va_D A (cWl kc a w23) := q_toD hD (by subst ew23; rfl)
      exact hJ_96 w23 ls H locs h (lv_sub hl [4, 5] rfl) hP hD hS

def w_X2_earn (p1 : Int32) (w : S2) (K : S2 → Prop) : Prop := lfp2 (fun G2 (i1 : Int32) (w2 : S2) => br ((w2 0 0) ≤ i1) (K w2) (w_X2_tradeBrings i1 w2 (fun r5 w4 => jn (fun (k7 : Int32) => nm ((r5 + k7) : Int32) (fun x8 => vp_in i1 5 ∧ (w_X3_bounded ((w4 2 i1.toNatClampNeg) + x8) (fun r10 => vp_in i1 5 ∧ (nm ((va_up w4 2 (upd (w4 2) i1.toNatClampNeg r10)) : S2) (fun w13 => nm (i1 + 1 : Int32) (fun x14 => G2 x14 w13))))))) (fun J28 => br (i1 = (w4 0 3)) (J28 p1) (J28 0))))) 0 w
abbrev rm_X2_earn : Room := { frames := 1, cells := 0, slots := 0, locals := 22 }
set_option maxHeartbeats 4000000 in
set_option maxRecDepth 100000 in
theorem c_X2_earn (l : Launch) (D : va_G) (kc : Nat → ClassId) (a : Nat → Nat) (p1 : Int32) (w : S2) (sz : Nat) (K : S2 → Prop) (h : w_X2_earn p1 w K) : MetV l yX2_earn wsX2_earn rm_X2_earn D kc (fun u : S2 => cWl kc a u) w [.ref (a 0), .int p1] sz (fun u => K u) := by
  refine q_ev (code := cX2_earn) (maxL := 4) (by decide) rfl (Nat.le_of_ble_eq_true rfl) ?_
  intro p e s m args below meth c Q A hx hb hml hts hown hK hA hret ls hl hP hD hS
  have hown : s.vm.findClass RX2 = some m.cls := hown
  have hl : lv_has ls 4 [(0, .ref (a 0)), (1, .int p1)] := hl
  have hP : va_P D vwCl (cWl kc a w) s.heap := hP
  have hD : va_D A (cWl kc a w) := hD
  have hS : va_S A s.heap s.heap [] := hS
  obtain ⟨H, eH⟩ : ∃ z, z = s.heap := ⟨_, rfl⟩
  obtain ⟨locs, eL⟩ : ∃ z : List Loc, z = [] := ⟨_, rfl⟩
  have hP := q_heap hP eH
  have hS := q_heapS hS eH eL
  refine q_start eH eL ?_
  clear eH eL
  have hi2 : ∀ w ∈ u_ws RX2 TX2 13, w ∈ wsX2_earn := by decide +kernel
  unfold w_X2_earn at h
  refine lv_iconst (v := 0) hx hb dX2_earn_0 (by decide) ?_
  refine lv_istore_n (lv' := [(2, .int 0), (0, .ref (a 0)), (1, .int p1)]) hx hb dX2_earn_1 rfl hl (by decide) rfl (fun ls hl => ?_)
  refine h (fun (i1 : Int32) (w2 : S2) => ∀ (ls : Array Slot) (H : Heap) (locs : List Loc), lv_has ls 4 [(0, .ref (a 0)), (1, .int p1), (2, .int i1)] → va_P D vwCl (cWl kc a w2) H → va_D A (cWl kc a w2) → va_S A s.heap H locs → W p l e rm_X2_earn s m args below meth c H locs 0 0 Q (F0 m 2 ls [])) ?_ ls H locs (lv_sub hl [1, 2, 0] rfl) hP hD hS
  intro i1 w2 h ls H locs hl hP hD hS
  refine lv_iload_n hx hb dX2_earn_2 rfl (lv_at hl 2 rfl) ?_
  refine lv_aload_n hx hb dX2_earn_3 rfl (lv_at hl 0 rfl) ?_
  refine va_get (D := D) (ci := 2) (v := .int (w2 0 0)) (C := RX2) (T := TX2) (N := 13) hx hb hts hi2 hown hK.1 hP 0 rfl rfl 0 (by decide) (hts (.fieldLink RX2 33 "LastPenny$World" "people" "I") (by decide +kernel)) (fun _ h9 => h9) rfl dX2_earn_4 ?_
  refine lv_icmp_ge (tgt := 53) hx hb dX2_earn_7 (by decide) (fun c3 => ?_) (fun c3 => ?_)
  · have h := br1 h c3
    exact hret w2 H locs ls _ h hP hD hS dX2_earn_53
  · have h := br2 h c3
    refine lv_aload_n hx hb dX2_earn_10 rfl (lv_at hl 0 rfl) ?_
    refine lv_iload_n hx hb dX2_earn_11 rfl (lv_at hl 2 rfl) ?_
    refine q_cVi (As := [.int i1]) (rest := []) ⟨hx, hb, hml, hown, hts⟩ hK (c_X2_tradeBrings l D kc a i1 w2 H.size _ h) (cwV 1 hts gX2_earn_X2_tradeBrings rfl rfl rfl (by decide +kernel) ⟨Nat.le_of_ble_eq_true rfl, Nat.le_of_ble_eq_true rfl⟩) (cut_same (fun u : S2 => cWl kc a u) w2) hP hD hS hA 2 0 rfl rfl rfl hl.1 rfl (Nat.le_of_ble_eq_true rfl) dX2_earn_12 ⟨Nat.zero_le _, Nat.zero_le _⟩ (fun r5 u6 H locs h hP hD hS => ?_)
    obtain ⟨w4, rfl⟩ : ∃ z, z = u6 := ⟨_, rfl⟩
    have hP : va_P D vwCl (cWl kc a w4) H := hP
    have hD : va_D A (cWl kc a w4) := hD
    refine lv_iload_n hx hb dX2_earn_15 rfl (lv_at hl 2 rfl) ?_
    refine lv_aload_n hx hb dX2_earn_16 rfl (lv_at hl 0 rfl) ?_
    refine va_get (D := D) (ci := 2) (v := .int (w4 0 3)) (C := RX2) (T := TX2) (N := 13) hx hb hts hi2 hown hK.1 hP 0 rfl rfl 3 (by decide) (hts (.fieldLink RX2 43 "LastPenny$World" "holder" "I") (by decide +kernel)) (fun _ h9 => h9) rfl dX2_earn_17 ?_
    refine jn_elim h (fun J28 eJ28 h => ?_)
    have hJ_28 : ∀ (k7 : Int32) (ls : Array Slot), J28 k7 → lv_has ls 4 [(0, .ref (a 0)), (1, .int p1), (2, .int i1)] → W p l e rm_X2_earn s m args below meth c H locs 0 0 Q (F0 m 28 ls [.int k7, .int r5]) := by
      intro k7 ls h hl
      subst eJ28
      refine lv_iadd hx hb dX2_earn_28 ?_
      refine lv_topi (fun x8 ex8 => ?_)
      have h := nm_out h x8 ex8
      refine lv_istore_n (lv' := [(3, .int x8), (0, .ref (a 0)), (1, .int p1), (2, .int i1)]) hx hb dX2_earn_29 rfl hl (by decide) rfl (fun ls hl => ?_)
      refine lv_aload_n hx hb dX2_earn_30 rfl (lv_at hl 1 rfl) ?_
      refine va_get (D := D) (ci := 2) (v := .ref (a 2)) (C := RX2) (T := TX2) (N := 13) hx hb hts hi2 hown hK.1 hP 0 rfl rfl 7 (by decide) (hts (.fieldLink RX2 15 "LastPenny$World" "meansOf" "[I") (by decide +kernel)) (fun _ h9 => h9) rfl dX2_earn_31 ?_
      refine lv_iload_n hx hb dX2_earn_34 rfl (lv_at hl 3 rfl) ?_
      refine lv_aload_n hx hb dX2_earn_35 rfl (lv_at hl 1 rfl) ?_
      refine va_get (D := D) (ci := 2) (v := .ref (a 2)) (C := RX2) (T := TX2) (N := 13) hx hb hts hi2 hown hK.1 hP 0 rfl rfl 7 (by decide) (hts (.fieldLink RX2 15 "LastPenny$World" "meansOf" "[I") (by decide +kernel)) (fun _ h9 => h9) rfl dX2_earn_36 ?_
      refine lv_iload_n hx hb dX2_earn_39 rfl (lv_at hl 3 rfl) ?_
      obtain ⟨hi_9, h⟩ := h
      refine va_iald hx hb hK.1 hP 2 0 rfl rfl hi_9 dX2_earn_40 ?_
      refine lv_iload_n hx hb dX2_earn_41 rfl (lv_at hl 0 rfl) ?_
      refine lv_iadd hx hb dX2_earn_42 ?_
      refine q_cNi (As := [.int ((w4 2 i1.toNatClampNeg) + x8)]) (rest := [.int i1, .ref (a 2)]) (host := RX3) ⟨hx, hb, hml, hown, hts⟩ hK (c_X3_bounded l D kc ((w4 2 i1.toNatClampNeg) + x8) H.size _ h) ⟨va_cnB 1 hts gX2_earn_X3_bounded_n111 rfl rfl rfl hK.2.2.1 (hts (.initialized RX3) (by decide +kernel)) (by decide +kernel) ⟨Nat.le_of_ble_eq_true rfl, Nat.le_of_ble_eq_true rfl⟩, (hts (.static yX3_bounded) (by decide +kernel)), trivial⟩ (cut_nil _) hP hD hS hA rfl hl.1 rfl (Nat.le_of_ble_eq_true rfl) dX2_earn_43 ⟨Nat.zero_le _, Nat.zero_le _⟩ (fun r10 _ H locs h hP hD hS => ?_)
      have hP : va_P D vwCl (cWl kc a w4) H := hP
      have hD : va_D A (cWl kc a w4) := hD
      obtain ⟨hi_12, h⟩ := h
      refine va_iast hx hb hK.1 hP hD hS 2 0 rfl rfl hi_12 dX2_earn_46 (fun H locs hP hD hS => ?_)
      obtain ⟨w13, ew13⟩ : ∃ z, z = (va_up w4 2 (upd (w4 2) i1.toNatClampNeg r10)) := ⟨_, rfl⟩
      have h := nm_out h w13 ew13
      have hP : va_P D vwCl (cWl kc a w13) H := q_to hP (by subst ew13; rfl)
      have hD : va_D A (cWl kc a w13) := q_toD hD (by subst ew13; rfl)
      obtain ⟨x14, ex14⟩ : ∃ z : Int32, z = i1 + 1 := ⟨_, rfl⟩
      have h := nm_out h x14 ex14
      refine lv_iinc (v := x14) (lv' := [(2, .int x14), (3, .int x8), (0, .ref (a 0)), (1, .int p1)]) hx hb dX2_earn_47 hl (k := 3) rfl (by rw [ex14]; rfl) (by decide) rfl (fun ls hl => ?_)
      refine lv_goto (tgt := 2) hx hb dX2_earn_50 (by decide) ?_
      exact h ls H locs (lv_sub hl [2, 3, 0] rfl) hP hD hS
    refine lv_icmp_ne (tgt := 27) hx hb dX2_earn_20 (by decide) (fun c15 => ?_) (fun c15 => ?_)
    · have h := br2 h c15
      refine lv_iconst (v := 0) hx hb dX2_earn_27 (by decide) ?_
      exact hJ_28 0 ls h (lv_sub hl [0, 1, 2] rfl)
    · have h := br1 h c15
      refine lv_iload_n hx hb dX2_earn_23 rfl (lv_at hl 1 rfl) ?_
      refine lv_goto (tgt := 28) hx hb dX2_earn_24 (by decide) ?_
      exact hJ_28 p1 ls h (lv_sub hl [0, 1, 2] rfl)

def w_X2_handsOn (w : S2) (K : Int32 → S2 → Prop) : Prop := vp_in (w 0 3) 5 ∧ (br ((w 1 (w 0 3).toNatClampNeg) = 1) (w_X2_isRuined (w 0 3) w (fun r6 w5 => (r6 = 0 ∨ r6 = 1) ∧ K r6 w5)) (vp_in (w 0 3) 5 ∧ (br ((w 2 (w 0 3).toNatClampNeg) < 10) (K 0 w) (K 1 w))))
abbrev rm_X2_handsOn : Room := { frames := 1, cells := 0, slots := 0, locals := 21 }
set_option maxHeartbeats 4000000 in
set_option maxRecDepth 100000 in
theorem c_X2_handsOn (l : Launch) (D : va_G) (kc : Nat → ClassId) (a : Nat → Nat) (w : S2) (sz : Nat) (K : Int32 → S2 → Prop) (h : w_X2_handsOn w K) : MetI l yX2_handsOn wsX2_handsOn rm_X2_handsOn D kc (fun u : S2 => cWl kc a u) w [.ref (a 0)] sz (fun r u => K r u) := by
  refine q_ez (code := cX2_handsOn) (maxL := 1) (by decide) rfl (Nat.le_of_ble_eq_true rfl) ?_
  intro p e s m args below meth c Q A hx hb hml hts hown hK hA hret ls hl hP hD hS
  have hown : s.vm.findClass RX2 = some m.cls := hown
  have hl : lv_has ls 1 [(0, .ref (a 0))] := hl
  have hP : va_P D vwCl (cWl kc a w) s.heap := hP
  have hD : va_D A (cWl kc a w) := hD
  have hS : va_S A s.heap s.heap [] := hS
  obtain ⟨H, eH⟩ : ∃ z, z = s.heap := ⟨_, rfl⟩
  obtain ⟨locs, eL⟩ : ∃ z : List Loc, z = [] := ⟨_, rfl⟩
  have hP := q_heap hP eH
  have hS := q_heapS hS eH eL
  refine q_start eH eL ?_
  clear eH eL
  have hi2 : ∀ w ∈ u_ws RX2 TX2 13, w ∈ wsX2_handsOn := by decide +kernel
  unfold w_X2_handsOn at h
  refine lv_aload_n hx hb dX2_handsOn_0 rfl (lv_at hl 0 rfl) ?_
  refine va_get (D := D) (ci := 2) (v := .ref (a 1)) (C := RX2) (T := TX2) (N := 13) hx hb hts hi2 hown hK.1 hP 0 rfl rfl 6 (by decide) (hts (.fieldLink RX2 9 "LastPenny$World" "kindOf" "[I") (by decide +kernel)) (fun _ h9 => h9) rfl dX2_handsOn_1 ?_
  refine lv_aload_n hx hb dX2_handsOn_4 rfl (lv_at hl 0 rfl) ?_
  refine va_get (D := D) (ci := 2) (v := .int (w 0 3)) (C := RX2) (T := TX2) (N := 13) hx hb hts hi2 hown hK.1 hP 0 rfl rfl 3 (by decide) (hts (.fieldLink RX2 43 "LastPenny$World" "holder" "I") (by decide +kernel)) (fun _ h9 => h9) rfl dX2_handsOn_5 ?_
  obtain ⟨hi_1, h⟩ := h
  refine va_iald hx hb hK.1 hP 1 0 rfl rfl hi_1 dX2_handsOn_8 ?_
  refine lv_iconst (v := 1) hx hb dX2_handsOn_9 (by decide) ?_
  refine lv_icmp_ne (tgt := 24) hx hb dX2_handsOn_10 (by decide) (fun c2 => ?_) (fun c2 => ?_)
  · have h := br2 h c2
    refine lv_aload_n hx hb dX2_handsOn_24 rfl (lv_at hl 0 rfl) ?_
    refine va_get (D := D) (ci := 2) (v := .ref (a 2)) (C := RX2) (T := TX2) (N := 13) hx hb hts hi2 hown hK.1 hP 0 rfl rfl 7 (by decide) (hts (.fieldLink RX2 15 "LastPenny$World" "meansOf" "[I") (by decide +kernel)) (fun _ h9 => h9) rfl dX2_handsOn_25 ?_
    refine lv_aload_n hx hb dX2_handsOn_28 rfl (lv_at hl 0 rfl) ?_
    refine va_get (D := D) (ci := 2) (v := .int (w 0 3)) (C := RX2) (T := TX2) (N := 13) hx hb hts hi2 hown hK.1 hP 0 rfl rfl 3 (by decide) (hts (.fieldLink RX2 43 "LastPenny$World" "holder" "I") (by decide +kernel)) (fun _ h9 => h9) rfl dX2_handsOn_29 ?_
    obtain ⟨hi_3, h⟩ := h
    refine va_iald hx hb hK.1 hP 2 0 rfl rfl hi_3 dX2_handsOn_32 ?_
    refine lv_bipush (v := 10) hx hb dX2_handsOn_33 (by decide) ?_
    refine lv_icmp_lt (tgt := 42) hx hb dX2_handsOn_35 (by decide) (fun c4 => ?_) (fun c4 => ?_)
    · have h := br1 h c4
      refine lv_iconst (v := 0) hx hb dX2_handsOn_42 (by decide) ?_
      exact hret 0 w H locs ls _ rfl h hP hD hS dX2_handsOn_43
    · have h := br2 h c4
      refine lv_iconst (v := 1) hx hb dX2_handsOn_38 (by decide) ?_
      refine lv_goto (tgt := 43) hx hb dX2_handsOn_39 (by decide) ?_
      exact hret 1 w H locs ls _ rfl h hP hD hS dX2_handsOn_43
  · have h := br1 h c2
    refine lv_aload_n hx hb dX2_handsOn_13 rfl (lv_at hl 0 rfl) ?_
    refine lv_aload_n hx hb dX2_handsOn_14 rfl (lv_at hl 0 rfl) ?_
    refine va_get (D := D) (ci := 2) (v := .int (w 0 3)) (C := RX2) (T := TX2) (N := 13) hx hb hts hi2 hown hK.1 hP 0 rfl rfl 3 (by decide) (hts (.fieldLink RX2 43 "LastPenny$World" "holder" "I") (by decide +kernel)) (fun _ h9 => h9) rfl dX2_handsOn_15 ?_
    refine q_cVi (As := [.int (w 0 3)]) (rest := []) ⟨hx, hb, hml, hown, hts⟩ hK (c_X2_isRuined l D kc a (w 0 3) w H.size _ h) (cwV 1 hts gX2_handsOn_X2_isRuined rfl rfl rfl (by decide +kernel) ⟨Nat.le_of_ble_eq_true rfl, Nat.le_of_ble_eq_true rfl⟩) (cut_same (fun u : S2 => cWl kc a u) w) hP hD hS hA 2 0 rfl rfl rfl hl.1 rfl (Nat.le_of_ble_eq_true rfl) dX2_handsOn_18 ⟨Nat.zero_le _, Nat.zero_le _⟩ (fun r6 u7 H locs h hP hD hS => ?_)
    obtain ⟨w5, rfl⟩ : ∃ z, z = u7 := ⟨_, rfl⟩
    have hP : va_P D vwCl (cWl kc a w5) H := hP
    have hD : va_D A (cWl kc a w5) := hD
    refine lv_goto (tgt := 43) hx hb dX2_handsOn_21 (by decide) ?_
    obtain ⟨hz8, h⟩ := h
    exact hret r6 w5 H locs ls _ (q_nar hz8) h hP hD hS dX2_handsOn_43

def w_X2_poorestBehindHolder (w : S2) (K : Int32 → S2 → Prop) : Prop := nm ((w 0 3) : Int32) (fun x1 => lfp2 (fun G7 (i2 : Int32) (i3 : Int32) => br ((w 0 0) ≤ i3) (K i2 w) ((¬ (w 0 0) = 0) ∧ (nm ((((w 0 3) + i3) - ((w 0 3) + i3) / (w 0 0) * (w 0 0)) : Int32) (fun x6 => jn (fun (i7 : Int32) => nm (i3 + 1 : Int32) (fun x8 => G7 i7 x8)) (fun J52 => jn (fun (_ : Unit) => J52 x6) (fun J50 => br (i2 = (w 0 3)) (J50 ()) (vp_in x6 5 ∧ (vp_in i2 5 ∧ (br ((w 2 i2.toNatClampNeg) ≤ (w 2 x6.toNatClampNeg)) (J52 i2) (J50 ())))))))))) x1 1)
abbrev rm_X2_poorestBehindHolder : Room := { frames := 0, cells := 0, slots := 0, locals := 0 }
set_option maxHeartbeats 4000000 in
set_option maxRecDepth 100000 in
theorem c_X2_poorestBehindHolder (l : Launch) (D : va_G) (kc : Nat → ClassId) (a : Nat → Nat) (w : S2) (sz : Nat) (K : Int32 → S2 → Prop) (h : w_X2_poorestBehindHolder w K) : MetI l yX2_poorestBehindHolder wsX2_poorestBehindHolder rm_X2_poorestBehindHolder D kc (fun u : S2 => cWl kc a u) w [.ref (a 0)] sz (fun r u => K r u) := by
  refine q_ei (code := cX2_poorestBehindHolder) (maxL := 4) (by decide) rfl (Nat.le_of_ble_eq_true rfl) ?_
  intro p e s m args below meth c Q A hx hb hml hts hown hK hA hret ls hl hP hD hS
  have hown : s.vm.findClass RX2 = some m.cls := hown
  have hl : lv_has ls 4 [(0, .ref (a 0))] := hl
  have hP : va_P D vwCl (cWl kc a w) s.heap := hP
  have hD : va_D A (cWl kc a w) := hD
  have hS : va_S A s.heap s.heap [] := hS
  obtain ⟨H, eH⟩ : ∃ z, z = s.heap := ⟨_, rfl⟩
  obtain ⟨locs, eL⟩ : ∃ z : List Loc, z = [] := ⟨_, rfl⟩
  have hP := q_heap hP eH
  have hS := q_heapS hS eH eL
  refine q_start eH eL ?_
  clear eH eL
  have hi2 : ∀ w ∈ u_ws RX2 TX2 13, w ∈ wsX2_poorestBehindHolder := by decide +kernel
  unfold w_X2_poorestBehindHolder at h
  refine lv_aload_n hx hb dX2_poorestBehindHolder_0 rfl (lv_at hl 0 rfl) ?_
  refine va_get (D := D) (ci := 2) (v := .int (w 0 3)) (C := RX2) (T := TX2) (N := 13) hx hb hts hi2 hown hK.1 hP 0 rfl rfl 3 (by decide) (hts (.fieldLink RX2 43 "LastPenny$World" "holder" "I") (by decide +kernel)) (fun _ h9 => h9) rfl dX2_poorestBehindHolder_1 ?_
  refine lv_topi (fun x1 ex1 => ?_)
  have h := nm_out h x1 ex1
  refine lv_istore_n (lv' := [(1, .int x1), (0, .ref (a 0))]) hx hb dX2_poorestBehindHolder_4 rfl hl (by decide) rfl (fun ls hl => ?_)
  refine lv_iconst (v := 1) hx hb dX2_poorestBehindHolder_5 (by decide) ?_
  refine lv_istore_n (lv' := [(2, .int 1), (1, .int x1), (0, .ref (a 0))]) hx hb dX2_poorestBehindHolder_6 rfl hl (by decide) rfl (fun ls hl => ?_)
  refine h (fun (i2 : Int32) (i3 : Int32) => ∀ (ls : Array Slot), lv_has ls 4 [(0, .ref (a 0)), (1, .int i2), (2, .int i3)] → W p l e rm_X2_poorestBehindHolder s m args below meth c H locs 0 0 Q (F0 m 7 ls [])) ?_ ls (lv_sub hl [2, 1, 0] rfl)
  intro i2 i3 h ls hl
  refine lv_iload_n hx hb dX2_poorestBehindHolder_7 rfl (lv_at hl 2 rfl) ?_
  refine lv_aload_n hx hb dX2_poorestBehindHolder_8 rfl (lv_at hl 0 rfl) ?_
  refine va_get (D := D) (ci := 2) (v := .int (w 0 0)) (C := RX2) (T := TX2) (N := 13) hx hb hts hi2 hown hK.1 hP 0 rfl rfl 0 (by decide) (hts (.fieldLink RX2 33 "LastPenny$World" "people" "I") (by decide +kernel)) (fun _ h9 => h9) rfl dX2_poorestBehindHolder_9 ?_
  refine lv_icmp_ge (tgt := 58) hx hb dX2_poorestBehindHolder_12 (by decide) (fun c4 => ?_) (fun c4 => ?_)
  · have h := br1 h c4
    refine lv_iload_n hx hb dX2_poorestBehindHolder_58 rfl (lv_at hl 1 rfl) ?_
    exact hret i2 w H locs ls _ h hP hD hS dX2_poorestBehindHolder_59
  · have h := br2 h c4
    refine lv_aload_n hx hb dX2_poorestBehindHolder_15 rfl (lv_at hl 0 rfl) ?_
    refine va_get (D := D) (ci := 2) (v := .int (w 0 3)) (C := RX2) (T := TX2) (N := 13) hx hb hts hi2 hown hK.1 hP 0 rfl rfl 3 (by decide) (hts (.fieldLink RX2 43 "LastPenny$World" "holder" "I") (by decide +kernel)) (fun _ h9 => h9) rfl dX2_poorestBehindHolder_16 ?_
    refine lv_iload_n hx hb dX2_poorestBehindHolder_19 rfl (lv_at hl 2 rfl) ?_
    refine lv_iadd hx hb dX2_poorestBehindHolder_20 ?_
    refine lv_aload_n hx hb dX2_poorestBehindHolder_21 rfl (lv_at hl 0 rfl) ?_
    refine va_get (D := D) (ci := 2) (v := .int (w 0 0)) (C := RX2) (T := TX2) (N := 13) hx hb hts hi2 hown hK.1 hP 0 rfl rfl 0 (by decide) (hts (.fieldLink RX2 33 "LastPenny$World" "people" "I") (by decide +kernel)) (fun _ h9 => h9) rfl dX2_poorestBehindHolder_22 ?_
    obtain ⟨hn5, h⟩ := h
    refine lv_irem hx hb dX2_poorestBehindHolder_25 hn5 ?_
    refine lv_topi (fun x6 ex6 => ?_)
    have h := nm_out h x6 ex6
    refine lv_istore_n (lv' := [(3, .int x6), (0, .ref (a 0)), (1, .int i2), (2, .int i3)]) hx hb dX2_poorestBehindHolder_26 rfl hl (by decide) rfl (fun ls hl => ?_)
    refine lv_iload_n hx hb dX2_poorestBehindHolder_27 rfl (lv_at hl 2 rfl) ?_
    refine lv_aload_n hx hb dX2_poorestBehindHolder_28 rfl (lv_at hl 1 rfl) ?_
    refine va_get (D := D) (ci := 2) (v := .int (w 0 3)) (C := RX2) (T := TX2) (N := 13) hx hb hts hi2 hown hK.1 hP 0 rfl rfl 3 (by decide) (hts (.fieldLink RX2 43 "LastPenny$World" "holder" "I") (by decide +kernel)) (fun _ h9 => h9) rfl dX2_poorestBehindHolder_29 ?_
    refine jn_elim h (fun J52 eJ52 h => ?_)
    have hJ_52 : ∀ (i7 : Int32) (ls : Array Slot), J52 i7 → lv_has ls 4 [(0, .ref (a 0)), (1, .int i7), (2, .int i3)] → W p l e rm_X2_poorestBehindHolder s m args below meth c H locs 0 0 Q (F0 m 52 ls []) := by
      intro i7 ls h hl
      subst eJ52
      obtain ⟨x8, ex8⟩ : ∃ z : Int32, z = i3 + 1 := ⟨_, rfl⟩
      have h := nm_out h x8 ex8
      refine lv_iinc (v := x8) (lv' := [(2, .int x8), (0, .ref (a 0)), (1, .int i7)]) hx hb dX2_poorestBehindHolder_52 hl (k := 2) rfl (by rw [ex8]; rfl) (by decide) rfl (fun ls hl => ?_)
      refine lv_goto (tgt := 7) hx hb dX2_poorestBehindHolder_55 (by decide) ?_
      exact h ls (lv_sub hl [1, 2, 0] rfl)
    refine jn_elim h (fun J50 eJ50 h => ?_)
    have hJ_50 : ∀  (ls : Array Slot), J50 () → lv_has ls 4 [(0, .ref (a 0)), (2, .int i3), (3, .int x6)] → W p l e rm_X2_poorestBehindHolder s m args below meth c H locs 0 0 Q (F0 m 50 ls []) := by
      intro  ls h hl
      subst eJ50
      refine lv_iload_n hx hb dX2_poorestBehindHolder_50 rfl (lv_at hl 2 rfl) ?_
      refine lv_istore_n (lv' := [(1, .int x6), (0, .ref (a 0)), (2, .int i3), (3, .int x6)]) hx hb dX2_poorestBehindHolder_51 rfl hl (by decide) rfl (fun ls hl => ?_)
      exact hJ_52 x6 ls h (lv_sub hl [1, 0, 2] rfl)
    refine lv_icmp_eq (tgt := 50) hx hb dX2_poorestBehindHolder_32 (by decide) (fun c9 => ?_) (fun c9 => ?_)
    · have h := br1 h c9
      exact hJ_50 ls h (lv_sub hl [1, 3, 0] rfl)
    · have h := br2 h c9
      refine lv_aload_n hx hb dX2_poorestBehindHolder_35 rfl (lv_at hl 1 rfl) ?_
      refine va_get (D := D) (ci := 2) (v := .ref (a 2)) (C := RX2) (T := TX2) (N := 13) hx hb hts hi2 hown hK.1 hP 0 rfl rfl 7 (by decide) (hts (.fieldLink RX2 15 "LastPenny$World" "meansOf" "[I") (by decide +kernel)) (fun _ h9 => h9) rfl dX2_poorestBehindHolder_36 ?_
      refine lv_iload_n hx hb dX2_poorestBehindHolder_39 rfl (lv_at hl 0 rfl) ?_
      obtain ⟨hi_10, h⟩ := h
      refine va_iald hx hb hK.1 hP 2 0 rfl rfl hi_10 dX2_poorestBehindHolder_40 ?_
      refine lv_aload_n hx hb dX2_poorestBehindHolder_41 rfl (lv_at hl 1 rfl) ?_
      refine va_get (D := D) (ci := 2) (v := .ref (a 2)) (C := RX2) (T := TX2) (N := 13) hx hb hts hi2 hown hK.1 hP 0 rfl rfl 7 (by decide) (hts (.fieldLink RX2 15 "LastPenny$World" "meansOf" "[I") (by decide +kernel)) (fun _ h9 => h9) rfl dX2_poorestBehindHolder_42 ?_
      refine lv_iload_n hx hb dX2_poorestBehindHolder_45 rfl (lv_at hl 2 rfl) ?_
      obtain ⟨hi_11, h⟩ := h
      refine va_iald hx hb hK.1 hP 2 0 rfl rfl hi_11 dX2_poorestBehindHolder_46 ?_
      refine lv_icmp_ge (tgt := 52) hx hb dX2_poorestBehindHolder_47 (by decide) (fun c12 => ?_) (fun c12 => ?_)
      · have h := br1 h c12
        exact hJ_52 i2 ls h (lv_sub hl [1, 2, 3] rfl)
      · have h := br2 h c12
        exact hJ_50 ls h (lv_sub hl [1, 3, 0] rfl)

def w_X2_step (w : S2) (K : Int32 → S2 → Prop) : Prop := w_X2_makeGifts w (fun w1 => jn (fun (k3 : Int32) (w4 : S2) => w_X2_earn k3 w4 (fun w5 => jn (fun (k7 : Int32) (w8 : S2) => jn (fun (w9 : S2) => nm ((va_up w9 0 (upd (w9 0) 1 ((w9 0 1) + 1))) : S2) (fun w10 => (k7 = 0 ∨ k7 = 1) ∧ K k7 w10)) (fun J85 => br (k7 = 0) (br ((w8 0 0) ≤ 0) (J85 w8) (vp_in (w8 0 3) 5 ∧ (vp_in (w8 0 3) 5 ∧ (nm ((va_up w8 4 (upd (w8 4) (w8 0 3).toNatClampNeg ((w8 4 (w8 0 3).toNatClampNeg) + 1))) : S2) (fun w16 => J85 w16))))) (w_X2_poorestBehindHolder w8 (fun r18 w17 => nm ((va_up w17 0 (upd (w17 0) 3 r18)) : S2) (fun w20 => J85 w20))))) (fun J49 => jn (fun (w21 : S2) => J49 0 w21) (fun J48 => br ((w5 0 0) ≤ 1) (J48 w5) (w_X2_handsOn w5 (fun r24 w23 => br (r24 = 0) (J48 w23) (J49 1 w23))))))) (fun J23 => br ((w1 0 0) ≤ 0) (J23 0 w1) (w_X2_coinBrings (w1 0 3) w1 (fun r29 w28 => J23 r29 w28))))
abbrev rm_X2_step : Room := { frames := 2, cells := 0, slots := 0, locals := 85 }
set_option maxHeartbeats 4000000 in
set_option maxRecDepth 100000 in
theorem c_X2_step (l : Launch) (D : va_G) (kc : Nat → ClassId) (a : Nat → Nat) (w : S2) (sz : Nat) (K : Int32 → S2 → Prop) (h : w_X2_step w K) : MetI l yX2_step wsX2_step rm_X2_step D kc (fun u : S2 => cWl kc a u) w [.ref (a 0)] sz (fun r u => K r u) := by
  refine q_ez (code := cX2_step) (maxL := 3) (by decide) rfl (Nat.le_of_ble_eq_true rfl) ?_
  intro p e s m args below meth c Q A hx hb hml hts hown hK hA hret ls hl hP hD hS
  have hown : s.vm.findClass RX2 = some m.cls := hown
  have hl : lv_has ls 3 [(0, .ref (a 0))] := hl
  have hP : va_P D vwCl (cWl kc a w) s.heap := hP
  have hD : va_D A (cWl kc a w) := hD
  have hS : va_S A s.heap s.heap [] := hS
  obtain ⟨H, eH⟩ : ∃ z, z = s.heap := ⟨_, rfl⟩
  obtain ⟨locs, eL⟩ : ∃ z : List Loc, z = [] := ⟨_, rfl⟩
  have hP := q_heap hP eH
  have hS := q_heapS hS eH eL
  refine q_start eH eL ?_
  clear eH eL
  have hi2 : ∀ w ∈ u_ws RX2 TX2 13, w ∈ wsX2_step := by decide +kernel
  unfold w_X2_step at h
  refine lv_aload_n hx hb dX2_step_0 rfl (lv_at hl 0 rfl) ?_
  refine q_cVv (As := []) (rest := []) ⟨hx, hb, hml, hown, hts⟩ hK (c_X2_makeGifts l D kc a w H.size _ h) (cwV 0 hts gX2_step_X2_makeGifts rfl rfl rfl (by decide +kernel) ⟨Nat.le_of_ble_eq_true rfl, Nat.le_of_ble_eq_true rfl⟩) (cut_same (fun u : S2 => cWl kc a u) w) hP hD hS hA 2 0 rfl rfl rfl hl.1 rfl (Nat.le_of_ble_eq_true rfl) dX2_step_1 ⟨Nat.zero_le _, Nat.zero_le _⟩ (fun u2 H locs h hP hD hS => ?_)
  obtain ⟨w1, rfl⟩ : ∃ z, z = u2 := ⟨_, rfl⟩
  have hP : va_P D vwCl (cWl kc a w1) H := hP
  have hD : va_D A (cWl kc a w1) := hD
  refine lv_aload_n hx hb dX2_step_4 rfl (lv_at hl 0 rfl) ?_
  refine va_get (D := D) (ci := 2) (v := .int (w1 0 0)) (C := RX2) (T := TX2) (N := 13) hx hb hts hi2 hown hK.1 hP 0 rfl rfl 0 (by decide) (hts (.fieldLink RX2 33 "LastPenny$World" "people" "I") (by decide +kernel)) (fun _ h9 => h9) rfl dX2_step_5 ?_
  refine jn_elim h (fun J23 eJ23 h => ?_)
  have hJ_23 : ∀ (k3 : Int32) (w4 : S2) (ls : Array Slot) (H : Heap) (locs : List Loc), J23 k3 w4 → lv_has ls 3 [(0, .ref (a 0))] → va_P D vwCl (cWl kc a w4) H → va_D A (cWl kc a w4) → va_S A s.heap H locs → W p l e rm_X2_step s m args below meth c H locs 0 0 Q (F0 m 23 ls [.int k3]) := by
    intro k3 w4 ls H locs h hl hP hD hS
    subst eJ23
    refine lv_istore_n (lv' := [(1, .int k3), (0, .ref (a 0))]) hx hb dX2_step_23 rfl hl (by decide) rfl (fun ls hl => ?_)
    refine lv_aload_n hx hb dX2_step_24 rfl (lv_at hl 1 rfl) ?_
    refine lv_iload_n hx hb dX2_step_25 rfl (lv_at hl 0 rfl) ?_
    refine q_cVv (As := [.int k3]) (rest := []) ⟨hx, hb, hml, hown, hts⟩ hK (c_X2_earn l D kc a k3 w4 H.size _ h) (cwV 1 hts gX2_step_X2_earn rfl rfl rfl (by decide +kernel) ⟨Nat.le_of_ble_eq_true rfl, Nat.le_of_ble_eq_true rfl⟩) (cut_same (fun u : S2 => cWl kc a u) w4) hP hD hS hA 2 0 rfl rfl rfl hl.1 rfl (Nat.le_of_ble_eq_true rfl) dX2_step_26 ⟨Nat.zero_le _, Nat.zero_le _⟩ (fun u6 H locs h hP hD hS => ?_)
    obtain ⟨w5, rfl⟩ : ∃ z, z = u6 := ⟨_, rfl⟩
    have hP : va_P D vwCl (cWl kc a w5) H := hP
    have hD : va_D A (cWl kc a w5) := hD
    refine lv_aload_n hx hb dX2_step_29 rfl (lv_at hl 1 rfl) ?_
    refine va_get (D := D) (ci := 2) (v := .int (w5 0 0)) (C := RX2) (T := TX2) (N := 13) hx hb hts hi2 hown hK.1 hP 0 rfl rfl 0 (by decide) (hts (.fieldLink RX2 33 "LastPenny$World" "people" "I") (by decide +kernel)) (fun _ h9 => h9) rfl dX2_step_30 ?_
    refine lv_iconst (v := 1) hx hb dX2_step_33 (by decide) ?_
    refine jn_elim h (fun J49 eJ49 h => ?_)
    have hJ_49 : ∀ (k7 : Int32) (w8 : S2) (ls : Array Slot) (H : Heap) (locs : List Loc), J49 k7 w8 → lv_has ls 3 [(0, .ref (a 0))] → va_P D vwCl (cWl kc a w8) H → va_D A (cWl kc a w8) → va_S A s.heap H locs → W p l e rm_X2_step s m args below meth c H locs 0 0 Q (F0 m 49 ls [.int k7]) := by
      intro k7 w8 ls H locs h hl hP hD hS
      subst eJ49
      refine lv_istore_n (lv' := [(2, .int k7), (0, .ref (a 0))]) hx hb dX2_step_49 rfl hl (by decide) rfl (fun ls hl => ?_)
      refine lv_iload_n hx hb dX2_step_50 rfl (lv_at hl 0 rfl) ?_
      refine jn_elim h (fun J85 eJ85 h => ?_)
      have hJ_85 : ∀ (w9 : S2) (ls : Array Slot) (H : Heap) (locs : List Loc), J85 w9 → lv_has ls 3 [(0, .ref (a 0)), (2, .int k7)] → va_P D vwCl (cWl kc a w9) H → va_D A (cWl kc a w9) → va_S A s.heap H locs → W p l e rm_X2_step s m args below meth c H locs 0 0 Q (F0 m 85 ls []) := by
        intro w9 ls H locs h hl hP hD hS
        subst eJ85
        refine lv_aload_n hx hb dX2_step_85 rfl (lv_at hl 0 rfl) ?_
        refine lv_dup hx hb dX2_step_86 rfl ?_
        refine va_get (D := D) (ci := 2) (v := .int (w9 0 1)) (C := RX2) (T := TX2) (N := 13) hx hb hts hi2 hown hK.1 hP 0 rfl rfl 1 (by decide) (hts (.fieldLink RX2 37 "LastPenny$World" "quarter" "I") (by decide +kernel)) (fun _ h9 => h9) rfl dX2_step_87 ?_
        refine lv_iconst (v := 1) hx hb dX2_step_90 (by decide) ?_
        refine lv_iadd hx hb dX2_step_91 ?_
        refine va_put (D := D) (ci := 2) (v := .int ((w9 0 1) + 1)) (ty := .int) (C := RX2) (T := TX2) (N := 13) hx hb hts hi2 tyX2 tyX2_ok nmX2 hown hK.1 hP hD hS 0 rfl rfl 1 (by decide) (hts (.fieldLink RX2 37 "LastPenny$World" "quarter" "I") (by decide +kernel)) (fun _ h9 => h9) rfl (by decide +kernel) rfl rfl (Nat.le_of_ble_eq_true rfl) dX2_step_92 (fun H locs hP hD hS => ?_)
        obtain ⟨w10, ew10⟩ : ∃ z, z = (va_up w9 0 (upd (w9 0) 1 ((w9 0 1) + 1))) := ⟨_, rfl⟩
        have h := nm_out h w10 ew10
        have hP : va_P D vwCl (cWl kc a w10) H := q_to hP (by subst ew10; rfl)
        have hD : va_D A (cWl kc a w10) := q_toD hD (by subst ew10; rfl)
        refine lv_iload_n hx hb dX2_step_95 rfl (lv_at hl 1 rfl) ?_
        obtain ⟨hz11, h⟩ := h
        exact hret k7 w10 H locs ls _ (q_nar hz11) h hP hD hS dX2_step_96
      refine lv_if_eq (tgt := 65) hx hb dX2_step_51 (by decide) (fun c12 => ?_) (fun c12 => ?_)
      · have h := br1 h c12
        refine lv_aload_n hx hb dX2_step_65 rfl (lv_at hl 1 rfl) ?_
        refine va_get (D := D) (ci := 2) (v := .int (w8 0 0)) (C := RX2) (T := TX2) (N := 13) hx hb hts hi2 hown hK.1 hP 0 rfl rfl 0 (by decide) (hts (.fieldLink RX2 33 "LastPenny$World" "people" "I") (by decide +kernel)) (fun _ h9 => h9) rfl dX2_step_66 ?_
        refine lv_if_le (tgt := 85) hx hb dX2_step_69 (by decide) (fun c13 => ?_) (fun c13 => ?_)
        · have h := br1 h c13
          exact hJ_85 w8 ls H locs h (lv_sub hl [1, 0] rfl) hP hD hS
        · have h := br2 h c13
          refine lv_aload_n hx hb dX2_step_72 rfl (lv_at hl 1 rfl) ?_
          refine va_get (D := D) (ci := 2) (v := .ref (a 4)) (C := RX2) (T := TX2) (N := 13) hx hb hts hi2 hown hK.1 hP 0 rfl rfl 9 (by decide) (hts (.fieldLink RX2 21 "LastPenny$World" "keptOf" "[I") (by decide +kernel)) (fun _ h9 => h9) rfl dX2_step_73 ?_
          refine lv_aload_n hx hb dX2_step_76 rfl (lv_at hl 1 rfl) ?_
          refine va_get (D := D) (ci := 2) (v := .int (w8 0 3)) (C := RX2) (T := TX2) (N := 13) hx hb hts hi2 hown hK.1 hP 0 rfl rfl 3 (by decide) (hts (.fieldLink RX2 43 "LastPenny$World" "holder" "I") (by decide +kernel)) (fun _ h9 => h9) rfl dX2_step_77 ?_
          refine lv_dup2_11 hx hb dX2_step_80 rfl rfl ?_
          obtain ⟨hi_14, h⟩ := h
          refine va_iald hx hb hK.1 hP 4 0 rfl rfl hi_14 dX2_step_81 ?_
          refine lv_iconst (v := 1) hx hb dX2_step_82 (by decide) ?_
          refine lv_iadd hx hb dX2_step_83 ?_
          obtain ⟨hi_15, h⟩ := h
          refine va_iast hx hb hK.1 hP hD hS 4 0 rfl rfl hi_15 dX2_step_84 (fun H locs hP hD hS => ?_)
          obtain ⟨w16, ew16⟩ : ∃ z, z = (va_up w8 4 (upd (w8 4) (w8 0 3).toNatClampNeg ((w8 4 (w8 0 3).toNatClampNeg) + 1))) := ⟨_, rfl⟩
          have h := nm_out h w16 ew16
          have hP : va_P D vwCl (cWl kc a w16) H := q_to hP (by subst ew16; rfl)
          have hD : va_D A (cWl kc a w16) := q_toD hD (by subst ew16; rfl)
          exact hJ_85 w16 ls H locs h (lv_sub hl [1, 0] rfl) hP hD hS
      · have h := br2 h c12
        refine lv_aload_n hx hb dX2_step_54 rfl (lv_at hl 1 rfl) ?_
        refine lv_aload_n hx hb dX2_step_55 rfl (lv_at hl 1 rfl) ?_
        refine q_cVi (As := []) (rest := [.ref (a 0)]) ⟨hx, hb, hml, hown, hts⟩ hK (c_X2_poorestBehindHolder l D kc a w8 H.size _ h) (cwV 0 hts gX2_step_X2_poorestBehindHolder rfl rfl rfl (by decide +kernel) ⟨Nat.le_of_ble_eq_true rfl, Nat.le_of_ble_eq_true rfl⟩) (cut_same (fun u : S2 => cWl kc a u) w8) hP hD hS hA 2 0 rfl rfl rfl hl.1 rfl (Nat.le_of_ble_eq_true rfl) dX2_step_56 ⟨Nat.zero_le _, Nat.zero_le _⟩ (fun r18 u19 H locs h hP hD hS => ?_)
        obtain ⟨w17, rfl⟩ : ∃ z, z = u19 := ⟨_, rfl⟩
        have hP : va_P D vwCl (cWl kc a w17) H := hP
        have hD : va_D A (cWl kc a w17) := hD
        refine va_put (D := D) (ci := 2) (v := .int r18) (ty := .int) (C := RX2) (T := TX2) (N := 13) hx hb hts hi2 tyX2 tyX2_ok nmX2 hown hK.1 hP hD hS 0 rfl rfl 3 (by decide) (hts (.fieldLink RX2 43 "LastPenny$World" "holder" "I") (by decide +kernel)) (fun _ h9 => h9) rfl (by decide +kernel) rfl rfl (Nat.le_of_ble_eq_true rfl) dX2_step_59 (fun H locs hP hD hS => ?_)
        obtain ⟨w20, ew20⟩ : ∃ z, z = (va_up w17 0 (upd (w17 0) 3 r18)) := ⟨_, rfl⟩
        have h := nm_out h w20 ew20
        have hP : va_P D vwCl (cWl kc a w20) H := q_to hP (by subst ew20; rfl)
        have hD : va_D A (cWl kc a w20) := q_toD hD (by subst ew20; rfl)
        refine lv_goto (tgt := 85) hx hb dX2_step_62 (by decide) ?_
        exact hJ_85 w20 ls H locs h (lv_sub hl [1, 0] rfl) hP hD hS
    refine jn_elim h (fun J48 eJ48 h => ?_)
    have hJ_48 : ∀ (w21 : S2) (ls : Array Slot) (H : Heap) (locs : List Loc), J48 w21 → lv_has ls 3 [(0, .ref (a 0))] → va_P D vwCl (cWl kc a w21) H → va_D A (cWl kc a w21) → va_S A s.heap H locs → W p l e rm_X2_step s m args below meth c H locs 0 0 Q (F0 m 48 ls []) := by
      intro w21 ls H locs h hl hP hD hS
      subst eJ48
      refine lv_iconst (v := 0) hx hb dX2_step_48 (by decide) ?_
      exact hJ_49 0 w21 ls H locs h (lv_sub hl [0] rfl) hP hD hS
    refine lv_icmp_le (tgt := 48) hx hb dX2_step_34 (by decide) (fun c22 => ?_) (fun c22 => ?_)
    · have h := br1 h c22
      exact hJ_48 w5 ls H locs h (lv_sub hl [1] rfl) hP hD hS
    · have h := br2 h c22
      refine lv_aload_n hx hb dX2_step_37 rfl (lv_at hl 1 rfl) ?_
      refine q_cVi (As := []) (rest := []) ⟨hx, hb, hml, hown, hts⟩ hK (c_X2_handsOn l D kc a w5 H.size _ h) (cwV 0 hts gX2_step_X2_handsOn rfl rfl rfl (by decide +kernel) ⟨Nat.le_of_ble_eq_true rfl, Nat.le_of_ble_eq_true rfl⟩) (cut_same (fun u : S2 => cWl kc a u) w5) hP hD hS hA 2 0 rfl rfl rfl hl.1 rfl (Nat.le_of_ble_eq_true rfl) dX2_step_38 ⟨Nat.zero_le _, Nat.zero_le _⟩ (fun r24 u25 H locs h hP hD hS => ?_)
      obtain ⟨w23, rfl⟩ : ∃ z, z = u25 := ⟨_, rfl⟩
      have hP : va_P D vwCl (cWl kc a w23) H := hP
      have hD : va_D A (cWl kc a w23) := hD
      refine lv_if_eq (tgt := 48) hx hb dX2_step_41 (by decide) (fun c26 => ?_) (fun c26 => ?_)
      · have h := br1 h c26
        exact hJ_48 w23 ls H locs h (lv_sub hl [1] rfl) hP hD hS
      · have h := br2 h c26
        refine lv_iconst (v := 1) hx hb dX2_step_44 (by decide) ?_
        refine lv_goto (tgt := 49) hx hb dX2_step_45 (by decide) ?_
        exact hJ_49 1 w23 ls H locs h (lv_sub hl [1] rfl) hP hD hS
  refine lv_if_le (tgt := 22) hx hb dX2_step_8 (by decide) (fun c27 => ?_) (fun c27 => ?_)
  · have h := br1 h c27
    refine lv_iconst (v := 0) hx hb dX2_step_22 (by decide) ?_
    exact hJ_23 0 w1 ls H locs h (lv_sub hl [0] rfl) hP hD hS
  · have h := br2 h c27
    refine lv_aload_n hx hb dX2_step_11 rfl (lv_at hl 0 rfl) ?_
    refine lv_aload_n hx hb dX2_step_12 rfl (lv_at hl 0 rfl) ?_
    refine va_get (D := D) (ci := 2) (v := .int (w1 0 3)) (C := RX2) (T := TX2) (N := 13) hx hb hts hi2 hown hK.1 hP 0 rfl rfl 3 (by decide) (hts (.fieldLink RX2 43 "LastPenny$World" "holder" "I") (by decide +kernel)) (fun _ h9 => h9) rfl dX2_step_13 ?_
    refine q_cVi (As := [.int (w1 0 3)]) (rest := []) ⟨hx, hb, hml, hown, hts⟩ hK (c_X2_coinBrings l D kc a (w1 0 3) w1 H.size _ h) (cwV 1 hts gX2_step_X2_coinBrings rfl rfl rfl (by decide +kernel) ⟨Nat.le_of_ble_eq_true rfl, Nat.le_of_ble_eq_true rfl⟩) (cut_same (fun u : S2 => cWl kc a u) w1) hP hD hS hA 2 0 rfl rfl rfl hl.1 rfl (Nat.le_of_ble_eq_true rfl) dX2_step_16 ⟨Nat.zero_le _, Nat.zero_le _⟩ (fun r29 u30 H locs h hP hD hS => ?_)
    obtain ⟨w28, rfl⟩ : ∃ z, z = u30 := ⟨_, rfl⟩
    have hP : va_P D vwCl (cWl kc a w28) H := hP
    have hD : va_D A (cWl kc a w28) := hD
    refine lv_goto (tgt := 23) hx hb dX2_step_19 (by decide) ?_
    exact hJ_23 r29 w28 ls H locs h (lv_sub hl [0] rfl) hP hD hS

def w_X2_pass (p1 : Int32) (w : S2) (K : S2 → Prop) : Prop := lfp2 (fun G2 (i1 : Int32) (w2 : S2) => br (p1 ≤ i1) (K w2) (w_X2_step w2 (fun r5 w4 => nm (i1 + 1 : Int32) (fun x7 => G2 x7 w4)))) 0 w
abbrev rm_X2_pass : Room := { frames := 3, cells := 0, slots := 0, locals := 107 }
set_option maxHeartbeats 4000000 in
set_option maxRecDepth 100000 in
theorem c_X2_pass (l : Launch) (D : va_G) (kc : Nat → ClassId) (a : Nat → Nat) (p1 : Int32) (w : S2) (sz : Nat) (K : S2 → Prop) (h : w_X2_pass p1 w K) : MetV l yX2_pass wsX2_pass rm_X2_pass D kc (fun u : S2 => cWl kc a u) w [.ref (a 0), .int p1] sz (fun u => K u) := by
  refine q_ev (code := cX2_pass) (maxL := 3) (by decide) rfl (Nat.le_of_ble_eq_true rfl) ?_
  intro p e s m args below meth c Q A hx hb hml hts hown hK hA hret ls hl hP hD hS
  have hown : s.vm.findClass RX2 = some m.cls := hown
  have hl : lv_has ls 3 [(0, .ref (a 0)), (1, .int p1)] := hl
  have hP : va_P D vwCl (cWl kc a w) s.heap := hP
  have hD : va_D A (cWl kc a w) := hD
  have hS : va_S A s.heap s.heap [] := hS
  obtain ⟨H, eH⟩ : ∃ z, z = s.heap := ⟨_, rfl⟩
  obtain ⟨locs, eL⟩ : ∃ z : List Loc, z = [] := ⟨_, rfl⟩
  have hP := q_heap hP eH
  have hS := q_heapS hS eH eL
  refine q_start eH eL ?_
  clear eH eL
  unfold w_X2_pass at h
  refine lv_iconst (v := 0) hx hb dX2_pass_0 (by decide) ?_
  refine lv_istore_n (lv' := [(2, .int 0), (0, .ref (a 0)), (1, .int p1)]) hx hb dX2_pass_1 rfl hl (by decide) rfl (fun ls hl => ?_)
  refine h (fun (i1 : Int32) (w2 : S2) => ∀ (ls : Array Slot) (H : Heap) (locs : List Loc), lv_has ls 3 [(0, .ref (a 0)), (1, .int p1), (2, .int i1)] → va_P D vwCl (cWl kc a w2) H → va_D A (cWl kc a w2) → va_S A s.heap H locs → W p l e rm_X2_pass s m args below meth c H locs 0 0 Q (F0 m 2 ls [])) ?_ ls H locs (lv_sub hl [1, 2, 0] rfl) hP hD hS
  intro i1 w2 h ls H locs hl hP hD hS
  refine lv_iload_n hx hb dX2_pass_2 rfl (lv_at hl 2 rfl) ?_
  refine lv_iload_n hx hb dX2_pass_3 rfl (lv_at hl 1 rfl) ?_
  refine lv_icmp_ge (tgt := 18) hx hb dX2_pass_4 (by decide) (fun c3 => ?_) (fun c3 => ?_)
  · have h := br1 h c3
    exact hret w2 H locs ls _ h hP hD hS dX2_pass_18
  · have h := br2 h c3
    refine lv_aload_n hx hb dX2_pass_7 rfl (lv_at hl 0 rfl) ?_
    refine q_cVi (As := []) (rest := []) ⟨hx, hb, hml, hown, hts⟩ hK (c_X2_step l D kc a w2 H.size _ h) (cwV 0 hts gX2_pass_X2_step rfl rfl rfl (by decide +kernel) ⟨Nat.le_of_ble_eq_true rfl, Nat.le_of_ble_eq_true rfl⟩) (cut_same (fun u : S2 => cWl kc a u) w2) hP hD hS hA 2 0 rfl rfl rfl hl.1 rfl (Nat.le_of_ble_eq_true rfl) dX2_pass_8 ⟨Nat.zero_le _, Nat.zero_le _⟩ (fun r5 u6 H locs h hP hD hS => ?_)
    obtain ⟨w4, rfl⟩ : ∃ z, z = u6 := ⟨_, rfl⟩
    have hP : va_P D vwCl (cWl kc a w4) H := hP
    have hD : va_D A (cWl kc a w4) := hD
    refine lv_pop hx hb dX2_pass_11 rfl ?_
    obtain ⟨x7, ex7⟩ : ∃ z : Int32, z = i1 + 1 := ⟨_, rfl⟩
    have h := nm_out h x7 ex7
    refine lv_iinc (v := x7) (lv' := [(2, .int x7), (0, .ref (a 0)), (1, .int p1)]) hx hb dX2_pass_12 hl (k := 2) rfl (by rw [ex7]; rfl) (by decide) rfl (fun ls hl => ?_)
    refine lv_goto (tgt := 2) hx hb dX2_pass_15 (by decide) ?_
    exact h ls H locs (lv_sub hl [1, 2, 0] rfl) hP hD hS

def w_X2_comesTo (p1 : Int32) (w : S2) (K : Int32 → S2 → Prop) : Prop := lfp2 (fun G2 (i1 : Int32) (w2 : S2) => br (60 < i1) (K (-4) w2) (br ((w2 0 3) = p1) (K i1 w2) (w_X2_step w2 (fun r6 w5 => nm (i1 + 1 : Int32) (fun x8 => G2 x8 w5))))) 0 w
abbrev rm_X2_comesTo : Room := { frames := 3, cells := 0, slots := 0, locals := 107 }
set_option maxHeartbeats 4000000 in
set_option maxRecDepth 100000 in
theorem c_X2_comesTo (l : Launch) (D : va_G) (kc : Nat → ClassId) (a : Nat → Nat) (p1 : Int32) (w : S2) (sz : Nat) (K : Int32 → S2 → Prop) (h : w_X2_comesTo p1 w K) : MetI l yX2_comesTo wsX2_comesTo rm_X2_comesTo D kc (fun u : S2 => cWl kc a u) w [.ref (a 0), .int p1] sz (fun r u => K r u) := by
  refine q_ei (code := cX2_comesTo) (maxL := 3) (by decide) rfl (Nat.le_of_ble_eq_true rfl) ?_
  intro p e s m args below meth c Q A hx hb hml hts hown hK hA hret ls hl hP hD hS
  have hown : s.vm.findClass RX2 = some m.cls := hown
  have hl : lv_has ls 3 [(0, .ref (a 0)), (1, .int p1)] := hl
  have hP : va_P D vwCl (cWl kc a w) s.heap := hP
  have hD : va_D A (cWl kc a w) := hD
  have hS : va_S A s.heap s.heap [] := hS
  obtain ⟨H, eH⟩ : ∃ z, z = s.heap := ⟨_, rfl⟩
  obtain ⟨locs, eL⟩ : ∃ z : List Loc, z = [] := ⟨_, rfl⟩
  have hP := q_heap hP eH
  have hS := q_heapS hS eH eL
  refine q_start eH eL ?_
  clear eH eL
  have hi2 : ∀ w ∈ u_ws RX2 TX2 13, w ∈ wsX2_comesTo := by decide +kernel
  unfold w_X2_comesTo at h
  refine lv_iconst (v := 0) hx hb dX2_comesTo_0 (by decide) ?_
  refine lv_istore_n (lv' := [(2, .int 0), (0, .ref (a 0)), (1, .int p1)]) hx hb dX2_comesTo_1 rfl hl (by decide) rfl (fun ls hl => ?_)
  refine h (fun (i1 : Int32) (w2 : S2) => ∀ (ls : Array Slot) (H : Heap) (locs : List Loc), lv_has ls 3 [(0, .ref (a 0)), (1, .int p1), (2, .int i1)] → va_P D vwCl (cWl kc a w2) H → va_D A (cWl kc a w2) → va_S A s.heap H locs → W p l e rm_X2_comesTo s m args below meth c H locs 0 0 Q (F0 m 2 ls [])) ?_ ls H locs (lv_sub hl [1, 2, 0] rfl) hP hD hS
  intro i1 w2 h ls H locs hl hP hD hS
  refine lv_iload_n hx hb dX2_comesTo_2 rfl (lv_at hl 2 rfl) ?_
  refine lv_bipush (v := 60) hx hb dX2_comesTo_3 (by decide) ?_
  refine lv_icmp_gt (tgt := 29) hx hb dX2_comesTo_5 (by decide) (fun c3 => ?_) (fun c3 => ?_)
  · have h := br1 h c3
    refine lv_bipush (v := -4) hx hb dX2_comesTo_29 (by decide) ?_
    exact hret (-4) w2 H locs ls _ h hP hD hS dX2_comesTo_31
  · have h := br2 h c3
    refine lv_aload_n hx hb dX2_comesTo_8 rfl (lv_at hl 0 rfl) ?_
    refine va_get (D := D) (ci := 2) (v := .int (w2 0 3)) (C := RX2) (T := TX2) (N := 13) hx hb hts hi2 hown hK.1 hP 0 rfl rfl 3 (by decide) (hts (.fieldLink RX2 43 "LastPenny$World" "holder" "I") (by decide +kernel)) (fun _ h9 => h9) rfl dX2_comesTo_9 ?_
    refine lv_iload_n hx hb dX2_comesTo_12 rfl (lv_at hl 1 rfl) ?_
    refine lv_icmp_ne (tgt := 18) hx hb dX2_comesTo_13 (by decide) (fun c4 => ?_) (fun c4 => ?_)
    · have h := br2 h c4
      refine lv_aload_n hx hb dX2_comesTo_18 rfl (lv_at hl 0 rfl) ?_
      refine q_cVi (As := []) (rest := []) ⟨hx, hb, hml, hown, hts⟩ hK (c_X2_step l D kc a w2 H.size _ h) (cwV 0 hts gX2_comesTo_X2_step rfl rfl rfl (by decide +kernel) ⟨Nat.le_of_ble_eq_true rfl, Nat.le_of_ble_eq_true rfl⟩) (cut_same (fun u : S2 => cWl kc a u) w2) hP hD hS hA 2 0 rfl rfl rfl hl.1 rfl (Nat.le_of_ble_eq_true rfl) dX2_comesTo_19 ⟨Nat.zero_le _, Nat.zero_le _⟩ (fun r6 u7 H locs h hP hD hS => ?_)
      obtain ⟨w5, rfl⟩ : ∃ z, z = u7 := ⟨_, rfl⟩
      have hP : va_P D vwCl (cWl kc a w5) H := hP
      have hD : va_D A (cWl kc a w5) := hD
      refine lv_pop hx hb dX2_comesTo_22 rfl ?_
      obtain ⟨x8, ex8⟩ : ∃ z : Int32, z = i1 + 1 := ⟨_, rfl⟩
      have h := nm_out h x8 ex8
      refine lv_iinc (v := x8) (lv' := [(2, .int x8), (0, .ref (a 0)), (1, .int p1)]) hx hb dX2_comesTo_23 hl (k := 2) rfl (by rw [ex8]; rfl) (by decide) rfl (fun ls hl => ?_)
      refine lv_goto (tgt := 2) hx hb dX2_comesTo_26 (by decide) ?_
      exact h ls H locs (lv_sub hl [1, 2, 0] rfl) hP hD hS
    · have h := br1 h c4
      refine lv_iload_n hx hb dX2_comesTo_16 rfl (lv_at hl 2 rfl) ?_
      exact hret i1 w2 H locs ls _ h hP hD hS dX2_comesTo_17

def w_X2_staysUp (p1 : Int32) (p2 : Int32) (w : S2) (K : Int32 → S2 → Prop) : Prop := lfp2 (fun G2 (i1 : Int32) (w2 : S2) => br (p2 ≤ i1) (K 1 w2) (w_X2_step w2 (fun r5 w4 => w_X2_isRuined p1 w4 (fun r8 w7 => br (r8 = 0) (nm (i1 + 1 : Int32) (fun x11 => G2 x11 w7)) (K 0 w7))))) 0 w
abbrev rm_X2_staysUp : Room := { frames := 3, cells := 0, slots := 0, locals := 107 }
set_option maxHeartbeats 4000000 in
set_option maxRecDepth 100000 in
theorem c_X2_staysUp (l : Launch) (D : va_G) (kc : Nat → ClassId) (a : Nat → Nat) (p1 : Int32) (p2 : Int32) (w : S2) (sz : Nat) (K : Int32 → S2 → Prop) (h : w_X2_staysUp p1 p2 w K) : MetI l yX2_staysUp wsX2_staysUp rm_X2_staysUp D kc (fun u : S2 => cWl kc a u) w [.ref (a 0), .int p1, .int p2] sz (fun r u => K r u) := by
  refine q_ez (code := cX2_staysUp) (maxL := 4) (by decide) rfl (Nat.le_of_ble_eq_true rfl) ?_
  intro p e s m args below meth c Q A hx hb hml hts hown hK hA hret ls hl hP hD hS
  have hown : s.vm.findClass RX2 = some m.cls := hown
  have hl : lv_has ls 4 [(0, .ref (a 0)), (1, .int p1), (2, .int p2)] := hl
  have hP : va_P D vwCl (cWl kc a w) s.heap := hP
  have hD : va_D A (cWl kc a w) := hD
  have hS : va_S A s.heap s.heap [] := hS
  obtain ⟨H, eH⟩ : ∃ z, z = s.heap := ⟨_, rfl⟩
  obtain ⟨locs, eL⟩ : ∃ z : List Loc, z = [] := ⟨_, rfl⟩
  have hP := q_heap hP eH
  have hS := q_heapS hS eH eL
  refine q_start eH eL ?_
  clear eH eL
  unfold w_X2_staysUp at h
  refine lv_iconst (v := 0) hx hb dX2_staysUp_0 (by decide) ?_
  refine lv_istore_n (lv' := [(3, .int 0), (0, .ref (a 0)), (1, .int p1), (2, .int p2)]) hx hb dX2_staysUp_1 rfl hl (by decide) rfl (fun ls hl => ?_)
  refine h (fun (i1 : Int32) (w2 : S2) => ∀ (ls : Array Slot) (H : Heap) (locs : List Loc), lv_has ls 4 [(0, .ref (a 0)), (1, .int p1), (2, .int p2), (3, .int i1)] → va_P D vwCl (cWl kc a w2) H → va_D A (cWl kc a w2) → va_S A s.heap H locs → W p l e rm_X2_staysUp s m args below meth c H locs 0 0 Q (F0 m 2 ls [])) ?_ ls H locs (lv_sub hl [1, 2, 3, 0] rfl) hP hD hS
  intro i1 w2 h ls H locs hl hP hD hS
  refine lv_iload_n hx hb dX2_staysUp_2 rfl (lv_at hl 3 rfl) ?_
  refine lv_iload_n hx hb dX2_staysUp_3 rfl (lv_at hl 2 rfl) ?_
  refine lv_icmp_ge (tgt := 28) hx hb dX2_staysUp_4 (by decide) (fun c3 => ?_) (fun c3 => ?_)
  · have h := br1 h c3
    refine lv_iconst (v := 1) hx hb dX2_staysUp_28 (by decide) ?_
    exact hret 1 w2 H locs ls _ rfl h hP hD hS dX2_staysUp_29
  · have h := br2 h c3
    refine lv_aload_n hx hb dX2_staysUp_7 rfl (lv_at hl 0 rfl) ?_
    refine q_cVi (As := []) (rest := []) ⟨hx, hb, hml, hown, hts⟩ hK (c_X2_step l D kc a w2 H.size _ h) (cwV 0 hts gX2_staysUp_X2_step rfl rfl rfl (by decide +kernel) ⟨Nat.le_of_ble_eq_true rfl, Nat.le_of_ble_eq_true rfl⟩) (cut_same (fun u : S2 => cWl kc a u) w2) hP hD hS hA 2 0 rfl rfl rfl hl.1 rfl (Nat.le_of_ble_eq_true rfl) dX2_staysUp_8 ⟨Nat.zero_le _, Nat.zero_le _⟩ (fun r5 u6 H locs h hP hD hS => ?_)
    obtain ⟨w4, rfl⟩ : ∃ z, z = u6 := ⟨_, rfl⟩
    have hP : va_P D vwCl (cWl kc a w4) H := hP
    have hD : va_D A (cWl kc a w4) := hD
    refine lv_pop hx hb dX2_staysUp_11 rfl ?_
    refine lv_aload_n hx hb dX2_staysUp_12 rfl (lv_at hl 0 rfl) ?_
    refine lv_iload_n hx hb dX2_staysUp_13 rfl (lv_at hl 1 rfl) ?_
    refine q_cVi (As := [.int p1]) (rest := []) ⟨hx, hb, hml, hown, hts⟩ hK (c_X2_isRuined l D kc a p1 w4 H.size _ h) (cwV 1 hts gX2_staysUp_X2_isRuined rfl rfl rfl (by decide +kernel) ⟨Nat.le_of_ble_eq_true rfl, Nat.le_of_ble_eq_true rfl⟩) (cut_same (fun u : S2 => cWl kc a u) w4) hP hD hS hA 2 0 rfl rfl rfl hl.1 rfl (Nat.le_of_ble_eq_true rfl) dX2_staysUp_14 ⟨Nat.zero_le _, Nat.zero_le _⟩ (fun r8 u9 H locs h hP hD hS => ?_)
    obtain ⟨w7, rfl⟩ : ∃ z, z = u9 := ⟨_, rfl⟩
    have hP : va_P D vwCl (cWl kc a w7) H := hP
    have hD : va_D A (cWl kc a w7) := hD
    refine lv_if_eq (tgt := 22) hx hb dX2_staysUp_17 (by decide) (fun c10 => ?_) (fun c10 => ?_)
    · have h := br1 h c10
      obtain ⟨x11, ex11⟩ : ∃ z : Int32, z = i1 + 1 := ⟨_, rfl⟩
      have h := nm_out h x11 ex11
      refine lv_iinc (v := x11) (lv' := [(3, .int x11), (0, .ref (a 0)), (1, .int p1), (2, .int p2)]) hx hb dX2_staysUp_22 hl (k := 3) rfl (by rw [ex11]; rfl) (by decide) rfl (fun ls hl => ?_)
      refine lv_goto (tgt := 2) hx hb dX2_staysUp_25 (by decide) ?_
      exact h ls H locs (lv_sub hl [1, 2, 3, 0] rfl) hP hD hS
    · have h := br2 h c10
      refine lv_iconst (v := 0) hx hb dX2_staysUp_20 (by decide) ?_
      exact hret 0 w7 H locs ls _ rfl h hP hD hS dX2_staysUp_21

def w_X2_trace (w : S2) (f : S1) (K : S2 → S1 → Prop) : Prop := lfp3 (fun G2 (i1 : Int32) (w2 : S2) (f3 : S1) => br (21 ≤ i1) (K w2 f3) (vp_in i1 21 ∧ (nm ((upd f3 i1.toNatClampNeg (w2 0 3)) : S1) (fun f6 => w_X2_step w2 (fun r8 w7 => nm (i1 + 1 : Int32) (fun x10 => G2 x10 w7 f6)))))) 0 w f
abbrev rm_X2_trace : Room := { frames := 3, cells := 0, slots := 0, locals := 107 }
set_option maxHeartbeats 4000000 in
set_option maxRecDepth 100000 in
theorem c_X2_trace (l : Launch) (D : va_G) (kc : Nat → ClassId) (a : Nat → Nat) (b : Nat) (w : S2) (f : S1) (sz : Nat) (K : S2 → S1 → Prop) (h : w_X2_trace w f K) : MetV l yX2_trace wsX2_trace rm_X2_trace D kc (fun u : S2 × S1 => cWl kc a u.1 ++ [(b, .inl (kc 0, 21, .inl u.2))]) (w, f) [.ref (a 0), .ref b] sz (fun u => K u.1 u.2) := by
  refine q_ev (code := cX2_trace) (maxL := 3) (by decide) rfl (Nat.le_of_ble_eq_true rfl) ?_
  intro p e s m args below meth c Q A hx hb hml hts hown hK hA hret ls hl hP hD hS
  have hown : s.vm.findClass RX2 = some m.cls := hown
  have hl : lv_has ls 3 [(0, .ref (a 0)), (1, .ref b)] := hl
  have hP : va_P D vwCl (cWl kc a w ++ [(b, .inl (kc 0, 21, .inl f))]) s.heap := hP
  have hD : va_D A (cWl kc a w ++ [(b, .inl (kc 0, 21, .inl f))]) := hD
  have hS : va_S A s.heap s.heap [] := hS
  obtain ⟨H, eH⟩ : ∃ z, z = s.heap := ⟨_, rfl⟩
  obtain ⟨locs, eL⟩ : ∃ z : List Loc, z = [] := ⟨_, rfl⟩
  have hP := q_heap hP eH
  have hS := q_heapS hS eH eL
  refine q_start eH eL ?_
  clear eH eL
  have hi2 : ∀ w ∈ u_ws RX2 TX2 13, w ∈ wsX2_trace := by decide +kernel
  unfold w_X2_trace at h
  refine lv_iconst (v := 0) hx hb dX2_trace_0 (by decide) ?_
  refine lv_istore_n (lv' := [(2, .int 0), (0, .ref (a 0)), (1, .ref b)]) hx hb dX2_trace_1 rfl hl (by decide) rfl (fun ls hl => ?_)
  refine h (fun (i1 : Int32) (w2 : S2) (f3 : S1) => ∀ (ls : Array Slot) (H : Heap) (locs : List Loc), lv_has ls 3 [(0, .ref (a 0)), (1, .ref b), (2, .int i1)] → va_P D vwCl (cWl kc a w2 ++ [(b, .inl (kc 0, 21, .inl f3))]) H → va_D A (cWl kc a w2 ++ [(b, .inl (kc 0, 21, .inl f3))]) → va_S A s.heap H locs → W p l e rm_X2_trace s m args below meth c H locs 0 0 Q (F0 m 2 ls [])) ?_ ls H locs (lv_sub hl [1, 2, 0] rfl) hP hD hS
  intro i1 w2 f3 h ls H locs hl hP hD hS
  refine lv_iload_n hx hb dX2_trace_2 rfl (lv_at hl 2 rfl) ?_
  refine lv_aload_n hx hb dX2_trace_3 rfl (lv_at hl 1 rfl) ?_
  refine va_alen hx hb hK.1 hP 8 0 rfl rfl (v := 21) rfl dX2_trace_4 ?_
  refine lv_icmp_ge (tgt := 26) hx hb dX2_trace_5 (by decide) (fun c4 => ?_) (fun c4 => ?_)
  · have h := br1 h c4
    exact hret (w2, f3) H locs ls _ h hP hD hS dX2_trace_26
  · have h := br2 h c4
    refine lv_aload_n hx hb dX2_trace_8 rfl (lv_at hl 1 rfl) ?_
    refine lv_iload_n hx hb dX2_trace_9 rfl (lv_at hl 2 rfl) ?_
    refine lv_aload_n hx hb dX2_trace_10 rfl (lv_at hl 0 rfl) ?_
    refine va_get (D := D) (ci := 2) (v := .int (w2 0 3)) (C := RX2) (T := TX2) (N := 13) hx hb hts hi2 hown hK.1 hP 0 rfl rfl 3 (by decide) (hts (.fieldLink RX2 43 "LastPenny$World" "holder" "I") (by decide +kernel)) (fun _ h9 => h9) rfl dX2_trace_11 ?_
    obtain ⟨hi_5, h⟩ := h
    refine va_iast hx hb hK.1 hP hD hS 8 0 rfl rfl hi_5 dX2_trace_14 (fun H locs hP hD hS => ?_)
    obtain ⟨f6, ef6⟩ : ∃ z, z = (upd f3 i1.toNatClampNeg (w2 0 3)) := ⟨_, rfl⟩
    have h := nm_out h f6 ef6
    have hP : va_P D vwCl (cWl kc a w2 ++ [(b, .inl (kc 0, 21, .inl f6))]) H := q_to hP (by subst ef6; rfl)
    have hD : va_D A (cWl kc a w2 ++ [(b, .inl (kc 0, 21, .inl f6))]) := q_toD hD (by subst ef6; rfl)
    refine lv_aload_n hx hb dX2_trace_15 rfl (lv_at hl 0 rfl) ?_
    refine q_cVi (As := []) (rest := []) ⟨hx, hb, hml, hown, hts⟩ hK (c_X2_step l D kc a w2 H.size _ h) (cwV 0 hts gX2_trace_X2_step rfl rfl rfl (by decide +kernel) ⟨Nat.le_of_ble_eq_true rfl, Nat.le_of_ble_eq_true rfl⟩) (cut_WR_W D kc a b w2 f6) hP hD hS hA 2 0 rfl rfl rfl hl.1 rfl (Nat.le_of_ble_eq_true rfl) dX2_trace_16 ⟨Nat.zero_le _, Nat.zero_le _⟩ (fun r8 u9 H locs h hP hD hS => ?_)
    obtain ⟨w7, rfl⟩ : ∃ z, z = u9 := ⟨_, rfl⟩
    have hP : va_P D vwCl (cWl kc a w7 ++ [(b, .inl (kc 0, 21, .inl f6))]) H := hP
    have hD : va_D A (cWl kc a w7 ++ [(b, .inl (kc 0, 21, .inl f6))]) := hD
    refine lv_pop hx hb dX2_trace_19 rfl ?_
    obtain ⟨x10, ex10⟩ : ∃ z : Int32, z = i1 + 1 := ⟨_, rfl⟩
    have h := nm_out h x10 ex10
    refine lv_iinc (v := x10) (lv' := [(2, .int x10), (0, .ref (a 0)), (1, .ref b)]) hx hb dX2_trace_20 hl (k := 2) rfl (by rw [ex10]; rfl) (by decide) rfl (fun ls hl => ?_)
    refine lv_goto (tgt := 2) hx hb dX2_trace_23 (by decide) ?_
    exact h ls H locs (lv_sub hl [1, 2, 0] rfl) hP hD hS

