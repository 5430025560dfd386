def w_X2_isAsSeen (w : S2) (f : S1) (K : Int32 → S2 → S1 → Prop) : Prop := lfp1 (fun G2 (i1 : Int32) => br ((w 0 5) ≤ i1) (K 1 w f) (vp_in i1 6 ∧ (vp_in (w 6 i1.toNatClampNeg) 21 ∧ (vp_in i1 6 ∧ (br ((f (w 6 i1.toNatClampNeg).toNatClampNeg) = (w 7 i1.toNatClampNeg)) (nm (i1 + 1 : Int32) (fun x7 => G2 x7)) (K 0 w f)))))) 0
abbrev rm_X2_isAsSeen : Room := { frames := 0, cells := 0, slots := 0, locals := 0 }
set_option maxHeartbeats 4000000 in
set_option maxRecDepth 100000 in
theorem c_X2_isAsSeen (l : Launch) (D : va_G) (kc : Nat → ClassId) (a : Nat → Nat) (b : Nat) (w : S2) (f : S1) (sz : Nat) (K : Int32 → S2 → S1 → Prop) (h : w_X2_isAsSeen w f K) : MetI l yX2_isAsSeen wsX2_isAsSeen rm_X2_isAsSeen D kc (fun u : S2 × S1 => cWl kc a u.1 ++ [(b, .inl (kc 0, 21, .inl u.2))]) (w, f) [.ref (a 0), .ref b] sz (fun r u => K r u.1 u.2) := by
  refine q_ez (code := cX2_isAsSeen) (maxL := 3) (by decide) rfl (Nat.le_of_ble_eq_true rfl) ?_
  intro p e s m args below meth c Q A hx hb hml hts hown hK hA hret ls hl hP hD hS
  have hown : s.vm.findClass RX2 = some m.cls := hown
  have hl : lv_has ls 3 [(0, .ref (a 0)), (1, .ref b)] := hl
  have hP : va_P D vwCl (cWl kc a w ++ [(b, .inl (kc 0, 21, .inl f))]) s.heap := hP
  have hD : va_D A (cWl kc a w ++ [(b, .inl (kc 0, 21, .inl f))]) := hD
  have hS : va_S A s.heap s.heap [] := hS
  obtain ⟨H, eH⟩ : ∃ z, z = s.heap := ⟨_, rfl⟩
  obtain ⟨locs, eL⟩ : ∃ z : List Loc, z = [] := ⟨_, rfl⟩
  have hP := q_heap hP eH
  have hS := q_heapS hS eH eL
  refine q_start eH eL ?_
  clear eH eL
  have hi2 : ∀ w ∈ u_ws RX2 TX2 13, w ∈ wsX2_isAsSeen := by decide +kernel
  unfold w_X2_isAsSeen at h
  refine lv_iconst (v := 0) hx hb dX2_isAsSeen_0 (by decide) ?_
  refine lv_istore_n (lv' := [(2, .int 0), (0, .ref (a 0)), (1, .ref b)]) hx hb dX2_isAsSeen_1 rfl hl (by decide) rfl (fun ls hl => ?_)
  refine h (fun (i1 : Int32) => ∀ (ls : Array Slot), lv_has ls 3 [(0, .ref (a 0)), (1, .ref b), (2, .int i1)] → W p l e rm_X2_isAsSeen s m args below meth c H locs 0 0 Q (F0 m 2 ls [])) ?_ ls (lv_sub hl [1, 2, 0] rfl)
  intro i1 h ls hl
  refine lv_iload_n hx hb dX2_isAsSeen_2 rfl (lv_at hl 2 rfl) ?_
  refine lv_aload_n hx hb dX2_isAsSeen_3 rfl (lv_at hl 0 rfl) ?_
  refine va_get (D := D) (ci := 2) (v := .int (w 0 5)) (C := RX2) (T := TX2) (N := 13) hx hb hts hi2 hown hK.1 hP 0 rfl rfl 5 (by decide) (hts (.fieldLink RX2 49 "LastPenny$World" "seen" "I") (by decide +kernel)) (fun _ h9 => h9) rfl dX2_isAsSeen_4 ?_
  refine lv_icmp_ge (tgt := 35) hx hb dX2_isAsSeen_7 (by decide) (fun c2 => ?_) (fun c2 => ?_)
  · have h := br1 h c2
    refine lv_iconst (v := 1) hx hb dX2_isAsSeen_35 (by decide) ?_
    exact hret 1 (w, f) H locs ls _ rfl h hP hD hS dX2_isAsSeen_36
  · have h := br2 h c2
    refine lv_aload_n hx hb dX2_isAsSeen_10 rfl (lv_at hl 1 rfl) ?_
    refine lv_aload_n hx hb dX2_isAsSeen_11 rfl (lv_at hl 0 rfl) ?_
    refine va_get (D := D) (ci := 2) (v := .ref (a 6)) (C := RX2) (T := TX2) (N := 13) hx hb hts hi2 hown hK.1 hP 0 rfl rfl 11 (by decide) (hts (.fieldLink RX2 27 "LastPenny$World" "seenBehind" "[I") (by decide +kernel)) (fun _ h9 => h9) rfl dX2_isAsSeen_12 ?_
    refine lv_iload_n hx hb dX2_isAsSeen_15 rfl (lv_at hl 2 rfl) ?_
    obtain ⟨hi_3, h⟩ := h
    refine va_iald hx hb hK.1 hP 6 0 rfl rfl hi_3 dX2_isAsSeen_16 ?_
    obtain ⟨hi_4, h⟩ := h
    refine va_iald hx hb hK.1 hP 8 0 rfl rfl hi_4 dX2_isAsSeen_17 ?_
    refine lv_aload_n hx hb dX2_isAsSeen_18 rfl (lv_at hl 0 rfl) ?_
    refine va_get (D := D) (ci := 2) (v := .ref (a 7)) (C := RX2) (T := TX2) (N := 13) hx hb hts hi2 hown hK.1 hP 0 rfl rfl 12 (by decide) (hts (.fieldLink RX2 30 "LastPenny$World" "seenWith" "[I") (by decide +kernel)) (fun _ h9 => h9) rfl dX2_isAsSeen_19 ?_
    refine lv_iload_n hx hb dX2_isAsSeen_22 rfl (lv_at hl 2 rfl) ?_
    obtain ⟨hi_5, h⟩ := h
    refine va_iald hx hb hK.1 hP 7 0 rfl rfl hi_5 dX2_isAsSeen_23 ?_
    refine lv_icmp_eq (tgt := 29) hx hb dX2_isAsSeen_24 (by decide) (fun c6 => ?_) (fun c6 => ?_)
    · have h := br1 h c6
      obtain ⟨x7, ex7⟩ : ∃ z : Int32, z = i1 + 1 := ⟨_, rfl⟩
      have h := nm_out h x7 ex7
      refine lv_iinc (v := x7) (lv' := [(2, .int x7), (0, .ref (a 0)), (1, .ref b)]) hx hb dX2_isAsSeen_29 hl (k := 2) rfl (by rw [ex7]; rfl) (by decide) rfl (fun ls hl => ?_)
      refine lv_goto (tgt := 2) hx hb dX2_isAsSeen_32 (by decide) ?_
      exact h ls (lv_sub hl [1, 2, 0] rfl)
    · have h := br2 h c6
      refine lv_iconst (v := 0) hx hb dX2_isAsSeen_27 (by decide) ?_
      exact hret 0 (w, f) H locs ls _ rfl h hP hD hS dX2_isAsSeen_28

