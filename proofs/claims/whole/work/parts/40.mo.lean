def w_X4_in (p0 : Int64) (p2 : Int64) (p4 : Int64) (K : Int32 → Prop) : Prop := br ((lg_cmp p0 p2) < 0) (K 0) (br (0 < (lg_cmp p0 p4)) (K 0) (K 1))
abbrev rm_X4_in : Room := { frames := 0, cells := 0, slots := 0, locals := 0 }
set_option maxHeartbeats 4000000 in
set_option maxRecDepth 100000 in
theorem c_X4_in (l : Launch) (D : va_G) (kc : Nat → ClassId) (p0 : Int64) (p2 : Int64) (p4 : Int64) (sz : Nat) (K : Int32 → Prop) (h : w_X4_in p0 p2 p4 K) : MetI l yX4_in wsX4_in rm_X4_in D kc (fun _ : Unit => []) () [.long p0, .long p2, .long p4] sz (fun r _ => K r) := by
  refine q_ez (code := cX4_in) (maxL := 6) (by decide) rfl (Nat.le_of_ble_eq_true rfl) ?_
  intro p e s m args below meth c Q A hx hb hml hts hown hK hA hret ls hl hP hD hS
  have hown : s.vm.findClass RX4 = some m.cls := hown
  have hl : lv_has ls 6 [(0, .long p0), (2, .long p2), (4, .long p4)] := hl
  have hP : va_P D vwCl [] s.heap := hP
  have hS : va_S A s.heap s.heap [] := hS
  obtain ⟨H, eH⟩ : ∃ z, z = s.heap := ⟨_, rfl⟩
  obtain ⟨locs, eL⟩ : ∃ z : List Loc, z = [] := ⟨_, rfl⟩
  have hP := q_heap hP eH
  have hS := q_heapS hS eH eL
  refine q_start eH eL ?_
  clear eH eL
  unfold w_X4_in at h
  refine lv_lload_n hx hb dX4_in_0 rfl (lv_at hl 0 rfl) ?_
  refine lv_lload_n hx hb dX4_in_1 rfl (lv_at hl 1 rfl) ?_
  refine W.lcmp hx hb dX4_in_2 ?_
  refine lv_if_lt (tgt := 17) hx hb dX4_in_3 (by decide) (fun c1 => ?_) (fun c1 => ?_)
  · have h := br1 h c1
    refine lv_iconst (v := 0) hx hb dX4_in_17 (by decide) ?_
    exact hret 0 () H locs ls _ rfl h hP hD hS dX4_in_18
  · have h := br2 h c1
    refine lv_lload_n hx hb dX4_in_6 rfl (lv_at hl 0 rfl) ?_
    refine lv_lload hx hb dX4_in_7 (lv_at hl 2 rfl) ?_
    refine W.lcmp hx hb dX4_in_9 ?_
    refine lv_if_gt (tgt := 17) hx hb dX4_in_10 (by decide) (fun c2 => ?_) (fun c2 => ?_)
    · have h := br1 h c2
      refine lv_iconst (v := 0) hx hb dX4_in_17 (by decide) ?_
      exact hret 0 () H locs ls _ rfl h hP hD hS dX4_in_18
    · have h := br2 h c2
      refine lv_iconst (v := 1) hx hb dX4_in_13 (by decide) ?_
      refine lv_goto (tgt := 18) hx hb dX4_in_14 (by decide) ?_
      exact hret 1 () H locs ls _ rfl h hP hD hS dX4_in_18

def w_X4_flag (p0 : Int32) (K : Int32 → Prop) : Prop := br (p0 = 0) (K 0) (K 1)
abbrev rm_X4_flag : Room := { frames := 0, cells := 0, slots := 0, locals := 0 }
set_option maxHeartbeats 4000000 in
set_option maxRecDepth 100000 in
theorem c_X4_flag (l : Launch) (D : va_G) (kc : Nat → ClassId) (p0 : Int32) (sz : Nat) (K : Int32 → Prop) (h : w_X4_flag p0 K) : MetI l yX4_flag wsX4_flag rm_X4_flag D kc (fun _ : Unit => []) () [.int p0] sz (fun r _ => K r) := by
  refine q_ei (code := cX4_flag) (maxL := 1) (by decide) rfl (Nat.le_of_ble_eq_true rfl) ?_
  intro p e s m args below meth c Q A hx hb hml hts hown hK hA hret ls hl hP hD hS
  have hown : s.vm.findClass RX4 = some m.cls := hown
  have hl : lv_has ls 1 [(0, .int p0)] := hl
  have hP : va_P D vwCl [] s.heap := hP
  have hS : va_S A s.heap s.heap [] := hS
  obtain ⟨H, eH⟩ : ∃ z, z = s.heap := ⟨_, rfl⟩
  obtain ⟨locs, eL⟩ : ∃ z : List Loc, z = [] := ⟨_, rfl⟩
  have hP := q_heap hP eH
  have hS := q_heapS hS eH eL
  refine q_start eH eL ?_
  clear eH eL
  unfold w_X4_flag at h
  refine lv_iload_n hx hb dX4_flag_0 rfl (lv_at hl 0 rfl) ?_
  refine lv_if_eq (tgt := 8) hx hb dX4_flag_1 (by decide) (fun c1 => ?_) (fun c1 => ?_)
  · have h := br1 h c1
    refine lv_iconst (v := 0) hx hb dX4_flag_8 (by decide) ?_
    exact hret 0 () H locs ls _ h hP hD hS dX4_flag_9
  · have h := br2 h c1
    refine lv_iconst (v := 1) hx hb dX4_flag_4 (by decide) ?_
    refine lv_goto (tgt := 9) hx hb dX4_flag_5 (by decide) ?_
    exact hret 1 () H locs ls _ h hP hD hS dX4_flag_9

def w_X4_within (p0 : Int32) (K : Int32 → Prop) : Prop := br (0 ≤ p0) (br (p0 ≤ 999) (K p0) (K 999)) (K 0)
abbrev rm_X4_within : Room := { frames := 0, cells := 0, slots := 0, locals := 0 }
set_option maxHeartbeats 4000000 in
set_option maxRecDepth 100000 in
theorem c_X4_within (l : Launch) (D : va_G) (kc : Nat → ClassId) (p0 : Int32) (sz : Nat) (K : Int32 → Prop) (h : w_X4_within p0 K) : MetI l yX4_within wsX4_within rm_X4_within D kc (fun _ : Unit => []) () [.int p0] sz (fun r _ => K r) := by
  refine q_ei (code := cX4_within) (maxL := 1) (by decide) rfl (Nat.le_of_ble_eq_true rfl) ?_
  intro p e s m args below meth c Q A hx hb hml hts hown hK hA hret ls hl hP hD hS
  have hown : s.vm.findClass RX4 = some m.cls := hown
  have hl : lv_has ls 1 [(0, .int p0)] := hl
  have hP : va_P D vwCl [] s.heap := hP
  have hS : va_S A s.heap s.heap [] := hS
  obtain ⟨H, eH⟩ : ∃ z, z = s.heap := ⟨_, rfl⟩
  obtain ⟨locs, eL⟩ : ∃ z : List Loc, z = [] := ⟨_, rfl⟩
  have hP := q_heap hP eH
  have hS := q_heapS hS eH eL
  refine q_start eH eL ?_
  clear eH eL
  unfold w_X4_within at h
  refine lv_iload_n hx hb dX4_within_0 rfl (lv_at hl 0 rfl) ?_
  refine lv_if_ge (tgt := 8) hx hb dX4_within_1 (by decide) (fun c1 => ?_) (fun c1 => ?_)
  · have h := br1 h c1
    refine lv_iload_n hx hb dX4_within_8 rfl (lv_at hl 0 rfl) ?_
    refine lv_sipush (v := 999) hx hb dX4_within_9 (by decide) ?_
    refine lv_icmp_le (tgt := 21) hx hb dX4_within_12 (by decide) (fun c2 => ?_) (fun c2 => ?_)
    · have h := br1 h c2
      refine lv_iload_n hx hb dX4_within_21 rfl (lv_at hl 0 rfl) ?_
      exact hret p0 () H locs ls _ h hP hD hS dX4_within_22
    · have h := br2 h c2
      refine lv_sipush (v := 999) hx hb dX4_within_15 (by decide) ?_
      refine lv_goto (tgt := 22) hx hb dX4_within_18 (by decide) ?_
      exact hret 999 () H locs ls _ h hP hD hS dX4_within_22
  · have h := br2 h c1
    refine lv_iconst (v := 0) hx hb dX4_within_4 (by decide) ?_
    refine lv_goto (tgt := 22) hx hb dX4_within_5 (by decide) ?_
    exact hret 0 () H locs ls _ h hP hD hS dX4_within_22

def w_X4_firstDraft (mo : S2) (lo : SL) (K : S2 → SL → Prop) : Prop := lfp3 (fun G2 (i1 : Int32) (mo2 : S2) (lo3 : SL) => br (57 ≤ i1) (nm ((va_up mo2 0 (upd (mo2 0) 5 0)) : S2) (fun mo5 => nm ((va_up mo5 0 (upd (mo5 0) 6 0)) : S2) (fun mo6 => nm ((va_up mo6 0 (upd (mo6 0) 7 0)) : S2) (fun mo7 => nm ((va_up mo7 0 (upd (mo7 0) 8 (-4))) : S2) (fun mo8 => K mo8 lo3))))) (vp_in i1 57 ∧ (nm ((va_up mo2 4 (upd (mo2 4) i1.toNatClampNeg 0)) : S2) (fun mo10 => nm (i1 + 1 : Int32) (fun x11 => G2 x11 mo10 lo3))))) 0 mo lo
abbrev rm_X4_firstDraft : Room := { frames := 0, cells := 0, slots := 0, locals := 0 }
set_option maxHeartbeats 4000000 in
set_option maxRecDepth 100000 in
theorem c_X4_firstDraft (l : Launch) (D : va_G) (kc : Nat → ClassId) (a : Nat → Nat) (mo : S2) (lo : SL) (sz : Nat) (K : S2 → SL → Prop) (h : w_X4_firstDraft mo lo K) : MetV l yX4_firstDraft wsX4_firstDraft rm_X4_firstDraft D kc (fun u : S2 × SL => cM kc a u.1 u.2) (mo, lo) [.ref (a 0)] sz (fun u => K u.1 u.2) := by
  refine q_ev (code := cX4_firstDraft) (maxL := 2) (by decide) rfl (Nat.le_of_ble_eq_true rfl) ?_
  intro p e s m args below meth c Q A hx hb hml hts hown hK hA hret ls hl hP hD hS
  have hown : s.vm.findClass RX4 = some m.cls := hown
  have hl : lv_has ls 2 [(0, .ref (a 0))] := hl
  have hP : va_P D vwCl (cM kc a mo lo) s.heap := hP
  have hD : va_D A (cM kc a mo lo) := hD
  have hS : va_S A s.heap s.heap [] := hS
  obtain ⟨H, eH⟩ : ∃ z, z = s.heap := ⟨_, rfl⟩
  obtain ⟨locs, eL⟩ : ∃ z : List Loc, z = [] := ⟨_, rfl⟩
  have hP := q_heap hP eH
  have hS := q_heapS hS eH eL
  refine q_start eH eL ?_
  clear eH eL
  have hi4 : ∀ w ∈ u_ws RX4 TX4 29, w ∈ wsX4_firstDraft := by decide +kernel
  unfold w_X4_firstDraft at h
  refine lv_iconst (v := 0) hx hb dX4_firstDraft_0 (by decide) ?_
  refine lv_istore_n (lv' := [(1, .int 0), (0, .ref (a 0))]) hx hb dX4_firstDraft_1 rfl hl (by decide) rfl (fun ls hl => ?_)
  refine h (fun (i1 : Int32) (mo2 : S2) (lo3 : SL) => ∀ (ls : Array Slot) (H : Heap) (locs : List Loc), lv_has ls 2 [(0, .ref (a 0)), (1, .int i1)] → va_P D vwCl (cM kc a mo2 lo3) H → va_D A (cM kc a mo2 lo3) → va_S A s.heap H locs → W p l e rm_X4_firstDraft s m args below meth c H locs 0 0 Q (F0 m 2 ls [])) ?_ ls H locs (lv_sub hl [1, 0] rfl) hP hD hS
  intro i1 mo2 lo3 h ls H locs hl hP hD hS
  refine lv_iload_n hx hb dX4_firstDraft_2 rfl (lv_at hl 1 rfl) ?_
  refine lv_bipush (v := 57) hx hb dX4_firstDraft_3 (by decide) ?_
  refine lv_icmp_ge (tgt := 21) hx hb dX4_firstDraft_5 (by decide) (fun c4 => ?_) (fun c4 => ?_)
  · have h := br1 h c4
    refine lv_aload_n hx hb dX4_firstDraft_21 rfl (lv_at hl 0 rfl) ?_
    refine lv_iconst (v := 0) hx hb dX4_firstDraft_22 (by decide) ?_
    refine va_put (D := D) (ci := 4) (v := .int 0) (ty := .int) (C := RX4) (T := TX4) (N := 29) hx hb hts hi4 tyX4 tyX4_ok nmX4 hown hK.1 hP hD hS 0 rfl rfl 5 (by decide) (hts (.fieldLink RX4 53 "LastPennyModel" "dPeople" "I") (by decide +kernel)) (fun _ h9 => h9) rfl (by decide +kernel) rfl rfl (Nat.le_of_ble_eq_true rfl) dX4_firstDraft_23 (fun H locs hP hD hS => ?_)
    obtain ⟨mo5, emo5⟩ : ∃ z, z = (va_up mo2 0 (upd (mo2 0) 5 0)) := ⟨_, rfl⟩
    have h := nm_out h mo5 emo5
    have hP : va_P D vwCl (cM kc a mo5 lo3) H := q_to hP (by subst emo5; rfl)
    have hD : va_D A (cM kc a mo5 lo3) := q_toD hD (by subst emo5; rfl)
    refine lv_aload_n hx hb dX4_firstDraft_26 rfl (lv_at hl 0 rfl) ?_
    refine lv_iconst (v := 0) hx hb dX4_firstDraft_27 (by decide) ?_
    refine va_put (D := D) (ci := 4) (v := .int 0) (ty := .boolean) (C := RX4) (T := TX4) (N := 29) hx hb hts hi4 tyX4 tyX4_ok nmX4 hown hK.1 hP hD hS 0 rfl rfl 6 (by decide) (hts (.fieldLink RX4 57 "LastPennyModel" "hasSlump" "Z") (by decide +kernel)) (fun _ h9 => h9) rfl (by decide +kernel) rfl rfl (Nat.le_of_ble_eq_true rfl) dX4_firstDraft_28 (fun H locs hP hD hS => ?_)
    obtain ⟨mo6, emo6⟩ : ∃ z, z = (va_up mo5 0 (upd (mo5 0) 6 0)) := ⟨_, rfl⟩
    have h := nm_out h mo6 emo6
    have hP : va_P D vwCl (cM kc a mo6 lo3) H := q_to hP (by subst emo6; rfl)
    have hD : va_D A (cM kc a mo6 lo3) := q_toD hD (by subst emo6; rfl)
    refine lv_aload_n hx hb dX4_firstDraft_31 rfl (lv_at hl 0 rfl) ?_
    refine lv_iconst (v := 0) hx hb dX4_firstDraft_32 (by decide) ?_
    refine va_put (D := D) (ci := 4) (v := .int 0) (ty := .boolean) (C := RX4) (T := TX4) (N := 29) hx hb hts hi4 tyX4 tyX4_ok nmX4 hown hK.1 hP hD hS 0 rfl rfl 7 (by decide) (hts (.fieldLink RX4 61 "LastPennyModel" "hasCoin" "Z") (by decide +kernel)) (fun _ h9 => h9) rfl (by decide +kernel) rfl rfl (Nat.le_of_ble_eq_true rfl) dX4_firstDraft_33 (fun H locs hP hD hS => ?_)
    obtain ⟨mo7, emo7⟩ : ∃ z, z = (va_up mo6 0 (upd (mo6 0) 7 0)) := ⟨_, rfl⟩
    have h := nm_out h mo7 emo7
    have hP : va_P D vwCl (cM kc a mo7 lo3) H := q_to hP (by subst emo7; rfl)
    have hD : va_D A (cM kc a mo7 lo3) := q_toD hD (by subst emo7; rfl)
    refine lv_aload_n hx hb dX4_firstDraft_36 rfl (lv_at hl 0 rfl) ?_
    refine lv_bipush (v := -4) hx hb dX4_firstDraft_37 (by decide) ?_
    refine va_put (D := D) (ci := 4) (v := .int (-4)) (ty := .int) (C := RX4) (T := TX4) (N := 29) hx hb hts hi4 tyX4 tyX4_ok nmX4 hown hK.1 hP hD hS 0 rfl rfl 8 (by decide) (hts (.fieldLink RX4 64 "LastPennyModel" "highest" "I") (by decide +kernel)) (fun _ h9 => h9) rfl (by decide +kernel) rfl rfl (Nat.le_of_ble_eq_true rfl) dX4_firstDraft_39 (fun H locs hP hD hS => ?_)
    obtain ⟨mo8, emo8⟩ : ∃ z, z = (va_up mo7 0 (upd (mo7 0) 8 (-4))) := ⟨_, rfl⟩
    have h := nm_out h mo8 emo8
    have hP : va_P D vwCl (cM kc a mo8 lo3) H := q_to hP (by subst emo8; rfl)
    have hD : va_D A (cM kc a mo8 lo3) := q_toD hD (by subst emo8; rfl)
    exact hret (mo8, lo3) H locs ls _ h hP hD hS dX4_firstDraft_42
  · have h := br2 h c4
    refine lv_aload_n hx hb dX4_firstDraft_8 rfl (lv_at hl 0 rfl) ?_
    refine va_get (D := D) (ci := 4) (v := .ref (a 4)) (C := RX4) (T := TX4) (N := 29) hx hb hts hi4 hown hK.1 hP 0 rfl rfl 4 (by decide) (hts (.fieldLink RX4 20 "LastPennyModel" "draft" "[I") (by decide +kernel)) (fun _ h9 => h9) rfl dX4_firstDraft_9 ?_
    refine lv_iload_n hx hb dX4_firstDraft_12 rfl (lv_at hl 1 rfl) ?_
    refine lv_iconst (v := 0) hx hb dX4_firstDraft_13 (by decide) ?_
    obtain ⟨hi_9, h⟩ := h
    refine va_iast hx hb hK.1 hP hD hS 4 0 rfl rfl hi_9 dX4_firstDraft_14 (fun H locs hP hD hS => ?_)
    obtain ⟨mo10, emo10⟩ : ∃ z, z = (va_up mo2 4 (upd (mo2 4) i1.toNatClampNeg 0)) := ⟨_, rfl⟩
    have h := nm_out h mo10 emo10
    have hP : va_P D vwCl (cM kc a mo10 lo3) H := q_to hP (by subst emo10; rfl)
    have hD : va_D A (cM kc a mo10 lo3) := q_toD hD (by subst emo10; rfl)
    obtain ⟨x11, ex11⟩ : ∃ z : Int32, z = i1 + 1 := ⟨_, rfl⟩
    have h := nm_out h x11 ex11
    refine lv_iinc (v := x11) (lv' := [(1, .int x11), (0, .ref (a 0))]) hx hb dX4_firstDraft_15 hl (k := 1) rfl (by rw [ex11]; rfl) (by decide) rfl (fun ls hl => ?_)
    refine lv_goto (tgt := 2) hx hb dX4_firstDraft_18 (by decide) ?_
    exact h ls H locs (lv_sub hl [1, 0] rfl) hP hD hS

def w_X4_keepDraft (mo : S2) (lo : SL) (K : S2 → SL → Prop) : Prop := lfp3 (fun G2 (i1 : Int32) (mo2 : S2) (lo3 : SL) => br (57 ≤ i1) (nm ((va_up mo2 0 (upd (mo2 0) 3 (mo2 0 5))) : S2) (fun mo5 => jn (fun (k6 : Int32) => nm ((va_up mo5 1 (upd (mo5 1) (22 : Int32).toNatClampNeg k6)) : S2) (fun mo7 => nm ((va_up mo7 3 (upd (mo7 3) (0 : Int32).toNatClampNeg (vp_nar .boolean 0))) : S2) (fun mo8 => nm ((va_up mo8 3 (upd (mo8 3) (1 : Int32).toNatClampNeg (vp_nar .boolean 0))) : S2) (fun mo9 => K mo9 lo3)))) (fun J59 => br ((mo5 0 3) = 0) (J59 (-4)) (J59 (mo5 1 (22 : Int32).toNatClampNeg))))) (vp_in i1 57 ∧ (vp_in i1 171 ∧ (nm ((va_up mo2 1 (upd (mo2 1) i1.toNatClampNeg (mo2 4 i1.toNatClampNeg))) : S2) (fun mo13 => nm (i1 + 1 : Int32) (fun x14 => G2 x14 mo13 lo3)))))) 0 mo lo
abbrev rm_X4_keepDraft : Room := { frames := 0, cells := 0, slots := 0, locals := 0 }
set_option maxHeartbeats 4000000 in
set_option maxRecDepth 100000 in
theorem c_X4_keepDraft (l : Launch) (D : va_G) (kc : Nat → ClassId) (a : Nat → Nat) (mo : S2) (lo : SL) (sz : Nat) (K : S2 → SL → Prop) (h : w_X4_keepDraft mo lo K) : MetV l yX4_keepDraft wsX4_keepDraft rm_X4_keepDraft D kc (fun u : S2 × SL => cM kc a u.1 u.2) (mo, lo) [.ref (a 0)] sz (fun u => K u.1 u.2) := by
  refine q_ev (code := cX4_keepDraft) (maxL := 2) (by decide) rfl (Nat.le_of_ble_eq_true rfl) ?_
  intro p e s m args below meth c Q A hx hb hml hts hown hK hA hret ls hl hP hD hS
  have hown : s.vm.findClass RX4 = some m.cls := hown
  have hl : lv_has ls 2 [(0, .ref (a 0))] := hl
  have hP : va_P D vwCl (cM kc a mo lo) s.heap := hP
  have hD : va_D A (cM kc a mo lo) := hD
  have hS : va_S A s.heap s.heap [] := hS
  obtain ⟨H, eH⟩ : ∃ z, z = s.heap := ⟨_, rfl⟩
  obtain ⟨locs, eL⟩ : ∃ z : List Loc, z = [] := ⟨_, rfl⟩
  have hP := q_heap hP eH
  have hS := q_heapS hS eH eL
  refine q_start eH eL ?_
  clear eH eL
  have hi4 : ∀ w ∈ u_ws RX4 TX4 29, w ∈ wsX4_keepDraft := by decide +kernel
  unfold w_X4_keepDraft at h
  refine lv_iconst (v := 0) hx hb dX4_keepDraft_0 (by decide) ?_
  refine lv_istore_n (lv' := [(1, .int 0), (0, .ref (a 0))]) hx hb dX4_keepDraft_1 rfl hl (by decide) rfl (fun ls hl => ?_)
  refine h (fun (i1 : Int32) (mo2 : S2) (lo3 : SL) => ∀ (ls : Array Slot) (H : Heap) (locs : List Loc), lv_has ls 2 [(0, .ref (a 0)), (1, .int i1)] → va_P D vwCl (cM kc a mo2 lo3) H → va_D A (cM kc a mo2 lo3) → va_S A s.heap H locs → W p l e rm_X4_keepDraft s m args below meth c H locs 0 0 Q (F0 m 2 ls [])) ?_ ls H locs (lv_sub hl [1, 0] rfl) hP hD hS
  intro i1 mo2 lo3 h ls H locs hl hP hD hS
  refine lv_iload_n hx hb dX4_keepDraft_2 rfl (lv_at hl 1 rfl) ?_
  refine lv_bipush (v := 57) hx hb dX4_keepDraft_3 (by decide) ?_
  refine lv_icmp_ge (tgt := 26) hx hb dX4_keepDraft_5 (by decide) (fun c4 => ?_) (fun c4 => ?_)
  · have h := br1 h c4
    refine lv_aload_n hx hb dX4_keepDraft_26 rfl (lv_at hl 0 rfl) ?_
    refine lv_aload_n hx hb dX4_keepDraft_27 rfl (lv_at hl 0 rfl) ?_
    refine va_get (D := D) (ci := 4) (v := .int (mo2 0 5)) (C := RX4) (T := TX4) (N := 29) hx hb hts hi4 hown hK.1 hP 0 rfl rfl 5 (by decide) (hts (.fieldLink RX4 53 "LastPennyModel" "dPeople" "I") (by decide +kernel)) (fun _ h9 => h9) rfl dX4_keepDraft_28 ?_
    refine va_put (D := D) (ci := 4) (v := .int (mo2 0 5)) (ty := .int) (C := RX4) (T := TX4) (N := 29) hx hb hts hi4 tyX4 tyX4_ok nmX4 hown hK.1 hP hD hS 0 rfl rfl 3 (by decide) (hts (.fieldLink RX4 67 "LastPennyModel" "people" "I") (by decide +kernel)) (fun _ h9 => h9) rfl (by decide +kernel) rfl rfl (Nat.le_of_ble_eq_true rfl) dX4_keepDraft_31 (fun H locs hP hD hS => ?_)
    obtain ⟨mo5, emo5⟩ : ∃ z, z = (va_up mo2 0 (upd (mo2 0) 3 (mo2 0 5))) := ⟨_, rfl⟩
    have h := nm_out h mo5 emo5
    have hP : va_P D vwCl (cM kc a mo5 lo3) H := q_to hP (by subst emo5; rfl)
    have hD : va_D A (cM kc a mo5 lo3) := q_toD hD (by subst emo5; rfl)
    refine lv_aload_n hx hb dX4_keepDraft_34 rfl (lv_at hl 0 rfl) ?_
    refine va_get (D := D) (ci := 4) (v := .ref (a 1)) (C := RX4) (T := TX4) (N := 29) hx hb hts hi4 hown hK.1 hP 0 rfl rfl 0 (by decide) (hts (.fieldLink RX4 7 "LastPennyModel" "st" "[I") (by decide +kernel)) (fun _ h9 => h9) rfl dX4_keepDraft_35 ?_
    refine lv_bipush (v := 22) hx hb dX4_keepDraft_38 (by decide) ?_
    refine lv_aload_n hx hb dX4_keepDraft_40 rfl (lv_at hl 0 rfl) ?_
    refine va_get (D := D) (ci := 4) (v := .int (mo5 0 3)) (C := RX4) (T := TX4) (N := 29) hx hb hts hi4 hown hK.1 hP 0 rfl rfl 3 (by decide) (hts (.fieldLink RX4 67 "LastPennyModel" "people" "I") (by decide +kernel)) (fun _ h9 => h9) rfl dX4_keepDraft_41 ?_
    refine jn_elim h (fun J59 eJ59 h => ?_)
    have hJ_59 : ∀ (k6 : Int32) (ls : Array Slot), J59 k6 → lv_has ls 2 [(0, .ref (a 0))] → W p l e rm_X4_keepDraft s m args below meth c H locs 0 0 Q (F0 m 59 ls [.int k6, .int 22, .ref (a 1)]) := by
      intro k6 ls h hl
      subst eJ59
      refine va_iast hx hb hK.1 hP hD hS 1 0 rfl rfl (by unfold vp_in; decide) dX4_keepDraft_59 (fun H locs hP hD hS => ?_)
      obtain ⟨mo7, emo7⟩ : ∃ z, z = (va_up mo5 1 (upd (mo5 1) (22 : Int32).toNatClampNeg k6)) := ⟨_, rfl⟩
      have h := nm_out h mo7 emo7
      have hP : va_P D vwCl (cM kc a mo7 lo3) H := q_to hP (by subst emo7; rfl)
      have hD : va_D A (cM kc a mo7 lo3) := q_toD hD (by subst emo7; rfl)
      refine lv_aload_n hx hb dX4_keepDraft_60 rfl (lv_at hl 0 rfl) ?_
      refine va_get (D := D) (ci := 4) (v := .ref (a 3)) (C := RX4) (T := TX4) (N := 29) hx hb hts hi4 hown hK.1 hP 0 rfl rfl 2 (by decide) (hts (.fieldLink RX4 16 "LastPennyModel" "isKept" "[Z") (by decide +kernel)) (fun _ h9 => h9) rfl dX4_keepDraft_61 ?_
      refine lv_iconst (v := 0) hx hb dX4_keepDraft_64 (by decide) ?_
      refine lv_iconst (v := 0) hx hb dX4_keepDraft_65 (by decide) ?_
      refine va_zast hx hb hK.1 hP hD hS 3 2 rfl rfl (by unfold vp_in; decide) dX4_keepDraft_66 (fun H locs hP hD hS => ?_)
      obtain ⟨mo8, emo8⟩ : ∃ z, z = (va_up mo7 3 (upd (mo7 3) (0 : Int32).toNatClampNeg (vp_nar .boolean 0))) := ⟨_, rfl⟩
      have h := nm_out h mo8 emo8
      have hP : va_P D vwCl (cM kc a mo8 lo3) H := q_to hP (by subst emo8; rfl)
      have hD : va_D A (cM kc a mo8 lo3) := q_toD hD (by subst emo8; rfl)
      refine lv_aload_n hx hb dX4_keepDraft_67 rfl (lv_at hl 0 rfl) ?_
      refine va_get (D := D) (ci := 4) (v := .ref (a 3)) (C := RX4) (T := TX4) (N := 29) hx hb hts hi4 hown hK.1 hP 0 rfl rfl 2 (by decide) (hts (.fieldLink RX4 16 "LastPennyModel" "isKept" "[Z") (by decide +kernel)) (fun _ h9 => h9) rfl dX4_keepDraft_68 ?_
      refine lv_iconst (v := 1) hx hb dX4_keepDraft_71 (by decide) ?_
      refine lv_iconst (v := 0) hx hb dX4_keepDraft_72 (by decide) ?_
      refine va_zast hx hb hK.1 hP hD hS 3 2 rfl rfl (by unfold vp_in; decide) dX4_keepDraft_73 (fun H locs hP hD hS => ?_)
      obtain ⟨mo9, emo9⟩ : ∃ z, z = (va_up mo8 3 (upd (mo8 3) (1 : Int32).toNatClampNeg (vp_nar .boolean 0))) := ⟨_, rfl⟩
      have h := nm_out h mo9 emo9
      have hP : va_P D vwCl (cM kc a mo9 lo3) H := q_to hP (by subst emo9; rfl)
      have hD : va_D A (cM kc a mo9 lo3) := q_toD hD (by subst emo9; rfl)
      exact hret (mo9, lo3) H locs ls _ h hP hD hS dX4_keepDraft_74
    refine lv_if_ne (tgt := 52) hx hb dX4_keepDraft_44 (by decide) (fun c10 => ?_) (fun c10 => ?_)
    · have h := br2 h c10
      refine lv_aload_n hx hb dX4_keepDraft_52 rfl (lv_at hl 0 rfl) ?_
      refine va_get (D := D) (ci := 4) (v := .ref (a 1)) (C := RX4) (T := TX4) (N := 29) hx hb hts hi4 hown hK.1 hP 0 rfl rfl 0 (by decide) (hts (.fieldLink RX4 7 "LastPennyModel" "st" "[I") (by decide +kernel)) (fun _ h9 => h9) rfl dX4_keepDraft_53 ?_
      refine lv_bipush (v := 22) hx hb dX4_keepDraft_56 (by decide) ?_
      refine va_iald hx hb hK.1 hP 1 0 rfl rfl (by unfold vp_in; decide) dX4_keepDraft_58 ?_
      exact hJ_59 (mo5 1 (22 : Int32).toNatClampNeg) ls h (lv_sub hl [0] rfl)
    · have h := br1 h c10
      refine lv_bipush (v := -4) hx hb dX4_keepDraft_47 (by decide) ?_
      refine lv_goto (tgt := 59) hx hb dX4_keepDraft_49 (by decide) ?_
      exact hJ_59 (-4) ls h (lv_sub hl [0] rfl)
  · have h := br2 h c4
    refine lv_aload_n hx hb dX4_keepDraft_8 rfl (lv_at hl 0 rfl) ?_
    refine va_get (D := D) (ci := 4) (v := .ref (a 1)) (C := RX4) (T := TX4) (N := 29) hx hb hts hi4 hown hK.1 hP 0 rfl rfl 0 (by decide) (hts (.fieldLink RX4 7 "LastPennyModel" "st" "[I") (by decide +kernel)) (fun _ h9 => h9) rfl dX4_keepDraft_9 ?_
    refine lv_iload_n hx hb dX4_keepDraft_12 rfl (lv_at hl 1 rfl) ?_
    refine lv_aload_n hx hb dX4_keepDraft_13 rfl (lv_at hl 0 rfl) ?_
    refine va_get (D := D) (ci := 4) (v := .ref (a 4)) (C := RX4) (T := TX4) (N := 29) hx hb hts hi4 hown hK.1 hP 0 rfl rfl 4 (by decide) (hts (.fieldLink RX4 20 "LastPennyModel" "draft" "[I") (by decide +kernel)) (fun _ h9 => h9) rfl dX4_keepDraft_14 ?_
    refine lv_iload_n hx hb dX4_keepDraft_17 rfl (lv_at hl 1 rfl) ?_
    obtain ⟨hi_11, h⟩ := h
    refine va_iald hx hb hK.1 hP 4 0 rfl rfl hi_11 dX4_keepDraft_18 ?_
    obtain ⟨hi_12, h⟩ := h
    refine va_iast hx hb hK.1 hP hD hS 1 0 rfl rfl hi_12 dX4_keepDraft_19 (fun H locs hP hD hS => ?_)
    obtain ⟨mo13, emo13⟩ : ∃ z, z = (va_up mo2 1 (upd (mo2 1) i1.toNatClampNeg (mo2 4 i1.toNatClampNeg))) := ⟨_, rfl⟩
    have h := nm_out h mo13 emo13
    have hP : va_P D vwCl (cM kc a mo13 lo3) H := q_to hP (by subst emo13; rfl)
    have hD : va_D A (cM kc a mo13 lo3) := q_toD hD (by subst emo13; rfl)
    obtain ⟨x14, ex14⟩ : ∃ z : Int32, z = i1 + 1 := ⟨_, rfl⟩
    have h := nm_out h x14 ex14
    refine lv_iinc (v := x14) (lv' := [(1, .int x14), (0, .ref (a 0))]) hx hb dX4_keepDraft_20 hl (k := 1) rfl (by rw [ex14]; rfl) (by decide) rfl (fun ls hl => ?_)
    refine lv_goto (tgt := 2) hx hb dX4_keepDraft_23 (by decide) ?_
    exact h ls H locs (lv_sub hl [1, 0] rfl) hP hD hS

def w_X4_feed (p1 : Int32) (mo : S2) (lo : SL) (K : Int32 → S2 → SL → Prop) : Prop := w_X4_in (p1.toInt64) (0 : Int64) (127 : Int64) (fun r1 => br (r1 = 0) (K (-1) mo lo) (br ((mo 0 10) = 160) (K (-3) mo lo) (vp_in (mo 0 10) 160 ∧ (nm ((va_up mo 5 (upd (mo 5) (mo 0 10).toNatClampNeg p1)) : S2) (fun mo6 => nm ((va_up mo6 0 (upd (mo6 0) 10 ((mo6 0 10) + 1))) : S2) (fun mo7 => K (mo7 0 10) mo7 lo))))))
abbrev rm_X4_feed : Room := { frames := 1, cells := 0, slots := 0, locals := 25 }
set_option maxHeartbeats 4000000 in
set_option maxRecDepth 100000 in
theorem c_X4_feed (l : Launch) (D : va_G) (kc : Nat → ClassId) (a : Nat → Nat) (p1 : Int32) (mo : S2) (lo : SL) (sz : Nat) (K : Int32 → S2 → SL → Prop) (h : w_X4_feed p1 mo lo K) : MetI l yX4_feed wsX4_feed rm_X4_feed D kc (fun u : S2 × SL => cM kc a u.1 u.2) (mo, lo) [.ref (a 0), .int p1] sz (fun r u => K r u.1 u.2) := by
  refine q_ei (code := cX4_feed) (maxL := 2) (by decide) rfl (Nat.le_of_ble_eq_true rfl) ?_
  intro p e s m args below meth c Q A hx hb hml hts hown hK hA hret ls hl hP hD hS
  have hown : s.vm.findClass RX4 = some m.cls := hown
  have hl : lv_has ls 2 [(0, .ref (a 0)), (1, .int p1)] := hl
  have hP : va_P D vwCl (cM kc a mo lo) s.heap := hP
  have hD : va_D A (cM kc a mo lo) := hD
  have hS : va_S A s.heap s.heap [] := hS
  obtain ⟨H, eH⟩ : ∃ z, z = s.heap := ⟨_, rfl⟩
  obtain ⟨locs, eL⟩ : ∃ z : List Loc, z = [] := ⟨_, rfl⟩
  have hP := q_heap hP eH
  have hS := q_heapS hS eH eL
  refine q_start eH eL ?_
  clear eH eL
  have hi4 : ∀ w ∈ u_ws RX4 TX4 29, w ∈ wsX4_feed := by decide +kernel
  unfold w_X4_feed at h
  refine lv_iload_n hx hb dX4_feed_0 rfl (lv_at hl 1 rfl) ?_
  refine lv_i2l hx hb dX4_feed_1 rfl ?_
  refine lv_lconst (v := 0) hx hb dX4_feed_2 (by decide) ?_
  refine lv_ldc2 (v := 127) hx hb hown (hts (.constantLong RX4 70 (127)) (by decide +kernel)) dX4_feed_3 ?_
  refine q_cSi (As := [.long (p1.toInt64), .long 0, .long 127]) (rest := []) ⟨hx, hb, hml, hown, hts⟩ hK (c_X4_in l D kc (p1.toInt64) (0 : Int64) (127 : Int64) H.size _ h) (va_cwS 3 hts gX4_feed_X4_in rfl rfl rfl (by decide +kernel) ⟨Nat.le_of_ble_eq_true rfl, Nat.le_of_ble_eq_true rfl⟩) (cut_nil _) hP hD hS hA rfl hl.1 rfl (Nat.le_of_ble_eq_true rfl) dX4_feed_6 ⟨Nat.zero_le _, Nat.zero_le _⟩ (fun r1 _ H locs h hP hD hS => ?_)
  have hP : va_P D vwCl (cM kc a mo lo) H := hP
  have hD : va_D A (cM kc a mo lo) := hD
  refine lv_if_ne (tgt := 14) hx hb dX4_feed_9 (by decide) (fun c3 => ?_) (fun c3 => ?_)
  · have h := br2 h c3
    refine lv_aload_n hx hb dX4_feed_14 rfl (lv_at hl 0 rfl) ?_
    refine va_get (D := D) (ci := 4) (v := .int (mo 0 10)) (C := RX4) (T := TX4) (N := 29) hx hb hts hi4 hown hK.1 hP 0 rfl rfl 10 (by decide) (hts (.fieldLink RX4 76 "LastPennyModel" "taped" "I") (by decide +kernel)) (fun _ h9 => h9) rfl dX4_feed_15 ?_
    refine lv_sipush (v := 160) hx hb dX4_feed_18 (by decide) ?_
    refine lv_icmp_ne (tgt := 27) hx hb dX4_feed_21 (by decide) (fun c4 => ?_) (fun c4 => ?_)
    · have h := br2 h c4
      refine lv_aload_n hx hb dX4_feed_27 rfl (lv_at hl 0 rfl) ?_
      refine va_get (D := D) (ci := 4) (v := .ref (a 5)) (C := RX4) (T := TX4) (N := 29) hx hb hts hi4 hown hK.1 hP 0 rfl rfl 9 (by decide) (hts (.fieldLink RX4 23 "LastPennyModel" "tape" "[I") (by decide +kernel)) (fun _ h9 => h9) rfl dX4_feed_28 ?_
      refine lv_aload_n hx hb dX4_feed_31 rfl (lv_at hl 0 rfl) ?_
      refine va_get (D := D) (ci := 4) (v := .int (mo 0 10)) (C := RX4) (T := TX4) (N := 29) hx hb hts hi4 hown hK.1 hP 0 rfl rfl 10 (by decide) (hts (.fieldLink RX4 76 "LastPennyModel" "taped" "I") (by decide +kernel)) (fun _ h9 => h9) rfl dX4_feed_32 ?_
      refine lv_iload_n hx hb dX4_feed_35 rfl (lv_at hl 1 rfl) ?_
      obtain ⟨hi_5, h⟩ := h
      refine va_iast hx hb hK.1 hP hD hS 5 0 rfl rfl hi_5 dX4_feed_36 (fun H locs hP hD hS => ?_)
      obtain ⟨mo6, emo6⟩ : ∃ z, z = (va_up mo 5 (upd (mo 5) (mo 0 10).toNatClampNeg p1)) := ⟨_, rfl⟩
      have h := nm_out h mo6 emo6
      have hP : va_P D vwCl (cM kc a mo6 lo) H := q_to hP (by subst emo6; rfl)
      have hD : va_D A (cM kc a mo6 lo) := q_toD hD (by subst emo6; rfl)
      refine lv_aload_n hx hb dX4_feed_37 rfl (lv_at hl 0 rfl) ?_
      refine lv_dup hx hb dX4_feed_38 rfl ?_
      refine va_get (D := D) (ci := 4) (v := .int (mo6 0 10)) (C := RX4) (T := TX4) (N := 29) hx hb hts hi4 hown hK.1 hP 0 rfl rfl 10 (by decide) (hts (.fieldLink RX4 76 "LastPennyModel" "taped" "I") (by decide +kernel)) (fun _ h9 => h9) rfl dX4_feed_39 ?_
      refine lv_iconst (v := 1) hx hb dX4_feed_42 (by decide) ?_
      refine lv_iadd hx hb dX4_feed_43 ?_
      refine va_put (D := D) (ci := 4) (v := .int ((mo6 0 10) + 1)) (ty := .int) (C := RX4) (T := TX4) (N := 29) hx hb hts hi4 tyX4 tyX4_ok nmX4 hown hK.1 hP hD hS 0 rfl rfl 10 (by decide) (hts (.fieldLink RX4 76 "LastPennyModel" "taped" "I") (by decide +kernel)) (fun _ h9 => h9) rfl (by decide +kernel) rfl rfl (Nat.le_of_ble_eq_true rfl) dX4_feed_44 (fun H locs hP hD hS => ?_)
      obtain ⟨mo7, emo7⟩ : ∃ z, z = (va_up mo6 0 (upd (mo6 0) 10 ((mo6 0 10) + 1))) := ⟨_, rfl⟩
      have h := nm_out h mo7 emo7
      have hP : va_P D vwCl (cM kc a mo7 lo) H := q_to hP (by subst emo7; rfl)
      have hD : va_D A (cM kc a mo7 lo) := q_toD hD (by subst emo7; rfl)
      refine lv_aload_n hx hb dX4_feed_47 rfl (lv_at hl 0 rfl) ?_
      refine va_get (D := D) (ci := 4) (v := .int (mo7 0 10)) (C := RX4) (T := TX4) (N := 29) hx hb hts hi4 hown hK.1 hP 0 rfl rfl 10 (by decide) (hts (.fieldLink RX4 76 "LastPennyModel" "taped" "I") (by decide +kernel)) (fun _ h9 => h9) rfl dX4_feed_48 ?_
      exact hret (mo7 0 10) (mo7, lo) H locs ls _ h hP hD hS dX4_feed_51
    · have h := br1 h c4
      refine lv_bipush (v := -3) hx hb dX4_feed_24 (by decide) ?_
      exact hret (-3) (mo, lo) H locs ls _ h hP hD hS dX4_feed_26
  · have h := br1 h c3
    refine lv_iconst (v := -1) hx hb dX4_feed_12 (by decide) ?_
    exact hret (-1) (mo, lo) H locs ls _ h hP hD hS dX4_feed_13

def w_X4_end (p1 : Int32) (mo : S2) (lo : SL) (K : Int32 → S2 → SL → Prop) : Prop := w_X4_in (p1.toInt64) (0 : Int64) ((mo 0 10).toInt64) (fun r1 => br (r1 = 0) (K (-1) mo lo) (nm ((mo 0 10) : Int32) (fun x4 => nm ((va_up mo 0 (upd (mo 0) 10 p1)) : S2) (fun mo5 => K x4 mo5 lo))))
abbrev rm_X4_end : Room := { frames := 1, cells := 0, slots := 0, locals := 25 }
set_option maxHeartbeats 4000000 in
set_option maxRecDepth 100000 in
theorem c_X4_end (l : Launch) (D : va_G) (kc : Nat → ClassId) (a : Nat → Nat) (p1 : Int32) (mo : S2) (lo : SL) (sz : Nat) (K : Int32 → S2 → SL → Prop) (h : w_X4_end p1 mo lo K) : MetI l yX4_end wsX4_end rm_X4_end D kc (fun u : S2 × SL => cM kc a u.1 u.2) (mo, lo) [.ref (a 0), .int p1] sz (fun r u => K r u.1 u.2) := by
  refine q_ei (code := cX4_end) (maxL := 3) (by decide) rfl (Nat.le_of_ble_eq_true rfl) ?_
  intro p e s m args below meth c Q A hx hb hml hts hown hK hA hret ls hl hP hD hS
  have hown : s.vm.findClass RX4 = some m.cls := hown
  have hl : lv_has ls 3 [(0, .ref (a 0)), (1, .int p1)] := hl
  have hP : va_P D vwCl (cM kc a mo lo) s.heap := hP
  have hD : va_D A (cM kc a mo lo) := hD
  have hS : va_S A s.heap s.heap [] := hS
  obtain ⟨H, eH⟩ : ∃ z, z = s.heap := ⟨_, rfl⟩
  obtain ⟨locs, eL⟩ : ∃ z : List Loc, z = [] := ⟨_, rfl⟩
  have hP := q_heap hP eH
  have hS := q_heapS hS eH eL
  refine q_start eH eL ?_
  clear eH eL
  have hi4 : ∀ w ∈ u_ws RX4 TX4 29, w ∈ wsX4_end := by decide +kernel
  unfold w_X4_end at h
  refine lv_iload_n hx hb dX4_end_0 rfl (lv_at hl 1 rfl) ?_
  refine lv_i2l hx hb dX4_end_1 rfl ?_
  refine lv_lconst (v := 0) hx hb dX4_end_2 (by decide) ?_
  refine lv_aload_n hx hb dX4_end_3 rfl (lv_at hl 0 rfl) ?_
  refine va_get (D := D) (ci := 4) (v := .int (mo 0 10)) (C := RX4) (T := TX4) (N := 29) hx hb hts hi4 hown hK.1 hP 0 rfl rfl 10 (by decide) (hts (.fieldLink RX4 76 "LastPennyModel" "taped" "I") (by decide +kernel)) (fun _ h9 => h9) rfl dX4_end_4 ?_
  refine lv_i2l hx hb dX4_end_7 rfl ?_
  refine q_cSi (As := [.long (p1.toInt64), .long 0, .long ((mo 0 10).toInt64)]) (rest := []) ⟨hx, hb, hml, hown, hts⟩ hK (c_X4_in l D kc (p1.toInt64) (0 : Int64) ((mo 0 10).toInt64) H.size _ h) (va_cwS 3 hts gX4_end_X4_in rfl rfl rfl (by decide +kernel) ⟨Nat.le_of_ble_eq_true rfl, Nat.le_of_ble_eq_true rfl⟩) (cut_nil _) hP hD hS hA rfl hl.1 rfl (Nat.le_of_ble_eq_true rfl) dX4_end_8 ⟨Nat.zero_le _, Nat.zero_le _⟩ (fun r1 _ H locs h hP hD hS => ?_)
  have hP : va_P D vwCl (cM kc a mo lo) H := hP
  have hD : va_D A (cM kc a mo lo) := hD
  refine lv_if_ne (tgt := 16) hx hb dX4_end_11 (by decide) (fun c3 => ?_) (fun c3 => ?_)
  · have h := br2 h c3
    refine lv_aload_n hx hb dX4_end_16 rfl (lv_at hl 0 rfl) ?_
    refine va_get (D := D) (ci := 4) (v := .int (mo 0 10)) (C := RX4) (T := TX4) (N := 29) hx hb hts hi4 hown hK.1 hP 0 rfl rfl 10 (by decide) (hts (.fieldLink RX4 76 "LastPennyModel" "taped" "I") (by decide +kernel)) (fun _ h9 => h9) rfl dX4_end_17 ?_
    refine lv_topi (fun x4 ex4 => ?_)
    have h := nm_out h x4 ex4
    refine lv_istore_n (lv' := [(2, .int x4), (0, .ref (a 0)), (1, .int p1)]) hx hb dX4_end_20 rfl hl (by decide) rfl (fun ls hl => ?_)
    refine lv_aload_n hx hb dX4_end_21 rfl (lv_at hl 1 rfl) ?_
    refine lv_iload_n hx hb dX4_end_22 rfl (lv_at hl 2 rfl) ?_
    refine va_put (D := D) (ci := 4) (v := .int p1) (ty := .int) (C := RX4) (T := TX4) (N := 29) hx hb hts hi4 tyX4 tyX4_ok nmX4 hown hK.1 hP hD hS 0 rfl rfl 10 (by decide) (hts (.fieldLink RX4 76 "LastPennyModel" "taped" "I") (by decide +kernel)) (fun _ h9 => h9) rfl (by decide +kernel) rfl rfl (Nat.le_of_ble_eq_true rfl) dX4_end_23 (fun H locs hP hD hS => ?_)
    obtain ⟨mo5, emo5⟩ : ∃ z, z = (va_up mo 0 (upd (mo 0) 10 p1)) := ⟨_, rfl⟩
    have h := nm_out h mo5 emo5
    have hP : va_P D vwCl (cM kc a mo5 lo) H := q_to hP (by subst emo5; rfl)
    have hD : va_D A (cM kc a mo5 lo) := q_toD hD (by subst emo5; rfl)
    refine lv_iload_n hx hb dX4_end_26 rfl (lv_at hl 0 rfl) ?_
    exact hret x4 (mo5, lo) H locs ls _ h hP hD hS dX4_end_27
  · have h := br1 h c3
    refine lv_iconst (v := -1) hx hb dX4_end_14 (by decide) ?_
    exact hret (-1) (mo, lo) H locs ls _ h hP hD hS dX4_end_15

def w_X4_needs (p1 : Int32) (p2 : Int32) (mo : S2) (lo : SL) (K : S2 → SL → Prop) : Prop := br (p1 = 0) (br ((mo 0 15) = 0) (nm ((va_up mo 0 (upd (mo 0) 15 p2)) : S2) (fun mo3 => nm ((va_up mo3 0 (upd (mo3 0) 16 (mo3 0 12))) : S2) (fun mo4 => K mo4 lo))) (K mo lo)) (K mo lo)
abbrev rm_X4_needs : Room := { frames := 0, cells := 0, slots := 0, locals := 0 }
set_option maxHeartbeats 4000000 in
set_option maxRecDepth 100000 in
theorem c_X4_needs (l : Launch) (D : va_G) (kc : Nat → ClassId) (a : Nat → Nat) (p1 : Int32) (p2 : Int32) (mo : S2) (lo : SL) (sz : Nat) (K : S2 → SL → Prop) (h : w_X4_needs p1 p2 mo lo K) : MetV l yX4_needs wsX4_needs rm_X4_needs D kc (fun u : S2 × SL => cM kc a u.1 u.2) (mo, lo) [.ref (a 0), .int p1, .int p2] sz (fun u => K u.1 u.2) := by
  refine q_ev (code := cX4_needs) (maxL := 3) (by decide) rfl (Nat.le_of_ble_eq_true rfl) ?_
  intro p e s m args below meth c Q A hx hb hml hts hown hK hA hret ls hl hP hD hS
  have hown : s.vm.findClass RX4 = some m.cls := hown
  have hl : lv_has ls 3 [(0, .ref (a 0)), (1, .int p1), (2, .int p2)] := hl
  have hP : va_P D vwCl (cM kc a mo lo) s.heap := hP
  have hD : va_D A (cM kc a mo lo) := hD
  have hS : va_S A s.heap s.heap [] := hS
  obtain ⟨H, eH⟩ : ∃ z, z = s.heap := ⟨_, rfl⟩
  obtain ⟨locs, eL⟩ : ∃ z : List Loc, z = [] := ⟨_, rfl⟩
  have hP := q_heap hP eH
  have hS := q_heapS hS eH eL
  refine q_start eH eL ?_
  clear eH eL
  have hi4 : ∀ w ∈ u_ws RX4 TX4 29, w ∈ wsX4_needs := by decide +kernel
  unfold w_X4_needs at h
  refine lv_iload_n hx hb dX4_needs_0 rfl (lv_at hl 1 rfl) ?_
  refine lv_if_ne (tgt := 24) hx hb dX4_needs_1 (by decide) (fun c1 => ?_) (fun c1 => ?_)
  · have h := br2 h c1
    exact hret (mo, lo) H locs ls _ h hP hD hS dX4_needs_24
  · have h := br1 h c1
    refine lv_aload_n hx hb dX4_needs_4 rfl (lv_at hl 0 rfl) ?_
    refine va_get (D := D) (ci := 4) (v := .int (mo 0 15)) (C := RX4) (T := TX4) (N := 29) hx hb hts hi4 hown hK.1 hP 0 rfl rfl 15 (by decide) (hts (.fieldLink RX4 79 "LastPennyModel" "fault" "I") (by decide +kernel)) (fun _ h9 => h9) rfl dX4_needs_5 ?_
    refine lv_if_ne (tgt := 24) hx hb dX4_needs_8 (by decide) (fun c2 => ?_) (fun c2 => ?_)
    · have h := br2 h c2
      exact hret (mo, lo) H locs ls _ h hP hD hS dX4_needs_24
    · have h := br1 h c2
      refine lv_aload_n hx hb dX4_needs_11 rfl (lv_at hl 0 rfl) ?_
      refine lv_iload_n hx hb dX4_needs_12 rfl (lv_at hl 2 rfl) ?_
      refine va_put (D := D) (ci := 4) (v := .int p2) (ty := .int) (C := RX4) (T := TX4) (N := 29) hx hb hts hi4 tyX4 tyX4_ok nmX4 hown hK.1 hP hD hS 0 rfl rfl 15 (by decide) (hts (.fieldLink RX4 79 "LastPennyModel" "fault" "I") (by decide +kernel)) (fun _ h9 => h9) rfl (by decide +kernel) rfl rfl (Nat.le_of_ble_eq_true rfl) dX4_needs_13 (fun H locs hP hD hS => ?_)
      obtain ⟨mo3, emo3⟩ : ∃ z, z = (va_up mo 0 (upd (mo 0) 15 p2)) := ⟨_, rfl⟩
      have h := nm_out h mo3 emo3
      have hP : va_P D vwCl (cM kc a mo3 lo) H := q_to hP (by subst emo3; rfl)
      have hD : va_D A (cM kc a mo3 lo) := q_toD hD (by subst emo3; rfl)
      refine lv_aload_n hx hb dX4_needs_16 rfl (lv_at hl 0 rfl) ?_
      refine lv_aload_n hx hb dX4_needs_17 rfl (lv_at hl 0 rfl) ?_
      refine va_get (D := D) (ci := 4) (v := .int (mo3 0 12)) (C := RX4) (T := TX4) (N := 29) hx hb hts hi4 hown hK.1 hP 0 rfl rfl 12 (by decide) (hts (.fieldLink RX4 82 "LastPennyModel" "begun" "I") (by decide +kernel)) (fun _ h9 => h9) rfl dX4_needs_18 ?_
      refine va_put (D := D) (ci := 4) (v := .int (mo3 0 12)) (ty := .int) (C := RX4) (T := TX4) (N := 29) hx hb hts hi4 tyX4 tyX4_ok nmX4 hown hK.1 hP hD hS 0 rfl rfl 16 (by decide) (hts (.fieldLink RX4 85 "LastPennyModel" "wrongAt" "I") (by decide +kernel)) (fun _ h9 => h9) rfl (by decide +kernel) rfl rfl (Nat.le_of_ble_eq_true rfl) dX4_needs_21 (fun H locs hP hD hS => ?_)
      obtain ⟨mo4, emo4⟩ : ∃ z, z = (va_up mo3 0 (upd (mo3 0) 16 (mo3 0 12))) := ⟨_, rfl⟩
      have h := nm_out h mo4 emo4
      have hP : va_P D vwCl (cM kc a mo4 lo) H := q_to hP (by subst emo4; rfl)
      have hD : va_D A (cM kc a mo4 lo) := q_toD hD (by subst emo4; rfl)
      exact hret (mo4, lo) H locs ls _ h hP hD hS dX4_needs_24

def w_X4_byteAt (p1 : Int32) (mo : S2) (lo : SL) (K : Int32 → S2 → SL → Prop) : Prop := br ((mo 0 10) ≤ p1) (K (-1) mo lo) (vp_in p1 160 ∧ (K (mo 5 p1.toNatClampNeg) mo lo))
abbrev rm_X4_byteAt : Room := { frames := 0, cells := 0, slots := 0, locals := 0 }
set_option maxHeartbeats 4000000 in
set_option maxRecDepth 100000 in
theorem c_X4_byteAt (l : Launch) (D : va_G) (kc : Nat → ClassId) (a : Nat → Nat) (p1 : Int32) (mo : S2) (lo : SL) (sz : Nat) (K : Int32 → S2 → SL → Prop) (h : w_X4_byteAt p1 mo lo K) : MetI l yX4_byteAt wsX4_byteAt rm_X4_byteAt D kc (fun u : S2 × SL => cM kc a u.1 u.2) (mo, lo) [.ref (a 0), .int p1] sz (fun r u => K r u.1 u.2) := by
  refine q_ei (code := cX4_byteAt) (maxL := 2) (by decide) rfl (Nat.le_of_ble_eq_true rfl) ?_
  intro p e s m args below meth c Q A hx hb hml hts hown hK hA hret ls hl hP hD hS
  have hown : s.vm.findClass RX4 = some m.cls := hown
  have hl : lv_has ls 2 [(0, .ref (a 0)), (1, .int p1)] := hl
  have hP : va_P D vwCl (cM kc a mo lo) s.heap := hP
  have hD : va_D A (cM kc a mo lo) := hD
  have hS : va_S A s.heap s.heap [] := hS
  obtain ⟨H, eH⟩ : ∃ z, z = s.heap := ⟨_, rfl⟩
  obtain ⟨locs, eL⟩ : ∃ z : List Loc, z = [] := ⟨_, rfl⟩
  have hP := q_heap hP eH
  have hS := q_heapS hS eH eL
  refine q_start eH eL ?_
  clear eH eL
  have hi4 : ∀ w ∈ u_ws RX4 TX4 29, w ∈ wsX4_byteAt := by decide +kernel
  unfold w_X4_byteAt at h
  refine lv_iload_n hx hb dX4_byteAt_0 rfl (lv_at hl 1 rfl) ?_
  refine lv_aload_n hx hb dX4_byteAt_1 rfl (lv_at hl 0 rfl) ?_
  refine va_get (D := D) (ci := 4) (v := .int (mo 0 10)) (C := RX4) (T := TX4) (N := 29) hx hb hts hi4 hown hK.1 hP 0 rfl rfl 10 (by decide) (hts (.fieldLink RX4 76 "LastPennyModel" "taped" "I") (by decide +kernel)) (fun _ h9 => h9) rfl dX4_byteAt_2 ?_
  refine lv_icmp_ge (tgt := 17) hx hb dX4_byteAt_5 (by decide) (fun c1 => ?_) (fun c1 => ?_)
  · have h := br1 h c1
    refine lv_iconst (v := -1) hx hb dX4_byteAt_17 (by decide) ?_
    exact hret (-1) (mo, lo) H locs ls _ h hP hD hS dX4_byteAt_18
  · have h := br2 h c1
    refine lv_aload_n hx hb dX4_byteAt_8 rfl (lv_at hl 0 rfl) ?_
    refine va_get (D := D) (ci := 4) (v := .ref (a 5)) (C := RX4) (T := TX4) (N := 29) hx hb hts hi4 hown hK.1 hP 0 rfl rfl 9 (by decide) (hts (.fieldLink RX4 23 "LastPennyModel" "tape" "[I") (by decide +kernel)) (fun _ h9 => h9) rfl dX4_byteAt_9 ?_
    refine lv_iload_n hx hb dX4_byteAt_12 rfl (lv_at hl 1 rfl) ?_
    obtain ⟨hi_2, h⟩ := h
    refine va_iald hx hb hK.1 hP 5 0 rfl rfl hi_2 dX4_byteAt_13 ?_
    refine lv_goto (tgt := 18) hx hb dX4_byteAt_14 (by decide) ?_
    exact hret (mo 5 p1.toNatClampNeg) (mo, lo) H locs ls _ h hP hD hS dX4_byteAt_18

def w_X4_is (p1 : Int32) (p2 : Int32) (p3 : Int32) (p4 : Int32) (p5 : Int32) (mo : S2) (lo : SL) (K : Int32 → S2 → SL → Prop) : Prop := br (((mo 0 11) - (mo 0 12)) = p1) (w_X4_byteAt (mo 0 12) mo lo (fun r4 mo2 lo3 => br (r4 = p2) (w_X4_byteAt ((mo2 0 12) + 1) mo2 lo3 (fun r9 mo7 lo8 => br (r9 = p3) (w_X4_byteAt ((mo7 0 12) + 2) mo7 lo8 (fun r14 mo12 lo13 => br (r14 = p4) (w_X4_byteAt ((mo12 0 12) + 3) mo12 lo13 (fun r19 mo17 lo18 => br (r19 = p5) (K 1 mo17 lo18) (K 0 mo17 lo18))) (K 0 mo12 lo13))) (K 0 mo7 lo8))) (K 0 mo2 lo3))) (K 0 mo lo)
abbrev rm_X4_is : Room := { frames := 1, cells := 0, slots := 0, locals := 21 }
set_option maxHeartbeats 4000000 in
set_option maxRecDepth 100000 in
theorem c_X4_is (l : Launch) (D : va_G) (kc : Nat → ClassId) (a : Nat → Nat) (p1 : Int32) (p2 : Int32) (p3 : Int32) (p4 : Int32) (p5 : Int32) (mo : S2) (lo : SL) (sz : Nat) (K : Int32 → S2 → SL → Prop) (h : w_X4_is p1 p2 p3 p4 p5 mo lo K) : MetI l yX4_is wsX4_is rm_X4_is D kc (fun u : S2 × SL => cM kc a u.1 u.2) (mo, lo) [.ref (a 0), .int p1, .int p2, .int p3, .int p4, .int p5] sz (fun r u => K r u.1 u.2) := by
  refine q_ez (code := cX4_is) (maxL := 6) (by decide) rfl (Nat.le_of_ble_eq_true rfl) ?_
  intro p e s m args below meth c Q A hx hb hml hts hown hK hA hret ls hl hP hD hS
  have hown : s.vm.findClass RX4 = some m.cls := hown
  have hl : lv_has ls 6 [(0, .ref (a 0)), (1, .int p1), (2, .int p2), (3, .int p3), (4, .int p4), (5, .int p5)] := hl
  have hP : va_P D vwCl (cM kc a mo lo) s.heap := hP
  have hD : va_D A (cM kc a mo lo) := hD
  have hS : va_S A s.heap s.heap [] := hS
  obtain ⟨H, eH⟩ : ∃ z, z = s.heap := ⟨_, rfl⟩
  obtain ⟨locs, eL⟩ : ∃ z : List Loc, z = [] := ⟨_, rfl⟩
  have hP := q_heap hP eH
  have hS := q_heapS hS eH eL
  refine q_start eH eL ?_
  clear eH eL
  have hi4 : ∀ w ∈ u_ws RX4 TX4 29, w ∈ wsX4_is := by decide +kernel
  unfold w_X4_is at h
  refine lv_aload_n hx hb dX4_is_0 rfl (lv_at hl 0 rfl) ?_
  refine va_get (D := D) (ci := 4) (v := .int (mo 0 11)) (C := RX4) (T := TX4) (N := 29) hx hb hts hi4 hown hK.1 hP 0 rfl rfl 11 (by decide) (hts (.fieldLink RX4 88 "LastPennyModel" "pos" "I") (by decide +kernel)) (fun _ h9 => h9) rfl dX4_is_1 ?_
  refine lv_aload_n hx hb dX4_is_4 rfl (lv_at hl 0 rfl) ?_
  refine va_get (D := D) (ci := 4) (v := .int (mo 0 12)) (C := RX4) (T := TX4) (N := 29) hx hb hts hi4 hown hK.1 hP 0 rfl rfl 12 (by decide) (hts (.fieldLink RX4 82 "LastPennyModel" "begun" "I") (by decide +kernel)) (fun _ h9 => h9) rfl dX4_is_5 ?_
  refine lv_isub hx hb dX4_is_8 ?_
  refine lv_iload_n hx hb dX4_is_9 rfl (lv_at hl 1 rfl) ?_
  refine lv_icmp_ne (tgt := 73) hx hb dX4_is_10 (by decide) (fun c1 => ?_) (fun c1 => ?_)
  · have h := br2 h c1
    refine lv_iconst (v := 0) hx hb dX4_is_73 (by decide) ?_
    exact hret 0 (mo, lo) H locs ls _ rfl h hP hD hS dX4_is_74
  · have h := br1 h c1
    refine lv_aload_n hx hb dX4_is_13 rfl (lv_at hl 0 rfl) ?_
    refine lv_aload_n hx hb dX4_is_14 rfl (lv_at hl 0 rfl) ?_
    refine va_get (D := D) (ci := 4) (v := .int (mo 0 12)) (C := RX4) (T := TX4) (N := 29) hx hb hts hi4 hown hK.1 hP 0 rfl rfl 12 (by decide) (hts (.fieldLink RX4 82 "LastPennyModel" "begun" "I") (by decide +kernel)) (fun _ h9 => h9) rfl dX4_is_15 ?_
    refine q_cVi (As := [.int (mo 0 12)]) (rest := []) ⟨hx, hb, hml, hown, hts⟩ hK (c_X4_byteAt l D kc a (mo 0 12) mo lo H.size _ h) (cwV 1 hts gX4_is_X4_byteAt rfl rfl rfl (by decide +kernel) ⟨Nat.le_of_ble_eq_true rfl, Nat.le_of_ble_eq_true rfl⟩) (cut_same (fun u : S2 × SL => cM kc a u.1 u.2) (mo, lo)) hP hD hS hA 4 0 rfl rfl rfl hl.1 rfl (Nat.le_of_ble_eq_true rfl) dX4_is_18 ⟨Nat.zero_le _, Nat.zero_le _⟩ (fun r4 u5 H locs h hP hD hS => ?_)
    obtain ⟨mo2, lo3⟩ := u5
    have hP : va_P D vwCl (cM kc a mo2 lo3) H := hP
    have hD : va_D A (cM kc a mo2 lo3) := hD
    refine lv_iload_n hx hb dX4_is_21 rfl (lv_at hl 2 rfl) ?_
    refine lv_icmp_ne (tgt := 73) hx hb dX4_is_22 (by decide) (fun c6 => ?_) (fun c6 => ?_)
    · have h := br2 h c6
      refine lv_iconst (v := 0) hx hb dX4_is_73 (by decide) ?_
      exact hret 0 (mo2, lo3) H locs ls _ rfl h hP hD hS dX4_is_74
    · have h := br1 h c6
      refine lv_aload_n hx hb dX4_is_25 rfl (lv_at hl 0 rfl) ?_
      refine lv_aload_n hx hb dX4_is_26 rfl (lv_at hl 0 rfl) ?_
      refine va_get (D := D) (ci := 4) (v := .int (mo2 0 12)) (C := RX4) (T := TX4) (N := 29) hx hb hts hi4 hown hK.1 hP 0 rfl rfl 12 (by decide) (hts (.fieldLink RX4 82 "LastPennyModel" "begun" "I") (by decide +kernel)) (fun _ h9 => h9) rfl dX4_is_27 ?_
      refine lv_iconst (v := 1) hx hb dX4_is_30 (by decide) ?_
      refine lv_iadd hx hb dX4_is_31 ?_
      refine q_cVi (As := [.int ((mo2 0 12) + 1)]) (rest := []) ⟨hx, hb, hml, hown, hts⟩ hK (c_X4_byteAt l D kc a ((mo2 0 12) + 1) mo2 lo3 H.size _ h) (cwV 1 hts gX4_is_X4_byteAt rfl rfl rfl (by decide +kernel) ⟨Nat.le_of_ble_eq_true rfl, Nat.le_of_ble_eq_true rfl⟩) (cut_same (fun u : S2 × SL => cM kc a u.1 u.2) (mo2, lo3)) hP hD hS hA 4 0 rfl rfl rfl hl.1 rfl (Nat.le_of_ble_eq_true rfl) dX4_is_32 ⟨Nat.zero_le _, Nat.zero_le _⟩ (fun r9 u10 H locs h hP hD hS => ?_)
      obtain ⟨mo7, lo8⟩ := u10
      have hP : va_P D vwCl (cM kc a mo7 lo8) H := hP
      have hD : va_D A (cM kc a mo7 lo8) := hD
      refine lv_iload_n hx hb dX4_is_35 rfl (lv_at hl 3 rfl) ?_
      refine lv_icmp_ne (tgt := 73) hx hb dX4_is_36 (by decide) (fun c11 => ?_) (fun c11 => ?_)
      · have h := br2 h c11
        refine lv_iconst (v := 0) hx hb dX4_is_73 (by decide) ?_
        exact hret 0 (mo7, lo8) H locs ls _ rfl h hP hD hS dX4_is_74
      · have h := br1 h c11
        refine lv_aload_n hx hb dX4_is_39 rfl (lv_at hl 0 rfl) ?_
        refine lv_aload_n hx hb dX4_is_40 rfl (lv_at hl 0 rfl) ?_
        refine va_get (D := D) (ci := 4) (v := .int (mo7 0 12)) (C := RX4) (T := TX4) (N := 29) hx hb hts hi4 hown hK.1 hP 0 rfl rfl 12 (by decide) (hts (.fieldLink RX4 82 "LastPennyModel" "begun" "I") (by decide +kernel)) (fun _ h9 => h9) rfl dX4_is_41 ?_
        refine lv_iconst (v := 2) hx hb dX4_is_44 (by decide) ?_
        refine lv_iadd hx hb dX4_is_45 ?_
        refine q_cVi (As := [.int ((mo7 0 12) + 2)]) (rest := []) ⟨hx, hb, hml, hown, hts⟩ hK (c_X4_byteAt l D kc a ((mo7 0 12) + 2) mo7 lo8 H.size _ h) (cwV 1 hts gX4_is_X4_byteAt rfl rfl rfl (by decide +kernel) ⟨Nat.le_of_ble_eq_true rfl, Nat.le_of_ble_eq_true rfl⟩) (cut_same (fun u : S2 × SL => cM kc a u.1 u.2) (mo7, lo8)) hP hD hS hA 4 0 rfl rfl rfl hl.1 rfl (Nat.le_of_ble_eq_true rfl) dX4_is_46 ⟨Nat.zero_le _, Nat.zero_le _⟩ (fun r14 u15 H locs h hP hD hS => ?_)
        obtain ⟨mo12, lo13⟩ := u15
        have hP : va_P D vwCl (cM kc a mo12 lo13) H := hP
        have hD : va_D A (cM kc a mo12 lo13) := hD
        refine lv_iload hx hb dX4_is_49 (lv_at hl 4 rfl) ?_
        refine lv_icmp_ne (tgt := 73) hx hb dX4_is_51 (by decide) (fun c16 => ?_) (fun c16 => ?_)
        · have h := br2 h c16
          refine lv_iconst (v := 0) hx hb dX4_is_73 (by decide) ?_
          exact hret 0 (mo12, lo13) H locs ls _ rfl h hP hD hS dX4_is_74
        · have h := br1 h c16
          refine lv_aload_n hx hb dX4_is_54 rfl (lv_at hl 0 rfl) ?_
          refine lv_aload_n hx hb dX4_is_55 rfl (lv_at hl 0 rfl) ?_
          refine va_get (D := D) (ci := 4) (v := .int (mo12 0 12)) (C := RX4) (T := TX4) (N := 29) hx hb hts hi4 hown hK.1 hP 0 rfl rfl 12 (by decide) (hts (.fieldLink RX4 82 "LastPennyModel" "begun" "I") (by decide +kernel)) (fun _ h9 => h9) rfl dX4_is_56 ?_
          refine lv_iconst (v := 3) hx hb dX4_is_59 (by decide) ?_
          refine lv_iadd hx hb dX4_is_60 ?_
          refine q_cVi (As := [.int ((mo12 0 12) + 3)]) (rest := []) ⟨hx, hb, hml, hown, hts⟩ hK (c_X4_byteAt l D kc a ((mo12 0 12) + 3) mo12 lo13 H.size _ h) (cwV 1 hts gX4_is_X4_byteAt rfl rfl rfl (by decide +kernel) ⟨Nat.le_of_ble_eq_true rfl, Nat.le_of_ble_eq_true rfl⟩) (cut_same (fun u : S2 × SL => cM kc a u.1 u.2) (mo12, lo13)) hP hD hS hA 4 0 rfl rfl rfl hl.1 rfl (Nat.le_of_ble_eq_true rfl) dX4_is_61 ⟨Nat.zero_le _, Nat.zero_le _⟩ (fun r19 u20 H locs h hP hD hS => ?_)
          obtain ⟨mo17, lo18⟩ := u20
          have hP : va_P D vwCl (cM kc a mo17 lo18) H := hP
          have hD : va_D A (cM kc a mo17 lo18) := hD
          refine lv_iload hx hb dX4_is_64 (lv_at hl 5 rfl) ?_
          refine lv_icmp_ne (tgt := 73) hx hb dX4_is_66 (by decide) (fun c21 => ?_) (fun c21 => ?_)
          · have h := br2 h c21
            refine lv_iconst (v := 0) hx hb dX4_is_73 (by decide) ?_
            exact hret 0 (mo17, lo18) H locs ls _ rfl h hP hD hS dX4_is_74
          · have h := br1 h c21
            refine lv_iconst (v := 1) hx hb dX4_is_69 (by decide) ?_
            refine lv_goto (tgt := 74) hx hb dX4_is_70 (by decide) ?_
            exact hret 1 (mo17, lo18) H locs ls _ rfl h hP hD hS dX4_is_74

def w_X4_ends (p1 : Int32) (p2 : Int32) (p3 : Int32) (mo : S2) (lo : SL) (K : Int32 → S2 → SL → Prop) : Prop := w_X4_byteAt ((mo 0 12) + 4) mo lo (fun r3 mo1 lo2 => br (r3 = p1) (jn (fun (mo6 : S2) (lo7 : SL) => br (p3 = 0) (K 1 mo6 lo7) (w_X4_byteAt ((mo6 0 12) + 6) mo6 lo7 (fun r11 mo9 lo10 => br (r11 = p3) (K 1 mo9 lo10) (K 0 mo9 lo10)))) (fun J32 => br (p2 = 0) (J32 mo1 lo2) (w_X4_byteAt ((mo1 0 12) + 5) mo1 lo2 (fun r17 mo15 lo16 => br (r17 = p2) (J32 mo15 lo16) (K 0 mo15 lo16))))) (K 0 mo1 lo2))
abbrev rm_X4_ends : Room := { frames := 1, cells := 0, slots := 0, locals := 21 }
set_option maxHeartbeats 4000000 in
set_option maxRecDepth 100000 in
theorem c_X4_ends (l : Launch) (D : va_G) (kc : Nat → ClassId) (a : Nat → Nat) (p1 : Int32) (p2 : Int32) (p3 : Int32) (mo : S2) (lo : SL) (sz : Nat) (K : Int32 → S2 → SL → Prop) (h : w_X4_ends p1 p2 p3 mo lo K) : MetI l yX4_ends wsX4_ends rm_X4_ends D kc (fun u : S2 × SL => cM kc a u.1 u.2) (mo, lo) [.ref (a 0), .int p1, .int p2, .int p3] sz (fun r u => K r u.1 u.2) := by
  refine q_ez (code := cX4_ends) (maxL := 4) (by decide) rfl (Nat.le_of_ble_eq_true rfl) ?_
  intro p e s m args below meth c Q A hx hb hml hts hown hK hA hret ls hl hP hD hS
  have hown : s.vm.findClass RX4 = some m.cls := hown
  have hl : lv_has ls 4 [(0, .ref (a 0)), (1, .int p1), (2, .int p2), (3, .int p3)] := hl
  have hP : va_P D vwCl (cM kc a mo lo) s.heap := hP
  have hD : va_D A (cM kc a mo lo) := hD
  have hS : va_S A s.heap s.heap [] := hS
  obtain ⟨H, eH⟩ : ∃ z, z = s.heap := ⟨_, rfl⟩
  obtain ⟨locs, eL⟩ : ∃ z : List Loc, z = [] := ⟨_, rfl⟩
  have hP := q_heap hP eH
  have hS := q_heapS hS eH eL
  refine q_start eH eL ?_
  clear eH eL
  have hi4 : ∀ w ∈ u_ws RX4 TX4 29, w ∈ wsX4_ends := by decide +kernel
  unfold w_X4_ends at h
  refine lv_aload_n hx hb dX4_ends_0 rfl (lv_at hl 0 rfl) ?_
  refine lv_aload_n hx hb dX4_ends_1 rfl (lv_at hl 0 rfl) ?_
  refine va_get (D := D) (ci := 4) (v := .int (mo 0 12)) (C := RX4) (T := TX4) (N := 29) hx hb hts hi4 hown hK.1 hP 0 rfl rfl 12 (by decide) (hts (.fieldLink RX4 82 "LastPennyModel" "begun" "I") (by decide +kernel)) (fun _ h9 => h9) rfl dX4_ends_2 ?_
  refine lv_iconst (v := 4) hx hb dX4_ends_5 (by decide) ?_
  refine lv_iadd hx hb dX4_ends_6 ?_
  refine q_cVi (As := [.int ((mo 0 12) + 4)]) (rest := []) ⟨hx, hb, hml, hown, hts⟩ hK (c_X4_byteAt l D kc a ((mo 0 12) + 4) mo lo H.size _ h) (cwV 1 hts gX4_ends_X4_byteAt rfl rfl rfl (by decide +kernel) ⟨Nat.le_of_ble_eq_true rfl, Nat.le_of_ble_eq_true rfl⟩) (cut_same (fun u : S2 × SL => cM kc a u.1 u.2) (mo, lo)) hP hD hS hA 4 0 rfl rfl rfl hl.1 rfl (Nat.le_of_ble_eq_true rfl) dX4_ends_7 ⟨Nat.zero_le _, Nat.zero_le _⟩ (fun r3 u4 H locs h hP hD hS => ?_)
  obtain ⟨mo1, lo2⟩ := u4
  have hP : va_P D vwCl (cM kc a mo1 lo2) H := hP
  have hD : va_D A (cM kc a mo1 lo2) := hD
  refine lv_iload_n hx hb dX4_ends_10 rfl (lv_at hl 1 rfl) ?_
  refine lv_icmp_ne (tgt := 55) hx hb dX4_ends_11 (by decide) (fun c5 => ?_) (fun c5 => ?_)
  · have h := br2 h c5
    refine lv_iconst (v := 0) hx hb dX4_ends_55 (by decide) ?_
    exact hret 0 (mo1, lo2) H locs ls _ rfl h hP hD hS dX4_ends_56
  · have h := br1 h c5
    refine lv_iload_n hx hb dX4_ends_14 rfl (lv_at hl 2 rfl) ?_
    refine jn_elim h (fun J32 eJ32 h => ?_)
    have hJ_32 : ∀ (mo6 : S2) (lo7 : SL) (ls : Array Slot) (H : Heap) (locs : List Loc), J32 mo6 lo7 → lv_has ls 4 [(0, .ref (a 0)), (3, .int p3)] → va_P D vwCl (cM kc a mo6 lo7) H → va_D A (cM kc a mo6 lo7) → va_S A s.heap H locs → W p l e rm_X4_ends s m args below meth c H locs 0 0 Q (F0 m 32 ls []) := by
      intro mo6 lo7 ls H locs h hl hP hD hS
      subst eJ32
      refine lv_iload_n hx hb dX4_ends_32 rfl (lv_at hl 1 rfl) ?_
      refine lv_if_eq (tgt := 51) hx hb dX4_ends_33 (by decide) (fun c8 => ?_) (fun c8 => ?_)
      · have h := br1 h c8
        refine lv_iconst (v := 1) hx hb dX4_ends_51 (by decide) ?_
        refine lv_goto (tgt := 56) hx hb dX4_ends_52 (by decide) ?_
        exact hret 1 (mo6, lo7) H locs ls _ rfl h hP hD hS dX4_ends_56
      · have h := br2 h c8
        refine lv_aload_n hx hb dX4_ends_36 rfl (lv_at hl 0 rfl) ?_
        refine lv_aload_n hx hb dX4_ends_37 rfl (lv_at hl 0 rfl) ?_
        refine va_get (D := D) (ci := 4) (v := .int (mo6 0 12)) (C := RX4) (T := TX4) (N := 29) hx hb hts hi4 hown hK.1 hP 0 rfl rfl 12 (by decide) (hts (.fieldLink RX4 82 "LastPennyModel" "begun" "I") (by decide +kernel)) (fun _ h9 => h9) rfl dX4_ends_38 ?_
        refine lv_bipush (v := 6) hx hb dX4_ends_41 (by decide) ?_
        refine lv_iadd hx hb dX4_ends_43 ?_
        refine q_cVi (As := [.int ((mo6 0 12) + 6)]) (rest := []) ⟨hx, hb, hml, hown, hts⟩ hK (c_X4_byteAt l D kc a ((mo6 0 12) + 6) mo6 lo7 H.size _ h) (cwV 1 hts gX4_ends_X4_byteAt rfl rfl rfl (by decide +kernel) ⟨Nat.le_of_ble_eq_true rfl, Nat.le_of_ble_eq_true rfl⟩) (cut_same (fun u : S2 × SL => cM kc a u.1 u.2) (mo6, lo7)) hP hD hS hA 4 0 rfl rfl rfl hl.1 rfl (Nat.le_of_ble_eq_true rfl) dX4_ends_44 ⟨Nat.zero_le _, Nat.zero_le _⟩ (fun r11 u12 H locs h hP hD hS => ?_)
        obtain ⟨mo9, lo10⟩ := u12
        have hP : va_P D vwCl (cM kc a mo9 lo10) H := hP
        have hD : va_D A (cM kc a mo9 lo10) := hD
        refine lv_iload_n hx hb dX4_ends_47 rfl (lv_at hl 1 rfl) ?_
        refine lv_icmp_ne (tgt := 55) hx hb dX4_ends_48 (by decide) (fun c13 => ?_) (fun c13 => ?_)
        · have h := br2 h c13
          refine lv_iconst (v := 0) hx hb dX4_ends_55 (by decide) ?_
          exact hret 0 (mo9, lo10) H locs ls _ rfl h hP hD hS dX4_ends_56
        · have h := br1 h c13
          refine lv_iconst (v := 1) hx hb dX4_ends_51 (by decide) ?_
          refine lv_goto (tgt := 56) hx hb dX4_ends_52 (by decide) ?_
          exact hret 1 (mo9, lo10) H locs ls _ rfl h hP hD hS dX4_ends_56
    refine lv_if_eq (tgt := 32) hx hb dX4_ends_15 (by decide) (fun c14 => ?_) (fun c14 => ?_)
    · have h := br1 h c14
      exact hJ_32 mo1 lo2 ls H locs h (lv_sub hl [0, 3] rfl) hP hD hS
    · have h := br2 h c14
      refine lv_aload_n hx hb dX4_ends_18 rfl (lv_at hl 0 rfl) ?_
      refine lv_aload_n hx hb dX4_ends_19 rfl (lv_at hl 0 rfl) ?_
      refine va_get (D := D) (ci := 4) (v := .int (mo1 0 12)) (C := RX4) (T := TX4) (N := 29) hx hb hts hi4 hown hK.1 hP 0 rfl rfl 12 (by decide) (hts (.fieldLink RX4 82 "LastPennyModel" "begun" "I") (by decide +kernel)) (fun _ h9 => h9) rfl dX4_ends_20 ?_
      refine lv_iconst (v := 5) hx hb dX4_ends_23 (by decide) ?_
      refine lv_iadd hx hb dX4_ends_24 ?_
      refine q_cVi (As := [.int ((mo1 0 12) + 5)]) (rest := []) ⟨hx, hb, hml, hown, hts⟩ hK (c_X4_byteAt l D kc a ((mo1 0 12) + 5) mo1 lo2 H.size _ h) (cwV 1 hts gX4_ends_X4_byteAt rfl rfl rfl (by decide +kernel) ⟨Nat.le_of_ble_eq_true rfl, Nat.le_of_ble_eq_true rfl⟩) (cut_same (fun u : S2 × SL => cM kc a u.1 u.2) (mo1, lo2)) hP hD hS hA 4 0 rfl rfl rfl hl.1 rfl (Nat.le_of_ble_eq_true rfl) dX4_ends_25 ⟨Nat.zero_le _, Nat.zero_le _⟩ (fun r17 u18 H locs h hP hD hS => ?_)
      obtain ⟨mo15, lo16⟩ := u18
      have hP : va_P D vwCl (cM kc a mo15 lo16) H := hP
      have hD : va_D A (cM kc a mo15 lo16) := hD
      refine lv_iload_n hx hb dX4_ends_28 rfl (lv_at hl 2 rfl) ?_
      refine lv_icmp_ne (tgt := 55) hx hb dX4_ends_29 (by decide) (fun c19 => ?_) (fun c19 => ?_)
      · have h := br2 h c19
        refine lv_iconst (v := 0) hx hb dX4_ends_55 (by decide) ?_
        exact hret 0 (mo15, lo16) H locs ls _ rfl h hP hD hS dX4_ends_56
      · have h := br1 h c19
        exact hJ_32 mo15 lo16 ls H locs h (lv_sub hl [0, 3] rfl) hP hD hS

