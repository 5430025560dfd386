def w_X4_gift (p1 : Int32) (p2 : Int32) (mo : S2) (lo : SL) (K : Int32 → S2 → SL → Prop) : Prop := w_X4_in (p1.toInt64) (0 : Int64) (((mo 1 (23 : Int32).toNatClampNeg) - 1).toInt64) (fun r1 => br (r1 = 0) (K (-1) mo lo) (w_X4_in (p2.toInt64) (0 : Int64) (3 : Int64) (fun r4 => br (r4 = 0) (K (-1) mo lo) (vp_in ((24 + (4 * p1)) + p2) 171 ∧ (K (mo 1 ((24 + (4 * p1)) + p2).toNatClampNeg) mo lo)))))
abbrev rm_X4_gift : Room := { frames := 1, cells := 0, slots := 0, locals := 25 }
set_option maxHeartbeats 4000000 in
set_option maxRecDepth 100000 in
theorem c_X4_gift (l : Launch) (D : va_G) (kc : Nat → ClassId) (a : Nat → Nat) (p1 : Int32) (p2 : Int32) (mo : S2) (lo : SL) (sz : Nat) (K : Int32 → S2 → SL → Prop) (h : w_X4_gift p1 p2 mo lo K) : MetI l yX4_gift wsX4_gift rm_X4_gift D kc (fun u : S2 × SL => cM kc a u.1 u.2) (mo, lo) [.ref (a 0), .int p1, .int p2] sz (fun r u => K r u.1 u.2) := by
  refine q_ei (code := cX4_gift) (maxL := 3) (by decide) rfl (Nat.le_of_ble_eq_true rfl) ?_
  intro p e s m args below meth c Q A hx hb hml hts hown hK hA hret ls hl hP hD hS
  have hown : s.vm.findClass RX4 = some m.cls := hown
  have hl : lv_has ls 3 [(0, .ref (a 0)), (1, .int p1), (2, .int p2)] := hl
  have hP : va_P D vwCl (cM kc a mo lo) s.heap := hP
  have hD : va_D A (cM kc a mo lo) := hD
  have hS : va_S A s.heap s.heap [] := hS
  obtain ⟨H, eH⟩ : ∃ z, z = s.heap := ⟨_, rfl⟩
  obtain ⟨locs, eL⟩ : ∃ z : List Loc, z = [] := ⟨_, rfl⟩
  have hP := q_heap hP eH
  have hS := q_heapS hS eH eL
  refine q_start eH eL ?_
  clear eH eL
  have hi4 : ∀ w ∈ u_ws RX4 TX4 29, w ∈ wsX4_gift := by decide +kernel
  unfold w_X4_gift at h
  refine lv_iload_n hx hb dX4_gift_0 rfl (lv_at hl 1 rfl) ?_
  refine lv_i2l hx hb dX4_gift_1 rfl ?_
  refine lv_lconst (v := 0) hx hb dX4_gift_2 (by decide) ?_
  refine lv_aload_n hx hb dX4_gift_3 rfl (lv_at hl 0 rfl) ?_
  refine va_get (D := D) (ci := 4) (v := .ref (a 1)) (C := RX4) (T := TX4) (N := 29) hx hb hts hi4 hown hK.1 hP 0 rfl rfl 0 (by decide) (hts (.fieldLink RX4 7 "LastPennyModel" "st" "[I") (by decide +kernel)) (fun _ h9 => h9) rfl dX4_gift_4 ?_
  refine lv_bipush (v := 23) hx hb dX4_gift_7 (by decide) ?_
  refine va_iald hx hb hK.1 hP 1 0 rfl rfl (by unfold vp_in; decide) dX4_gift_9 ?_
  refine lv_iconst (v := 1) hx hb dX4_gift_10 (by decide) ?_
  refine lv_isub hx hb dX4_gift_11 ?_
  refine lv_i2l hx hb dX4_gift_12 rfl ?_
  refine q_cSi (As := [.long (p1.toInt64), .long 0, .long (((mo 1 (23 : Int32).toNatClampNeg) - 1).toInt64)]) (rest := []) ⟨hx, hb, hml, hown, hts⟩ hK (c_X4_in l D kc (p1.toInt64) (0 : Int64) (((mo 1 (23 : Int32).toNatClampNeg) - 1).toInt64) H.size _ h) (va_cwS 3 hts gX4_gift_X4_in rfl rfl rfl (by decide +kernel) ⟨Nat.le_of_ble_eq_true rfl, Nat.le_of_ble_eq_true rfl⟩) (cut_nil _) hP hD hS hA rfl hl.1 rfl (Nat.le_of_ble_eq_true rfl) dX4_gift_13 ⟨Nat.zero_le _, Nat.zero_le _⟩ (fun r1 _ H locs h hP hD hS => ?_)
  have hP : va_P D vwCl (cM kc a mo lo) H := hP
  have hD : va_D A (cM kc a mo lo) := hD
  refine lv_if_eq (tgt := 47) hx hb dX4_gift_16 (by decide) (fun c3 => ?_) (fun c3 => ?_)
  · have h := br1 h c3
    refine lv_iconst (v := -1) hx hb dX4_gift_47 (by decide) ?_
    exact hret (-1) (mo, lo) H locs ls _ h hP hD hS dX4_gift_48
  · have h := br2 h c3
    refine lv_iload_n hx hb dX4_gift_19 rfl (lv_at hl 2 rfl) ?_
    refine lv_i2l hx hb dX4_gift_20 rfl ?_
    refine lv_lconst (v := 0) hx hb dX4_gift_21 (by decide) ?_
    refine lv_ldc2 (v := 3) hx hb hown (hts (.constantLong RX4 201 (3)) (by decide +kernel)) dX4_gift_22 ?_
    refine q_cSi (As := [.long (p2.toInt64), .long 0, .long 3]) (rest := []) ⟨hx, hb, hml, hown, hts⟩ hK (c_X4_in l D kc (p2.toInt64) (0 : Int64) (3 : Int64) H.size _ h) (va_cwS 3 hts gX4_gift_X4_in rfl rfl rfl (by decide +kernel) ⟨Nat.le_of_ble_eq_true rfl, Nat.le_of_ble_eq_true rfl⟩) (cut_nil _) hP hD hS hA rfl hl.1 rfl (Nat.le_of_ble_eq_true rfl) dX4_gift_25 ⟨Nat.zero_le _, Nat.zero_le _⟩ (fun r4 _ H locs h hP hD hS => ?_)
    have hP : va_P D vwCl (cM kc a mo lo) H := hP
    have hD : va_D A (cM kc a mo lo) := hD
    refine lv_if_eq (tgt := 47) hx hb dX4_gift_28 (by decide) (fun c6 => ?_) (fun c6 => ?_)
    · have h := br1 h c6
      refine lv_iconst (v := -1) hx hb dX4_gift_47 (by decide) ?_
      exact hret (-1) (mo, lo) H locs ls _ h hP hD hS dX4_gift_48
    · have h := br2 h c6
      refine lv_aload_n hx hb dX4_gift_31 rfl (lv_at hl 0 rfl) ?_
      refine va_get (D := D) (ci := 4) (v := .ref (a 1)) (C := RX4) (T := TX4) (N := 29) hx hb hts hi4 hown hK.1 hP 0 rfl rfl 0 (by decide) (hts (.fieldLink RX4 7 "LastPennyModel" "st" "[I") (by decide +kernel)) (fun _ h9 => h9) rfl dX4_gift_32 ?_
      refine lv_bipush (v := 24) hx hb dX4_gift_35 (by decide) ?_
      refine lv_iconst (v := 4) hx hb dX4_gift_37 (by decide) ?_
      refine lv_iload_n hx hb dX4_gift_38 rfl (lv_at hl 1 rfl) ?_
      refine lv_imul hx hb dX4_gift_39 ?_
      refine lv_iadd hx hb dX4_gift_40 ?_
      refine lv_iload_n hx hb dX4_gift_41 rfl (lv_at hl 2 rfl) ?_
      refine lv_iadd hx hb dX4_gift_42 ?_
      obtain ⟨hi_7, h⟩ := h
      refine va_iald hx hb hK.1 hP 1 0 rfl rfl hi_7 dX4_gift_43 ?_
      refine lv_goto (tgt := 48) hx hb dX4_gift_44 (by decide) ?_
      exact hret (mo 1 ((24 + (4 * p1)) + p2).toNatClampNeg) (mo, lo) H locs ls _ h hP hD hS dX4_gift_48

def w_X4_becomes (p1 : Int32) (p2 : Int32) (mo : S2) (lo : SL) (K : Int32 → S2 → SL → Prop) : Prop := vp_in p1 171 ∧ (nm ((mo 1 p1.toNatClampNeg) : Int32) (fun x2 => vp_in p1 171 ∧ (nm ((va_up mo 1 (upd (mo 1) p1.toNatClampNeg p2)) : S2) (fun mo4 => K x2 mo4 lo))))
abbrev rm_X4_becomes : Room := { frames := 0, cells := 0, slots := 0, locals := 0 }
set_option maxHeartbeats 4000000 in
set_option maxRecDepth 100000 in
theorem c_X4_becomes (l : Launch) (D : va_G) (kc : Nat → ClassId) (a : Nat → Nat) (p1 : Int32) (p2 : Int32) (mo : S2) (lo : SL) (sz : Nat) (K : Int32 → S2 → SL → Prop) (h : w_X4_becomes p1 p2 mo lo K) : MetI l yX4_becomes wsX4_becomes rm_X4_becomes D kc (fun u : S2 × SL => cM kc a u.1 u.2) (mo, lo) [.ref (a 0), .int p1, .int p2] sz (fun r u => K r u.1 u.2) := by
  refine q_ei (code := cX4_becomes) (maxL := 4) (by decide) rfl (Nat.le_of_ble_eq_true rfl) ?_
  intro p e s m args below meth c Q A hx hb hml hts hown hK hA hret ls hl hP hD hS
  have hown : s.vm.findClass RX4 = some m.cls := hown
  have hl : lv_has ls 4 [(0, .ref (a 0)), (1, .int p1), (2, .int p2)] := hl
  have hP : va_P D vwCl (cM kc a mo lo) s.heap := hP
  have hD : va_D A (cM kc a mo lo) := hD
  have hS : va_S A s.heap s.heap [] := hS
  obtain ⟨H, eH⟩ : ∃ z, z = s.heap := ⟨_, rfl⟩
  obtain ⟨locs, eL⟩ : ∃ z : List Loc, z = [] := ⟨_, rfl⟩
  have hP := q_heap hP eH
  have hS := q_heapS hS eH eL
  refine q_start eH eL ?_
  clear eH eL
  have hi4 : ∀ w ∈ u_ws RX4 TX4 29, w ∈ wsX4_becomes := by decide +kernel
  unfold w_X4_becomes at h
  refine lv_aload_n hx hb dX4_becomes_0 rfl (lv_at hl 0 rfl) ?_
  refine va_get (D := D) (ci := 4) (v := .ref (a 1)) (C := RX4) (T := TX4) (N := 29) hx hb hts hi4 hown hK.1 hP 0 rfl rfl 0 (by decide) (hts (.fieldLink RX4 7 "LastPennyModel" "st" "[I") (by decide +kernel)) (fun _ h9 => h9) rfl dX4_becomes_1 ?_
  refine lv_iload_n hx hb dX4_becomes_4 rfl (lv_at hl 1 rfl) ?_
  obtain ⟨hi_1, h⟩ := h
  refine va_iald hx hb hK.1 hP 1 0 rfl rfl hi_1 dX4_becomes_5 ?_
  refine lv_topi (fun x2 ex2 => ?_)
  have h := nm_out h x2 ex2
  refine lv_istore_n (lv' := [(3, .int x2), (0, .ref (a 0)), (1, .int p1), (2, .int p2)]) hx hb dX4_becomes_6 rfl hl (by decide) rfl (fun ls hl => ?_)
  refine lv_aload_n hx hb dX4_becomes_7 rfl (lv_at hl 1 rfl) ?_
  refine va_get (D := D) (ci := 4) (v := .ref (a 1)) (C := RX4) (T := TX4) (N := 29) hx hb hts hi4 hown hK.1 hP 0 rfl rfl 0 (by decide) (hts (.fieldLink RX4 7 "LastPennyModel" "st" "[I") (by decide +kernel)) (fun _ h9 => h9) rfl dX4_becomes_8 ?_
  refine lv_iload_n hx hb dX4_becomes_11 rfl (lv_at hl 2 rfl) ?_
  refine lv_iload_n hx hb dX4_becomes_12 rfl (lv_at hl 3 rfl) ?_
  obtain ⟨hi_3, h⟩ := h
  refine va_iast hx hb hK.1 hP hD hS 1 0 rfl rfl hi_3 dX4_becomes_13 (fun H locs hP hD hS => ?_)
  obtain ⟨mo4, emo4⟩ : ∃ z, z = (va_up mo 1 (upd (mo 1) p1.toNatClampNeg p2)) := ⟨_, rfl⟩
  have h := nm_out h mo4 emo4
  have hP : va_P D vwCl (cM kc a mo4 lo) H := q_to hP (by subst emo4; rfl)
  have hD : va_D A (cM kc a mo4 lo) := q_toD hD (by subst emo4; rfl)
  refine lv_iload_n hx hb dX4_becomes_14 rfl (lv_at hl 0 rfl) ?_
  exact hret x2 (mo4, lo) H locs ls _ h hP hD hS dX4_becomes_15

def w_X4_alter (p1 : Int32) (p2 : Int32) (p3 : Int32) (mo : S2) (lo : SL) (K : Int32 → S2 → SL → Prop) : Prop := jn (fun (k1 : Int32) => w_X4_isOne p1 mo lo (fun r4 mo2 lo3 => br (r4 = 0) (K (-1) mo2 lo3) (br (k1 = 0) (K (-1) mo2 lo3) (w_X4_becomes ((4 * p1) + p2) p3 mo2 lo3 (fun r10 mo8 lo9 => K r10 mo8 lo9))))) (fun J55 => br (p2 = 0) (w_X4_in (p3.toInt64) (0 : Int64) (3 : Int64) (fun r20 => J55 r20)) (br (p2 = 1) (w_X4_in (p3.toInt64) (0 : Int64) (999 : Int64) (fun r18 => J55 r18)) (jn (fun (_ : Unit) => J55 0) (fun J54 => br (p2 = 2) (w_X4_in (p3.toInt64) (0 : Int64) (20 : Int64) (fun r15 => br (r15 = 0) (J54 ()) (J55 1))) (J54 ())))))
abbrev rm_X4_alter : Room := { frames := 2, cells := 0, slots := 0, locals := 46 }
set_option maxHeartbeats 4000000 in
set_option maxRecDepth 100000 in
theorem c_X4_alter (l : Launch) (D : va_G) (kc : Nat → ClassId) (a : Nat → Nat) (p1 : Int32) (p2 : Int32) (p3 : Int32) (mo : S2) (lo : SL) (sz : Nat) (K : Int32 → S2 → SL → Prop) (h : w_X4_alter p1 p2 p3 mo lo K) : MetI l yX4_alter wsX4_alter rm_X4_alter D kc (fun u : S2 × SL => cM kc a u.1 u.2) (mo, lo) [.ref (a 0), .int p1, .int p2, .int p3] sz (fun r u => K r u.1 u.2) := by
  refine q_ei (code := cX4_alter) (maxL := 5) (by decide) rfl (Nat.le_of_ble_eq_true rfl) ?_
  intro p e s m args below meth c Q A hx hb hml hts hown hK hA hret ls hl hP hD hS
  have hown : s.vm.findClass RX4 = some m.cls := hown
  have hl : lv_has ls 5 [(0, .ref (a 0)), (1, .int p1), (2, .int p2), (3, .int p3)] := hl
  have hP : va_P D vwCl (cM kc a mo lo) s.heap := hP
  have hD : va_D A (cM kc a mo lo) := hD
  have hS : va_S A s.heap s.heap [] := hS
  obtain ⟨H, eH⟩ : ∃ z, z = s.heap := ⟨_, rfl⟩
  obtain ⟨locs, eL⟩ : ∃ z : List Loc, z = [] := ⟨_, rfl⟩
  have hP := q_heap hP eH
  have hS := q_heapS hS eH eL
  refine q_start eH eL ?_
  clear eH eL
  unfold w_X4_alter at h
  refine lv_iload_n hx hb dX4_alter_0 rfl (lv_at hl 2 rfl) ?_
  refine jn_elim h (fun J55 eJ55 h => ?_)
  have hJ_55 : ∀ (k1 : Int32) (ls : Array Slot) (H : Heap) (locs : List Loc), J55 k1 → lv_has ls 5 [(0, .ref (a 0)), (1, .int p1), (2, .int p2), (3, .int p3)] → va_P D vwCl (cM kc a mo lo) H → va_D A (cM kc a mo lo) → va_S A s.heap H locs → W p l e rm_X4_alter s m args below meth c H locs 0 0 Q (F0 m 55 ls [.int k1]) := by
    intro k1 ls H locs h hl hP hD hS
    subst eJ55
    refine lv_istore (lv' := [(4, .int k1), (0, .ref (a 0)), (1, .int p1), (2, .int p2), (3, .int p3)]) hx hb dX4_alter_55 hl (by decide) rfl (fun ls hl => ?_)
    refine lv_aload_n hx hb dX4_alter_57 rfl (lv_at hl 1 rfl) ?_
    refine lv_iload_n hx hb dX4_alter_58 rfl (lv_at hl 2 rfl) ?_
    refine q_cVi (As := [.int p1]) (rest := []) ⟨hx, hb, hml, hown, hts⟩ hK (c_X4_isOne l D kc a p1 mo lo H.size _ h) (cwV 1 hts gX4_alter_X4_isOne rfl rfl rfl (by decide +kernel) ⟨Nat.le_of_ble_eq_true rfl, Nat.le_of_ble_eq_true rfl⟩) (cut_same (fun u : S2 × SL => cM kc a u.1 u.2) (mo, lo)) hP hD hS hA 4 0 rfl rfl rfl hl.1 rfl (Nat.le_of_ble_eq_true rfl) dX4_alter_59 ⟨Nat.zero_le _, Nat.zero_le _⟩ (fun r4 u5 H locs h hP hD hS => ?_)
    obtain ⟨mo2, lo3⟩ := u5
    have hP : va_P D vwCl (cM kc a mo2 lo3) H := hP
    have hD : va_D A (cM kc a mo2 lo3) := hD
    refine lv_if_eq (tgt := 83) hx hb dX4_alter_62 (by decide) (fun c6 => ?_) (fun c6 => ?_)
    · have h := br1 h c6
      refine lv_iconst (v := -1) hx hb dX4_alter_83 (by decide) ?_
      exact hret (-1) (mo2, lo3) H locs ls _ h hP hD hS dX4_alter_84
    · have h := br2 h c6
      refine lv_iload hx hb dX4_alter_65 (lv_at hl 0 rfl) ?_
      refine lv_if_eq (tgt := 83) hx hb dX4_alter_67 (by decide) (fun c7 => ?_) (fun c7 => ?_)
      · have h := br1 h c7
        refine lv_iconst (v := -1) hx hb dX4_alter_83 (by decide) ?_
        exact hret (-1) (mo2, lo3) H locs ls _ h hP hD hS dX4_alter_84
      · have h := br2 h c7
        refine lv_aload_n hx hb dX4_alter_70 rfl (lv_at hl 1 rfl) ?_
        refine lv_iconst (v := 4) hx hb dX4_alter_71 (by decide) ?_
        refine lv_iload_n hx hb dX4_alter_72 rfl (lv_at hl 2 rfl) ?_
        refine lv_imul hx hb dX4_alter_73 ?_
        refine lv_iload_n hx hb dX4_alter_74 rfl (lv_at hl 3 rfl) ?_
        refine lv_iadd hx hb dX4_alter_75 ?_
        refine lv_iload_n hx hb dX4_alter_76 rfl (lv_at hl 4 rfl) ?_
        refine q_cVi (As := [.int ((4 * p1) + p2), .int p3]) (rest := []) ⟨hx, hb, hml, hown, hts⟩ hK (c_X4_becomes l D kc a ((4 * p1) + p2) p3 mo2 lo3 H.size _ h) (cwV 2 hts gX4_alter_X4_becomes rfl rfl rfl (by decide +kernel) ⟨Nat.le_of_ble_eq_true rfl, Nat.le_of_ble_eq_true rfl⟩) (cut_same (fun u : S2 × SL => cM kc a u.1 u.2) (mo2, lo3)) hP hD hS hA 4 0 rfl rfl rfl hl.1 rfl (Nat.le_of_ble_eq_true rfl) dX4_alter_77 ⟨Nat.zero_le _, Nat.zero_le _⟩ (fun r10 u11 H locs h hP hD hS => ?_)
        obtain ⟨mo8, lo9⟩ := u11
        have hP : va_P D vwCl (cM kc a mo8 lo9) H := hP
        have hD : va_D A (cM kc a mo8 lo9) := hD
        refine lv_goto (tgt := 84) hx hb dX4_alter_80 (by decide) ?_
        exact hret r10 (mo8, lo9) H locs ls _ h hP hD hS dX4_alter_84
  refine lv_if_ne (tgt := 16) hx hb dX4_alter_1 (by decide) (fun c12 => ?_) (fun c12 => ?_)
  · have h := br2 h c12
    refine lv_iload_n hx hb dX4_alter_16 rfl (lv_at hl 2 rfl) ?_
    refine lv_iconst (v := 1) hx hb dX4_alter_17 (by decide) ?_
    refine lv_icmp_ne (tgt := 33) hx hb dX4_alter_18 (by decide) (fun c13 => ?_) (fun c13 => ?_)
    · have h := br2 h c13
      refine lv_iload_n hx hb dX4_alter_33 rfl (lv_at hl 2 rfl) ?_
      refine lv_iconst (v := 2) hx hb dX4_alter_34 (by decide) ?_
      refine jn_elim h (fun J54 eJ54 h => ?_)
      have hJ_54 : ∀  (ls : Array Slot) (H : Heap) (locs : List Loc), J54 () → lv_has ls 5 [(0, .ref (a 0)), (1, .int p1), (2, .int p2), (3, .int p3)] → va_P D vwCl (cM kc a mo lo) H → va_D A (cM kc a mo lo) → va_S A s.heap H locs → W p l e rm_X4_alter s m args below meth c H locs 0 0 Q (F0 m 54 ls []) := by
        intro  ls H locs h hl hP hD hS
        subst eJ54
        refine lv_iconst (v := 0) hx hb dX4_alter_54 (by decide) ?_
        exact hJ_55 0 ls H locs h (lv_sub hl [0, 1, 2, 3] rfl) hP hD hS
      refine lv_icmp_ne (tgt := 54) hx hb dX4_alter_35 (by decide) (fun c14 => ?_) (fun c14 => ?_)
      · have h := br2 h c14
        exact hJ_54 ls H locs h (lv_sub hl [0, 1, 2, 3] rfl) hP hD hS
      · have h := br1 h c14
        refine lv_iload_n hx hb dX4_alter_38 rfl (lv_at hl 3 rfl) ?_
        refine lv_i2l hx hb dX4_alter_39 rfl ?_
        refine lv_lconst (v := 0) hx hb dX4_alter_40 (by decide) ?_
        refine lv_ldc2 (v := 20) hx hb hown (hts (.constantLong RX4 205 (20)) (by decide +kernel)) dX4_alter_41 ?_
        refine q_cSi (As := [.long (p3.toInt64), .long 0, .long 20]) (rest := []) ⟨hx, hb, hml, hown, hts⟩ hK (c_X4_in l D kc (p3.toInt64) (0 : Int64) (20 : Int64) H.size _ h) (va_cwS 3 hts gX4_alter_X4_in rfl rfl rfl (by decide +kernel) ⟨Nat.le_of_ble_eq_true rfl, Nat.le_of_ble_eq_true rfl⟩) (cut_nil _) hP hD hS hA rfl hl.1 rfl (Nat.le_of_ble_eq_true rfl) dX4_alter_44 ⟨Nat.zero_le _, Nat.zero_le _⟩ (fun r15 _ H locs h hP hD hS => ?_)
        have hP : va_P D vwCl (cM kc a mo lo) H := hP
        have hD : va_D A (cM kc a mo lo) := hD
        refine lv_if_eq (tgt := 54) hx hb dX4_alter_47 (by decide) (fun c17 => ?_) (fun c17 => ?_)
        · have h := br1 h c17
          exact hJ_54 ls H locs h (lv_sub hl [0, 1, 2, 3] rfl) hP hD hS
        · have h := br2 h c17
          refine lv_iconst (v := 1) hx hb dX4_alter_50 (by decide) ?_
          refine lv_goto (tgt := 55) hx hb dX4_alter_51 (by decide) ?_
          exact hJ_55 1 ls H locs h (lv_sub hl [0, 1, 2, 3] rfl) hP hD hS
    · have h := br1 h c13
      refine lv_iload_n hx hb dX4_alter_21 rfl (lv_at hl 3 rfl) ?_
      refine lv_i2l hx hb dX4_alter_22 rfl ?_
      refine lv_lconst (v := 0) hx hb dX4_alter_23 (by decide) ?_
      refine lv_ldc2 (v := 999) hx hb hown (hts (.constantLong RX4 203 (999)) (by decide +kernel)) dX4_alter_24 ?_
      refine q_cSi (As := [.long (p3.toInt64), .long 0, .long 999]) (rest := []) ⟨hx, hb, hml, hown, hts⟩ hK (c_X4_in l D kc (p3.toInt64) (0 : Int64) (999 : Int64) H.size _ h) (va_cwS 3 hts gX4_alter_X4_in rfl rfl rfl (by decide +kernel) ⟨Nat.le_of_ble_eq_true rfl, Nat.le_of_ble_eq_true rfl⟩) (cut_nil _) hP hD hS hA rfl hl.1 rfl (Nat.le_of_ble_eq_true rfl) dX4_alter_27 ⟨Nat.zero_le _, Nat.zero_le _⟩ (fun r18 _ H locs h hP hD hS => ?_)
      have hP : va_P D vwCl (cM kc a mo lo) H := hP
      have hD : va_D A (cM kc a mo lo) := hD
      refine lv_goto (tgt := 55) hx hb dX4_alter_30 (by decide) ?_
      exact hJ_55 r18 ls H locs h (lv_sub hl [0, 1, 2, 3] rfl) hP hD hS
  · have h := br1 h c12
    refine lv_iload_n hx hb dX4_alter_4 rfl (lv_at hl 3 rfl) ?_
    refine lv_i2l hx hb dX4_alter_5 rfl ?_
    refine lv_lconst (v := 0) hx hb dX4_alter_6 (by decide) ?_
    refine lv_ldc2 (v := 3) hx hb hown (hts (.constantLong RX4 201 (3)) (by decide +kernel)) dX4_alter_7 ?_
    refine q_cSi (As := [.long (p3.toInt64), .long 0, .long 3]) (rest := []) ⟨hx, hb, hml, hown, hts⟩ hK (c_X4_in l D kc (p3.toInt64) (0 : Int64) (3 : Int64) H.size _ h) (va_cwS 3 hts gX4_alter_X4_in rfl rfl rfl (by decide +kernel) ⟨Nat.le_of_ble_eq_true rfl, Nat.le_of_ble_eq_true rfl⟩) (cut_nil _) hP hD hS hA rfl hl.1 rfl (Nat.le_of_ble_eq_true rfl) dX4_alter_10 ⟨Nat.zero_le _, Nat.zero_le _⟩ (fun r20 _ H locs h hP hD hS => ?_)
    have hP : va_P D vwCl (cM kc a mo lo) H := hP
    have hD : va_D A (cM kc a mo lo) := hD
    refine lv_goto (tgt := 55) hx hb dX4_alter_13 (by decide) ?_
    exact hJ_55 r20 ls H locs h (lv_sub hl [0, 1, 2, 3] rfl) hP hD hS

def w_X4_slump (p1 : Int32) (mo : S2) (lo : SL) (K : Int32 → S2 → SL → Prop) : Prop := w_X4_in (p1.toInt64) (0 : Int64) (9 : Int64) (fun r1 => br (r1 = 0) (K (-1) mo lo) (w_X4_becomes (21 : Int32) p1 mo lo (fun r6 mo4 lo5 => K r6 mo4 lo5)))
abbrev rm_X4_slump : Room := { frames := 1, cells := 0, slots := 0, locals := 25 }
set_option maxHeartbeats 4000000 in
set_option maxRecDepth 100000 in
theorem c_X4_slump (l : Launch) (D : va_G) (kc : Nat → ClassId) (a : Nat → Nat) (p1 : Int32) (mo : S2) (lo : SL) (sz : Nat) (K : Int32 → S2 → SL → Prop) (h : w_X4_slump p1 mo lo K) : MetI l yX4_slump wsX4_slump rm_X4_slump D kc (fun u : S2 × SL => cM kc a u.1 u.2) (mo, lo) [.ref (a 0), .int p1] sz (fun r u => K r u.1 u.2) := by
  refine q_ei (code := cX4_slump) (maxL := 2) (by decide) rfl (Nat.le_of_ble_eq_true rfl) ?_
  intro p e s m args below meth c Q A hx hb hml hts hown hK hA hret ls hl hP hD hS
  have hown : s.vm.findClass RX4 = some m.cls := hown
  have hl : lv_has ls 2 [(0, .ref (a 0)), (1, .int p1)] := hl
  have hP : va_P D vwCl (cM kc a mo lo) s.heap := hP
  have hD : va_D A (cM kc a mo lo) := hD
  have hS : va_S A s.heap s.heap [] := hS
  obtain ⟨H, eH⟩ : ∃ z, z = s.heap := ⟨_, rfl⟩
  obtain ⟨locs, eL⟩ : ∃ z : List Loc, z = [] := ⟨_, rfl⟩
  have hP := q_heap hP eH
  have hS := q_heapS hS eH eL
  refine q_start eH eL ?_
  clear eH eL
  unfold w_X4_slump at h
  refine lv_iload_n hx hb dX4_slump_0 rfl (lv_at hl 1 rfl) ?_
  refine lv_i2l hx hb dX4_slump_1 rfl ?_
  refine lv_lconst (v := 0) hx hb dX4_slump_2 (by decide) ?_
  refine lv_ldc2 (v := 9) hx hb hown (hts (.constantLong RX4 210 (9)) (by decide +kernel)) dX4_slump_3 ?_
  refine q_cSi (As := [.long (p1.toInt64), .long 0, .long 9]) (rest := []) ⟨hx, hb, hml, hown, hts⟩ hK (c_X4_in l D kc (p1.toInt64) (0 : Int64) (9 : Int64) H.size _ h) (va_cwS 3 hts gX4_slump_X4_in rfl rfl rfl (by decide +kernel) ⟨Nat.le_of_ble_eq_true rfl, Nat.le_of_ble_eq_true rfl⟩) (cut_nil _) hP hD hS hA rfl hl.1 rfl (Nat.le_of_ble_eq_true rfl) dX4_slump_6 ⟨Nat.zero_le _, Nat.zero_le _⟩ (fun r1 _ H locs h hP hD hS => ?_)
  have hP : va_P D vwCl (cM kc a mo lo) H := hP
  have hD : va_D A (cM kc a mo lo) := hD
  refine lv_if_eq (tgt := 22) hx hb dX4_slump_9 (by decide) (fun c3 => ?_) (fun c3 => ?_)
  · have h := br1 h c3
    refine lv_iconst (v := -1) hx hb dX4_slump_22 (by decide) ?_
    exact hret (-1) (mo, lo) H locs ls _ h hP hD hS dX4_slump_23
  · have h := br2 h c3
    refine lv_aload_n hx hb dX4_slump_12 rfl (lv_at hl 0 rfl) ?_
    refine lv_bipush (v := 21) hx hb dX4_slump_13 (by decide) ?_
    refine lv_iload_n hx hb dX4_slump_15 rfl (lv_at hl 1 rfl) ?_
    refine q_cVi (As := [.int 21, .int p1]) (rest := []) ⟨hx, hb, hml, hown, hts⟩ hK (c_X4_becomes l D kc a (21 : Int32) p1 mo lo H.size _ h) (cwV 2 hts gX4_slump_X4_becomes rfl rfl rfl (by decide +kernel) ⟨Nat.le_of_ble_eq_true rfl, Nat.le_of_ble_eq_true rfl⟩) (cut_same (fun u : S2 × SL => cM kc a u.1 u.2) (mo, lo)) hP hD hS hA 4 0 rfl rfl rfl hl.1 rfl (Nat.le_of_ble_eq_true rfl) dX4_slump_16 ⟨Nat.zero_le _, Nat.zero_le _⟩ (fun r6 u7 H locs h hP hD hS => ?_)
    obtain ⟨mo4, lo5⟩ := u7
    have hP : va_P D vwCl (cM kc a mo4 lo5) H := hP
    have hD : va_D A (cM kc a mo4 lo5) := hD
    refine lv_goto (tgt := 23) hx hb dX4_slump_19 (by decide) ?_
    exact hret r6 (mo4, lo5) H locs ls _ h hP hD hS dX4_slump_23

def w_X4_hand (p1 : Int32) (mo : S2) (lo : SL) (K : Int32 → S2 → SL → Prop) : Prop := w_X4_isOne p1 mo lo (fun r3 mo1 lo2 => br (r3 = 0) (K (-1) mo1 lo2) (w_X4_becomes (22 : Int32) p1 mo1 lo2 (fun r8 mo6 lo7 => K r8 mo6 lo7)))
abbrev rm_X4_hand : Room := { frames := 2, cells := 0, slots := 0, locals := 46 }
set_option maxHeartbeats 4000000 in
set_option maxRecDepth 100000 in
theorem c_X4_hand (l : Launch) (D : va_G) (kc : Nat → ClassId) (a : Nat → Nat) (p1 : Int32) (mo : S2) (lo : SL) (sz : Nat) (K : Int32 → S2 → SL → Prop) (h : w_X4_hand p1 mo lo K) : MetI l yX4_hand wsX4_hand rm_X4_hand D kc (fun u : S2 × SL => cM kc a u.1 u.2) (mo, lo) [.ref (a 0), .int p1] sz (fun r u => K r u.1 u.2) := by
  refine q_ei (code := cX4_hand) (maxL := 2) (by decide) rfl (Nat.le_of_ble_eq_true rfl) ?_
  intro p e s m args below meth c Q A hx hb hml hts hown hK hA hret ls hl hP hD hS
  have hown : s.vm.findClass RX4 = some m.cls := hown
  have hl : lv_has ls 2 [(0, .ref (a 0)), (1, .int p1)] := hl
  have hP : va_P D vwCl (cM kc a mo lo) s.heap := hP
  have hD : va_D A (cM kc a mo lo) := hD
  have hS : va_S A s.heap s.heap [] := hS
  obtain ⟨H, eH⟩ : ∃ z, z = s.heap := ⟨_, rfl⟩
  obtain ⟨locs, eL⟩ : ∃ z : List Loc, z = [] := ⟨_, rfl⟩
  have hP := q_heap hP eH
  have hS := q_heapS hS eH eL
  refine q_start eH eL ?_
  clear eH eL
  unfold w_X4_hand at h
  refine lv_aload_n hx hb dX4_hand_0 rfl (lv_at hl 0 rfl) ?_
  refine lv_iload_n hx hb dX4_hand_1 rfl (lv_at hl 1 rfl) ?_
  refine q_cVi (As := [.int p1]) (rest := []) ⟨hx, hb, hml, hown, hts⟩ hK (c_X4_isOne l D kc a p1 mo lo H.size _ h) (cwV 1 hts gX4_hand_X4_isOne rfl rfl rfl (by decide +kernel) ⟨Nat.le_of_ble_eq_true rfl, Nat.le_of_ble_eq_true rfl⟩) (cut_same (fun u : S2 × SL => cM kc a u.1 u.2) (mo, lo)) hP hD hS hA 4 0 rfl rfl rfl hl.1 rfl (Nat.le_of_ble_eq_true rfl) dX4_hand_2 ⟨Nat.zero_le _, Nat.zero_le _⟩ (fun r3 u4 H locs h hP hD hS => ?_)
  obtain ⟨mo1, lo2⟩ := u4
  have hP : va_P D vwCl (cM kc a mo1 lo2) H := hP
  have hD : va_D A (cM kc a mo1 lo2) := hD
  refine lv_if_eq (tgt := 18) hx hb dX4_hand_5 (by decide) (fun c5 => ?_) (fun c5 => ?_)
  · have h := br1 h c5
    refine lv_iconst (v := -1) hx hb dX4_hand_18 (by decide) ?_
    exact hret (-1) (mo1, lo2) H locs ls _ h hP hD hS dX4_hand_19
  · have h := br2 h c5
    refine lv_aload_n hx hb dX4_hand_8 rfl (lv_at hl 0 rfl) ?_
    refine lv_bipush (v := 22) hx hb dX4_hand_9 (by decide) ?_
    refine lv_iload_n hx hb dX4_hand_11 rfl (lv_at hl 1 rfl) ?_
    refine q_cVi (As := [.int 22, .int p1]) (rest := []) ⟨hx, hb, hml, hown, hts⟩ hK (c_X4_becomes l D kc a (22 : Int32) p1 mo1 lo2 H.size _ h) (cwV 2 hts gX4_hand_X4_becomes rfl rfl rfl (by decide +kernel) ⟨Nat.le_of_ble_eq_true rfl, Nat.le_of_ble_eq_true rfl⟩) (cut_same (fun u : S2 × SL => cM kc a u.1 u.2) (mo1, lo2)) hP hD hS hA 4 0 rfl rfl rfl hl.1 rfl (Nat.le_of_ble_eq_true rfl) dX4_hand_12 ⟨Nat.zero_le _, Nat.zero_le _⟩ (fun r8 u9 H locs h hP hD hS => ?_)
    obtain ⟨mo6, lo7⟩ := u9
    have hP : va_P D vwCl (cM kc a mo6 lo7) H := hP
    have hD : va_D A (cM kc a mo6 lo7) := hD
    refine lv_goto (tgt := 19) hx hb dX4_hand_15 (by decide) ?_
    exact hret r8 (mo6, lo7) H locs ls _ h hP hD hS dX4_hand_19

def w_X4_give (p1 : Int32) (p2 : Int32) (p3 : Int32) (p4 : Int32) (mo : S2) (lo : SL) (K : Int32 → S2 → SL → Prop) : Prop := w_X4_in (p1.toInt64) (0 : Int64) (20 : Int64) (fun r1 => br (r1 = 0) (K (-1) mo lo) (w_X4_isOne p2 mo lo (fun r6 mo4 lo5 => br (r6 = 0) (K (-1) mo4 lo5) (w_X4_isOne p3 mo4 lo5 (fun r11 mo9 lo10 => br (r11 = 0) (K (-1) mo9 lo10) (br (p2 = p3) (K (-1) mo9 lo10) (w_X4_in (p4.toInt64) (1 : Int64) (20 : Int64) (fun r15 => br (r15 = 0) (K (-1) mo9 lo10) (br ((mo9 1 (23 : Int32).toNatClampNeg) = 4) (K (-3) mo9 lo10) (nm ((24 + (4 * (mo9 1 (23 : Int32).toNatClampNeg))) : Int32) (fun x19 => vp_in x19 171 ∧ (nm ((va_up mo9 1 (upd (mo9 1) x19.toNatClampNeg p1)) : S2) (fun mo21 => vp_in (x19 + 1) 171 ∧ (nm ((va_up mo21 1 (upd (mo21 1) (x19 + 1).toNatClampNeg p2)) : S2) (fun mo23 => vp_in (x19 + 2) 171 ∧ (nm ((va_up mo23 1 (upd (mo23 1) (x19 + 2).toNatClampNeg p3)) : S2) (fun mo25 => vp_in (x19 + 3) 171 ∧ (nm ((va_up mo25 1 (upd (mo25 1) (x19 + 3).toNatClampNeg p4)) : S2) (fun mo27 => nm ((va_up mo27 1 (upd (mo27 1) (23 : Int32).toNatClampNeg ((mo27 1 (23 : Int32).toNatClampNeg) + 1))) : S2) (fun mo28 => K (mo28 1 (23 : Int32).toNatClampNeg) mo28 lo10))))))))))))))))))))
abbrev rm_X4_give : Room := { frames := 2, cells := 0, slots := 0, locals := 46 }
set_option maxHeartbeats 4000000 in
set_option maxRecDepth 100000 in
theorem c_X4_give (l : Launch) (D : va_G) (kc : Nat → ClassId) (a : Nat → Nat) (p1 : Int32) (p2 : Int32) (p3 : Int32) (p4 : Int32) (mo : S2) (lo : SL) (sz : Nat) (K : Int32 → S2 → SL → Prop) (h : w_X4_give p1 p2 p3 p4 mo lo K) : MetI l yX4_give wsX4_give rm_X4_give D kc (fun u : S2 × SL => cM kc a u.1 u.2) (mo, lo) [.ref (a 0), .int p1, .int p2, .int p3, .int p4] sz (fun r u => K r u.1 u.2) := by
  refine q_ei (code := cX4_give) (maxL := 6) (by decide) rfl (Nat.le_of_ble_eq_true rfl) ?_
  intro p e s m args below meth c Q A hx hb hml hts hown hK hA hret ls hl hP hD hS
  have hown : s.vm.findClass RX4 = some m.cls := hown
  have hl : lv_has ls 6 [(0, .ref (a 0)), (1, .int p1), (2, .int p2), (3, .int p3), (4, .int p4)] := hl
  have hP : va_P D vwCl (cM kc a mo lo) s.heap := hP
  have hD : va_D A (cM kc a mo lo) := hD
  have hS : va_S A s.heap s.heap [] := hS
  obtain ⟨H, eH⟩ : ∃ z, z = s.heap := ⟨_, rfl⟩
  obtain ⟨locs, eL⟩ : ∃ z : List Loc, z = [] := ⟨_, rfl⟩
  have hP := q_heap hP eH
  have hS := q_heapS hS eH eL
  refine q_start eH eL ?_
  clear eH eL
  have hi4 : ∀ w ∈ u_ws RX4 TX4 29, w ∈ wsX4_give := by decide +kernel
  unfold w_X4_give at h
  refine lv_iload_n hx hb dX4_give_0 rfl (lv_at hl 1 rfl) ?_
  refine lv_i2l hx hb dX4_give_1 rfl ?_
  refine lv_lconst (v := 0) hx hb dX4_give_2 (by decide) ?_
  refine lv_ldc2 (v := 20) hx hb hown (hts (.constantLong RX4 205 (20)) (by decide +kernel)) dX4_give_3 ?_
  refine q_cSi (As := [.long (p1.toInt64), .long 0, .long 20]) (rest := []) ⟨hx, hb, hml, hown, hts⟩ hK (c_X4_in l D kc (p1.toInt64) (0 : Int64) (20 : Int64) H.size _ h) (va_cwS 3 hts gX4_give_X4_in rfl rfl rfl (by decide +kernel) ⟨Nat.le_of_ble_eq_true rfl, Nat.le_of_ble_eq_true rfl⟩) (cut_nil _) hP hD hS hA rfl hl.1 rfl (Nat.le_of_ble_eq_true rfl) dX4_give_6 ⟨Nat.zero_le _, Nat.zero_le _⟩ (fun r1 _ H locs h hP hD hS => ?_)
  have hP : va_P D vwCl (cM kc a mo lo) H := hP
  have hD : va_D A (cM kc a mo lo) := hD
  refine lv_if_eq (tgt := 46) hx hb dX4_give_9 (by decide) (fun c3 => ?_) (fun c3 => ?_)
  · have h := br1 h c3
    refine lv_iconst (v := -1) hx hb dX4_give_46 (by decide) ?_
    exact hret (-1) (mo, lo) H locs ls _ h hP hD hS dX4_give_47
  · have h := br2 h c3
    refine lv_aload_n hx hb dX4_give_12 rfl (lv_at hl 0 rfl) ?_
    refine lv_iload_n hx hb dX4_give_13 rfl (lv_at hl 2 rfl) ?_
    refine q_cVi (As := [.int p2]) (rest := []) ⟨hx, hb, hml, hown, hts⟩ hK (c_X4_isOne l D kc a p2 mo lo H.size _ h) (cwV 1 hts gX4_give_X4_isOne rfl rfl rfl (by decide +kernel) ⟨Nat.le_of_ble_eq_true rfl, Nat.le_of_ble_eq_true rfl⟩) (cut_same (fun u : S2 × SL => cM kc a u.1 u.2) (mo, lo)) hP hD hS hA 4 0 rfl rfl rfl hl.1 rfl (Nat.le_of_ble_eq_true rfl) dX4_give_14 ⟨Nat.zero_le _, Nat.zero_le _⟩ (fun r6 u7 H locs h hP hD hS => ?_)
    obtain ⟨mo4, lo5⟩ := u7
    have hP : va_P D vwCl (cM kc a mo4 lo5) H := hP
    have hD : va_D A (cM kc a mo4 lo5) := hD
    refine lv_if_eq (tgt := 46) hx hb dX4_give_17 (by decide) (fun c8 => ?_) (fun c8 => ?_)
    · have h := br1 h c8
      refine lv_iconst (v := -1) hx hb dX4_give_46 (by decide) ?_
      exact hret (-1) (mo4, lo5) H locs ls _ h hP hD hS dX4_give_47
    · have h := br2 h c8
      refine lv_aload_n hx hb dX4_give_20 rfl (lv_at hl 0 rfl) ?_
      refine lv_iload_n hx hb dX4_give_21 rfl (lv_at hl 3 rfl) ?_
      refine q_cVi (As := [.int p3]) (rest := []) ⟨hx, hb, hml, hown, hts⟩ hK (c_X4_isOne l D kc a p3 mo4 lo5 H.size _ h) (cwV 1 hts gX4_give_X4_isOne rfl rfl rfl (by decide +kernel) ⟨Nat.le_of_ble_eq_true rfl, Nat.le_of_ble_eq_true rfl⟩) (cut_same (fun u : S2 × SL => cM kc a u.1 u.2) (mo4, lo5)) hP hD hS hA 4 0 rfl rfl rfl hl.1 rfl (Nat.le_of_ble_eq_true rfl) dX4_give_22 ⟨Nat.zero_le _, Nat.zero_le _⟩ (fun r11 u12 H locs h hP hD hS => ?_)
      obtain ⟨mo9, lo10⟩ := u12
      have hP : va_P D vwCl (cM kc a mo9 lo10) H := hP
      have hD : va_D A (cM kc a mo9 lo10) := hD
      refine lv_if_eq (tgt := 46) hx hb dX4_give_25 (by decide) (fun c13 => ?_) (fun c13 => ?_)
      · have h := br1 h c13
        refine lv_iconst (v := -1) hx hb dX4_give_46 (by decide) ?_
        exact hret (-1) (mo9, lo10) H locs ls _ h hP hD hS dX4_give_47
      · have h := br2 h c13
        refine lv_iload_n hx hb dX4_give_28 rfl (lv_at hl 2 rfl) ?_
        refine lv_iload_n hx hb dX4_give_29 rfl (lv_at hl 3 rfl) ?_
        refine lv_icmp_eq (tgt := 46) hx hb dX4_give_30 (by decide) (fun c14 => ?_) (fun c14 => ?_)
        · have h := br1 h c14
          refine lv_iconst (v := -1) hx hb dX4_give_46 (by decide) ?_
          exact hret (-1) (mo9, lo10) H locs ls _ h hP hD hS dX4_give_47
        · have h := br2 h c14
          refine lv_iload hx hb dX4_give_33 (lv_at hl 4 rfl) ?_
          refine lv_i2l hx hb dX4_give_35 rfl ?_
          refine lv_lconst (v := 1) hx hb dX4_give_36 (by decide) ?_
          refine lv_ldc2 (v := 20) hx hb hown (hts (.constantLong RX4 205 (20)) (by decide +kernel)) dX4_give_37 ?_
          refine q_cSi (As := [.long (p4.toInt64), .long 1, .long 20]) (rest := []) ⟨hx, hb, hml, hown, hts⟩ hK (c_X4_in l D kc (p4.toInt64) (1 : Int64) (20 : Int64) H.size _ h) (va_cwS 3 hts gX4_give_X4_in rfl rfl rfl (by decide +kernel) ⟨Nat.le_of_ble_eq_true rfl, Nat.le_of_ble_eq_true rfl⟩) (cut_nil _) hP hD hS hA rfl hl.1 rfl (Nat.le_of_ble_eq_true rfl) dX4_give_40 ⟨Nat.zero_le _, Nat.zero_le _⟩ (fun r15 _ H locs h hP hD hS => ?_)
          have hP : va_P D vwCl (cM kc a mo9 lo10) H := hP
          have hD : va_D A (cM kc a mo9 lo10) := hD
          refine lv_if_ne (tgt := 48) hx hb dX4_give_43 (by decide) (fun c17 => ?_) (fun c17 => ?_)
          · have h := br2 h c17
            refine lv_aload_n hx hb dX4_give_48 rfl (lv_at hl 0 rfl) ?_
            refine va_get (D := D) (ci := 4) (v := .ref (a 1)) (C := RX4) (T := TX4) (N := 29) hx hb hts hi4 hown hK.1 hP 0 rfl rfl 0 (by decide) (hts (.fieldLink RX4 7 "LastPennyModel" "st" "[I") (by decide +kernel)) (fun _ h9 => h9) rfl dX4_give_49 ?_
            refine lv_bipush (v := 23) hx hb dX4_give_52 (by decide) ?_
            refine va_iald hx hb hK.1 hP 1 0 rfl rfl (by unfold vp_in; decide) dX4_give_54 ?_
            refine lv_iconst (v := 4) hx hb dX4_give_55 (by decide) ?_
            refine lv_icmp_ne (tgt := 62) hx hb dX4_give_56 (by decide) (fun c18 => ?_) (fun c18 => ?_)
            · have h := br2 h c18
              refine lv_bipush (v := 24) hx hb dX4_give_62 (by decide) ?_
              refine lv_iconst (v := 4) hx hb dX4_give_64 (by decide) ?_
              refine lv_aload_n hx hb dX4_give_65 rfl (lv_at hl 0 rfl) ?_
              refine va_get (D := D) (ci := 4) (v := .ref (a 1)) (C := RX4) (T := TX4) (N := 29) hx hb hts hi4 hown hK.1 hP 0 rfl rfl 0 (by decide) (hts (.fieldLink RX4 7 "LastPennyModel" "st" "[I") (by decide +kernel)) (fun _ h9 => h9) rfl dX4_give_66 ?_
              refine lv_bipush (v := 23) hx hb dX4_give_69 (by decide) ?_
              refine va_iald hx hb hK.1 hP 1 0 rfl rfl (by unfold vp_in; decide) dX4_give_71 ?_
              refine lv_imul hx hb dX4_give_72 ?_
              refine lv_iadd hx hb dX4_give_73 ?_
              refine lv_topi (fun x19 ex19 => ?_)
              have h := nm_out h x19 ex19
              refine lv_istore (lv' := [(5, .int x19), (0, .ref (a 0)), (1, .int p1), (2, .int p2), (3, .int p3), (4, .int p4)]) hx hb dX4_give_74 hl (by decide) rfl (fun ls hl => ?_)
              refine lv_aload_n hx hb dX4_give_76 rfl (lv_at hl 1 rfl) ?_
              refine va_get (D := D) (ci := 4) (v := .ref (a 1)) (C := RX4) (T := TX4) (N := 29) hx hb hts hi4 hown hK.1 hP 0 rfl rfl 0 (by decide) (hts (.fieldLink RX4 7 "LastPennyModel" "st" "[I") (by decide +kernel)) (fun _ h9 => h9) rfl dX4_give_77 ?_
              refine lv_iload hx hb dX4_give_80 (lv_at hl 0 rfl) ?_
              refine lv_iload_n hx hb dX4_give_82 rfl (lv_at hl 2 rfl) ?_
              obtain ⟨hi_20, h⟩ := h
              refine va_iast hx hb hK.1 hP hD hS 1 0 rfl rfl hi_20 dX4_give_83 (fun H locs hP hD hS => ?_)
              obtain ⟨mo21, emo21⟩ : ∃ z, z = (va_up mo9 1 (upd (mo9 1) x19.toNatClampNeg p1)) := ⟨_, rfl⟩
              have h := nm_out h mo21 emo21
              have hP : va_P D vwCl (cM kc a mo21 lo10) H := q_to hP (by subst emo21; rfl)
              have hD : va_D A (cM kc a mo21 lo10) := q_toD hD (by subst emo21; rfl)
              refine lv_aload_n hx hb dX4_give_84 rfl (lv_at hl 1 rfl) ?_
              refine va_get (D := D) (ci := 4) (v := .ref (a 1)) (C := RX4) (T := TX4) (N := 29) hx hb hts hi4 hown hK.1 hP 0 rfl rfl 0 (by decide) (hts (.fieldLink RX4 7 "LastPennyModel" "st" "[I") (by decide +kernel)) (fun _ h9 => h9) rfl dX4_give_85 ?_
              refine lv_iload hx hb dX4_give_88 (lv_at hl 0 rfl) ?_
              refine lv_iconst (v := 1) hx hb dX4_give_90 (by decide) ?_
              refine lv_iadd hx hb dX4_give_91 ?_
              refine lv_iload_n hx hb dX4_give_92 rfl (lv_at hl 3 rfl) ?_
              obtain ⟨hi_22, h⟩ := h
              refine va_iast hx hb hK.1 hP hD hS 1 0 rfl rfl hi_22 dX4_give_93 (fun H locs hP hD hS => ?_)
              obtain ⟨mo23, emo23⟩ : ∃ z, z = (va_up mo21 1 (upd (mo21 1) (x19 + 1).toNatClampNeg p2)) := ⟨_, rfl⟩
              have h := nm_out h mo23 emo23
              have hP : va_P D vwCl (cM kc a mo23 lo10) H := q_to hP (by subst emo23; rfl)
              have hD : va_D A (cM kc a mo23 lo10) := q_toD hD (by subst emo23; rfl)
              refine lv_aload_n hx hb dX4_give_94 rfl (lv_at hl 1 rfl) ?_
              refine va_get (D := D) (ci := 4) (v := .ref (a 1)) (C := RX4) (T := TX4) (N := 29) hx hb hts hi4 hown hK.1 hP 0 rfl rfl 0 (by decide) (hts (.fieldLink RX4 7 "LastPennyModel" "st" "[I") (by decide +kernel)) (fun _ h9 => h9) rfl dX4_give_95 ?_
              refine lv_iload hx hb dX4_give_98 (lv_at hl 0 rfl) ?_
              refine lv_iconst (v := 2) hx hb dX4_give_100 (by decide) ?_
              refine lv_iadd hx hb dX4_give_101 ?_
              refine lv_iload_n hx hb dX4_give_102 rfl (lv_at hl 4 rfl) ?_
              obtain ⟨hi_24, h⟩ := h
              refine va_iast hx hb hK.1 hP hD hS 1 0 rfl rfl hi_24 dX4_give_103 (fun H locs hP hD hS => ?_)
              obtain ⟨mo25, emo25⟩ : ∃ z, z = (va_up mo23 1 (upd (mo23 1) (x19 + 2).toNatClampNeg p3)) := ⟨_, rfl⟩
              have h := nm_out h mo25 emo25
              have hP : va_P D vwCl (cM kc a mo25 lo10) H := q_to hP (by subst emo25; rfl)
              have hD : va_D A (cM kc a mo25 lo10) := q_toD hD (by subst emo25; rfl)
              refine lv_aload_n hx hb dX4_give_104 rfl (lv_at hl 1 rfl) ?_
              refine va_get (D := D) (ci := 4) (v := .ref (a 1)) (C := RX4) (T := TX4) (N := 29) hx hb hts hi4 hown hK.1 hP 0 rfl rfl 0 (by decide) (hts (.fieldLink RX4 7 "LastPennyModel" "st" "[I") (by decide +kernel)) (fun _ h9 => h9) rfl dX4_give_105 ?_
              refine lv_iload hx hb dX4_give_108 (lv_at hl 0 rfl) ?_
              refine lv_iconst (v := 3) hx hb dX4_give_110 (by decide) ?_
              refine lv_iadd hx hb dX4_give_111 ?_
              refine lv_iload hx hb dX4_give_112 (lv_at hl 5 rfl) ?_
              obtain ⟨hi_26, h⟩ := h
              refine va_iast hx hb hK.1 hP hD hS 1 0 rfl rfl hi_26 dX4_give_114 (fun H locs hP hD hS => ?_)
              obtain ⟨mo27, emo27⟩ : ∃ z, z = (va_up mo25 1 (upd (mo25 1) (x19 + 3).toNatClampNeg p4)) := ⟨_, rfl⟩
              have h := nm_out h mo27 emo27
              have hP : va_P D vwCl (cM kc a mo27 lo10) H := q_to hP (by subst emo27; rfl)
              have hD : va_D A (cM kc a mo27 lo10) := q_toD hD (by subst emo27; rfl)
              refine lv_aload_n hx hb dX4_give_115 rfl (lv_at hl 1 rfl) ?_
              refine va_get (D := D) (ci := 4) (v := .ref (a 1)) (C := RX4) (T := TX4) (N := 29) hx hb hts hi4 hown hK.1 hP 0 rfl rfl 0 (by decide) (hts (.fieldLink RX4 7 "LastPennyModel" "st" "[I") (by decide +kernel)) (fun _ h9 => h9) rfl dX4_give_116 ?_
              refine lv_bipush (v := 23) hx hb dX4_give_119 (by decide) ?_
              refine lv_dup2_11 hx hb dX4_give_121 rfl rfl ?_
              refine va_iald hx hb hK.1 hP 1 0 rfl rfl (by unfold vp_in; decide) dX4_give_122 ?_
              refine lv_iconst (v := 1) hx hb dX4_give_123 (by decide) ?_
              refine lv_iadd hx hb dX4_give_124 ?_
              refine va_iast hx hb hK.1 hP hD hS 1 0 rfl rfl (by unfold vp_in; decide) dX4_give_125 (fun H locs hP hD hS => ?_)
              obtain ⟨mo28, emo28⟩ : ∃ z, z = (va_up mo27 1 (upd (mo27 1) (23 : Int32).toNatClampNeg ((mo27 1 (23 : Int32).toNatClampNeg) + 1))) := ⟨_, rfl⟩
              have h := nm_out h mo28 emo28
              have hP : va_P D vwCl (cM kc a mo28 lo10) H := q_to hP (by subst emo28; rfl)
              have hD : va_D A (cM kc a mo28 lo10) := q_toD hD (by subst emo28; rfl)
              refine lv_aload_n hx hb dX4_give_126 rfl (lv_at hl 1 rfl) ?_
              refine va_get (D := D) (ci := 4) (v := .ref (a 1)) (C := RX4) (T := TX4) (N := 29) hx hb hts hi4 hown hK.1 hP 0 rfl rfl 0 (by decide) (hts (.fieldLink RX4 7 "LastPennyModel" "st" "[I") (by decide +kernel)) (fun _ h9 => h9) rfl dX4_give_127 ?_
              refine lv_bipush (v := 23) hx hb dX4_give_130 (by decide) ?_
              refine va_iald hx hb hK.1 hP 1 0 rfl rfl (by unfold vp_in; decide) dX4_give_132 ?_
              exact hret (mo28 1 (23 : Int32).toNatClampNeg) (mo28, lo10) H locs ls _ h hP hD hS dX4_give_133
            · have h := br1 h c18
              refine lv_bipush (v := -3) hx hb dX4_give_59 (by decide) ?_
              exact hret (-3) (mo9, lo10) H locs ls _ h hP hD hS dX4_give_61
          · have h := br1 h c17
            refine lv_iconst (v := -1) hx hb dX4_give_46 (by decide) ?_
            exact hret (-1) (mo9, lo10) H locs ls _ h hP hD hS dX4_give_47

def w_X4_drop (p1 : Int32) (mo : S2) (lo : SL) (K : Int32 → S2 → SL → Prop) : Prop := w_X4_in (p1.toInt64) (0 : Int64) ((mo 1 (23 : Int32).toNatClampNeg).toInt64) (fun r1 => br (r1 = 0) (K (-1) mo lo) (w_X4_becomes (23 : Int32) p1 mo lo (fun r6 mo4 lo5 => K r6 mo4 lo5)))
abbrev rm_X4_drop : Room := { frames := 1, cells := 0, slots := 0, locals := 25 }
set_option maxHeartbeats 4000000 in
set_option maxRecDepth 100000 in
theorem c_X4_drop (l : Launch) (D : va_G) (kc : Nat → ClassId) (a : Nat → Nat) (p1 : Int32) (mo : S2) (lo : SL) (sz : Nat) (K : Int32 → S2 → SL → Prop) (h : w_X4_drop p1 mo lo K) : MetI l yX4_drop wsX4_drop rm_X4_drop D kc (fun u : S2 × SL => cM kc a u.1 u.2) (mo, lo) [.ref (a 0), .int p1] sz (fun r u => K r u.1 u.2) := by
  refine q_ei (code := cX4_drop) (maxL := 2) (by decide) rfl (Nat.le_of_ble_eq_true rfl) ?_
  intro p e s m args below meth c Q A hx hb hml hts hown hK hA hret ls hl hP hD hS
  have hown : s.vm.findClass RX4 = some m.cls := hown
  have hl : lv_has ls 2 [(0, .ref (a 0)), (1, .int p1)] := hl
  have hP : va_P D vwCl (cM kc a mo lo) s.heap := hP
  have hD : va_D A (cM kc a mo lo) := hD
  have hS : va_S A s.heap s.heap [] := hS
  obtain ⟨H, eH⟩ : ∃ z, z = s.heap := ⟨_, rfl⟩
  obtain ⟨locs, eL⟩ : ∃ z : List Loc, z = [] := ⟨_, rfl⟩
  have hP := q_heap hP eH
  have hS := q_heapS hS eH eL
  refine q_start eH eL ?_
  clear eH eL
  have hi4 : ∀ w ∈ u_ws RX4 TX4 29, w ∈ wsX4_drop := by decide +kernel
  unfold w_X4_drop at h
  refine lv_iload_n hx hb dX4_drop_0 rfl (lv_at hl 1 rfl) ?_
  refine lv_i2l hx hb dX4_drop_1 rfl ?_
  refine lv_lconst (v := 0) hx hb dX4_drop_2 (by decide) ?_
  refine lv_aload_n hx hb dX4_drop_3 rfl (lv_at hl 0 rfl) ?_
  refine va_get (D := D) (ci := 4) (v := .ref (a 1)) (C := RX4) (T := TX4) (N := 29) hx hb hts hi4 hown hK.1 hP 0 rfl rfl 0 (by decide) (hts (.fieldLink RX4 7 "LastPennyModel" "st" "[I") (by decide +kernel)) (fun _ h9 => h9) rfl dX4_drop_4 ?_
  refine lv_bipush (v := 23) hx hb dX4_drop_7 (by decide) ?_
  refine va_iald hx hb hK.1 hP 1 0 rfl rfl (by unfold vp_in; decide) dX4_drop_9 ?_
  refine lv_i2l hx hb dX4_drop_10 rfl ?_
  refine q_cSi (As := [.long (p1.toInt64), .long 0, .long ((mo 1 (23 : Int32).toNatClampNeg).toInt64)]) (rest := []) ⟨hx, hb, hml, hown, hts⟩ hK (c_X4_in l D kc (p1.toInt64) (0 : Int64) ((mo 1 (23 : Int32).toNatClampNeg).toInt64) H.size _ h) (va_cwS 3 hts gX4_drop_X4_in rfl rfl rfl (by decide +kernel) ⟨Nat.le_of_ble_eq_true rfl, Nat.le_of_ble_eq_true rfl⟩) (cut_nil _) hP hD hS hA rfl hl.1 rfl (Nat.le_of_ble_eq_true rfl) dX4_drop_11 ⟨Nat.zero_le _, Nat.zero_le _⟩ (fun r1 _ H locs h hP hD hS => ?_)
  have hP : va_P D vwCl (cM kc a mo lo) H := hP
  have hD : va_D A (cM kc a mo lo) := hD
  refine lv_if_eq (tgt := 27) hx hb dX4_drop_14 (by decide) (fun c3 => ?_) (fun c3 => ?_)
  · have h := br1 h c3
    refine lv_iconst (v := -1) hx hb dX4_drop_27 (by decide) ?_
    exact hret (-1) (mo, lo) H locs ls _ h hP hD hS dX4_drop_28
  · have h := br2 h c3
    refine lv_aload_n hx hb dX4_drop_17 rfl (lv_at hl 0 rfl) ?_
    refine lv_bipush (v := 23) hx hb dX4_drop_18 (by decide) ?_
    refine lv_iload_n hx hb dX4_drop_20 rfl (lv_at hl 1 rfl) ?_
    refine q_cVi (As := [.int 23, .int p1]) (rest := []) ⟨hx, hb, hml, hown, hts⟩ hK (c_X4_becomes l D kc a (23 : Int32) p1 mo lo H.size _ h) (cwV 2 hts gX4_drop_X4_becomes rfl rfl rfl (by decide +kernel) ⟨Nat.le_of_ble_eq_true rfl, Nat.le_of_ble_eq_true rfl⟩) (cut_same (fun u : S2 × SL => cM kc a u.1 u.2) (mo, lo)) hP hD hS hA 4 0 rfl rfl rfl hl.1 rfl (Nat.le_of_ble_eq_true rfl) dX4_drop_21 ⟨Nat.zero_le _, Nat.zero_le _⟩ (fun r6 u7 H locs h hP hD hS => ?_)
    obtain ⟨mo4, lo5⟩ := u7
    have hP : va_P D vwCl (cM kc a mo4 lo5) H := hP
    have hD : va_D A (cM kc a mo4 lo5) := hD
    refine lv_goto (tgt := 28) hx hb dX4_drop_24 (by decide) ?_
    exact hret r6 (mo4, lo5) H locs ls _ h hP hD hS dX4_drop_28

def w_X4_quarters (p1 : Int32) (mo : S2) (lo : SL) (K : Int32 → S2 → SL → Prop) : Prop := w_X4_in (p1.toInt64) (0 : Int64) (30 : Int64) (fun r1 => br (r1 = 0) (K (-1) mo lo) (br (((mo 1 (20 : Int32).toNatClampNeg) + p1) ≤ 999) (w_X4_starts mo lo (fun mo5 lo6 => w_X4_quartersGo p1 mo5 lo6 (fun mo8 lo9 => w_X4_settles mo8 lo9 (fun mo11 lo12 => K (mo11 1 (22 : Int32).toNatClampNeg) mo11 lo12)))) (K (-3) mo lo)))
abbrev rm_X4_quarters : Room := { frames := 5, cells := 0, slots := 0, locals := 110 }
set_option maxHeartbeats 4000000 in
set_option maxRecDepth 100000 in
theorem c_X4_quarters (l : Launch) (D : va_G) (kc : Nat → ClassId) (a : Nat → Nat) (p1 : Int32) (mo : S2) (lo : SL) (sz : Nat) (K : Int32 → S2 → SL → Prop) (h : w_X4_quarters p1 mo lo K) : MetI l yX4_quarters wsX4_quarters rm_X4_quarters D kc (fun u : S2 × SL => cM kc a u.1 u.2) (mo, lo) [.ref (a 0), .int p1] sz (fun r u => K r u.1 u.2) := by
  refine q_ei (code := cX4_quarters) (maxL := 2) (by decide) rfl (Nat.le_of_ble_eq_true rfl) ?_
  intro p e s m args below meth c Q A hx hb hml hts hown hK hA hret ls hl hP hD hS
  have hown : s.vm.findClass RX4 = some m.cls := hown
  have hl : lv_has ls 2 [(0, .ref (a 0)), (1, .int p1)] := hl
  have hP : va_P D vwCl (cM kc a mo lo) s.heap := hP
  have hD : va_D A (cM kc a mo lo) := hD
  have hS : va_S A s.heap s.heap [] := hS
  obtain ⟨H, eH⟩ : ∃ z, z = s.heap := ⟨_, rfl⟩
  obtain ⟨locs, eL⟩ : ∃ z : List Loc, z = [] := ⟨_, rfl⟩
  have hP := q_heap hP eH
  have hS := q_heapS hS eH eL
  refine q_start eH eL ?_
  clear eH eL
  have hi4 : ∀ w ∈ u_ws RX4 TX4 29, w ∈ wsX4_quarters := by decide +kernel
  unfold w_X4_quarters at h
  refine lv_iload_n hx hb dX4_quarters_0 rfl (lv_at hl 1 rfl) ?_
  refine lv_i2l hx hb dX4_quarters_1 rfl ?_
  refine lv_lconst (v := 0) hx hb dX4_quarters_2 (by decide) ?_
  refine lv_ldc2 (v := 30) hx hb hown (hts (.constantLong RX4 212 (30)) (by decide +kernel)) dX4_quarters_3 ?_
  refine q_cSi (As := [.long (p1.toInt64), .long 0, .long 30]) (rest := []) ⟨hx, hb, hml, hown, hts⟩ hK (c_X4_in l D kc (p1.toInt64) (0 : Int64) (30 : Int64) H.size _ h) (va_cwS 3 hts gX4_quarters_X4_in rfl rfl rfl (by decide +kernel) ⟨Nat.le_of_ble_eq_true rfl, Nat.le_of_ble_eq_true rfl⟩) (cut_nil _) hP hD hS hA rfl hl.1 rfl (Nat.le_of_ble_eq_true rfl) dX4_quarters_6 ⟨Nat.zero_le _, Nat.zero_le _⟩ (fun r1 _ H locs h hP hD hS => ?_)
  have hP : va_P D vwCl (cM kc a mo lo) H := hP
  have hD : va_D A (cM kc a mo lo) := hD
  refine lv_if_ne (tgt := 14) hx hb dX4_quarters_9 (by decide) (fun c3 => ?_) (fun c3 => ?_)
  · have h := br2 h c3
    refine lv_aload_n hx hb dX4_quarters_14 rfl (lv_at hl 0 rfl) ?_
    refine va_get (D := D) (ci := 4) (v := .ref (a 1)) (C := RX4) (T := TX4) (N := 29) hx hb hts hi4 hown hK.1 hP 0 rfl rfl 0 (by decide) (hts (.fieldLink RX4 7 "LastPennyModel" "st" "[I") (by decide +kernel)) (fun _ h9 => h9) rfl dX4_quarters_15 ?_
    refine lv_bipush (v := 20) hx hb dX4_quarters_18 (by decide) ?_
    refine va_iald hx hb hK.1 hP 1 0 rfl rfl (by unfold vp_in; decide) dX4_quarters_20 ?_
    refine lv_iload_n hx hb dX4_quarters_21 rfl (lv_at hl 1 rfl) ?_
    refine lv_iadd hx hb dX4_quarters_22 ?_
    refine lv_sipush (v := 999) hx hb dX4_quarters_23 (by decide) ?_
    refine lv_icmp_le (tgt := 32) hx hb dX4_quarters_26 (by decide) (fun c4 => ?_) (fun c4 => ?_)
    · have h := br1 h c4
      refine lv_aload_n hx hb dX4_quarters_32 rfl (lv_at hl 0 rfl) ?_
      refine q_cVv (As := []) (rest := []) ⟨hx, hb, hml, hown, hts⟩ hK (c_X4_starts l D kc a mo lo H.size _ h) (cwV 0 hts gX4_quarters_X4_starts rfl rfl rfl (by decide +kernel) ⟨Nat.le_of_ble_eq_true rfl, Nat.le_of_ble_eq_true rfl⟩) (cut_same (fun u : S2 × SL => cM kc a u.1 u.2) (mo, lo)) hP hD hS hA 4 0 rfl rfl rfl hl.1 rfl (Nat.le_of_ble_eq_true rfl) dX4_quarters_33 ⟨Nat.zero_le _, Nat.zero_le _⟩ (fun u7 H locs h hP hD hS => ?_)
      obtain ⟨mo5, lo6⟩ := u7
      have hP : va_P D vwCl (cM kc a mo5 lo6) H := hP
      have hD : va_D A (cM kc a mo5 lo6) := hD
      refine lv_aload_n hx hb dX4_quarters_36 rfl (lv_at hl 0 rfl) ?_
      refine lv_iload_n hx hb dX4_quarters_37 rfl (lv_at hl 1 rfl) ?_
      refine q_cVv (As := [.int p1]) (rest := []) ⟨hx, hb, hml, hown, hts⟩ hK (c_X4_quartersGo l D kc a p1 mo5 lo6 H.size _ h) (cwV 1 hts gX4_quarters_X4_quartersGo rfl rfl rfl (by decide +kernel) ⟨Nat.le_of_ble_eq_true rfl, Nat.le_of_ble_eq_true rfl⟩) (cut_same (fun u : S2 × SL => cM kc a u.1 u.2) (mo5, lo6)) hP hD hS hA 4 0 rfl rfl rfl hl.1 rfl (Nat.le_of_ble_eq_true rfl) dX4_quarters_38 ⟨Nat.zero_le _, Nat.zero_le _⟩ (fun u10 H locs h hP hD hS => ?_)
      obtain ⟨mo8, lo9⟩ := u10
      have hP : va_P D vwCl (cM kc a mo8 lo9) H := hP
      have hD : va_D A (cM kc a mo8 lo9) := hD
      refine lv_aload_n hx hb dX4_quarters_41 rfl (lv_at hl 0 rfl) ?_
      refine q_cVv (As := []) (rest := []) ⟨hx, hb, hml, hown, hts⟩ hK (c_X4_settles l D kc a mo8 lo9 H.size _ h) (cwV 0 hts gX4_quarters_X4_settles rfl rfl rfl (by decide +kernel) ⟨Nat.le_of_ble_eq_true rfl, Nat.le_of_ble_eq_true rfl⟩) (cut_same (fun u : S2 × SL => cM kc a u.1 u.2) (mo8, lo9)) hP hD hS hA 4 0 rfl rfl rfl hl.1 rfl (Nat.le_of_ble_eq_true rfl) dX4_quarters_42 ⟨Nat.zero_le _, Nat.zero_le _⟩ (fun u13 H locs h hP hD hS => ?_)
      obtain ⟨mo11, lo12⟩ := u13
      have hP : va_P D vwCl (cM kc a mo11 lo12) H := hP
      have hD : va_D A (cM kc a mo11 lo12) := hD
      refine lv_aload_n hx hb dX4_quarters_45 rfl (lv_at hl 0 rfl) ?_
      refine va_get (D := D) (ci := 4) (v := .ref (a 1)) (C := RX4) (T := TX4) (N := 29) hx hb hts hi4 hown hK.1 hP 0 rfl rfl 0 (by decide) (hts (.fieldLink RX4 7 "LastPennyModel" "st" "[I") (by decide +kernel)) (fun _ h9 => h9) rfl dX4_quarters_46 ?_
      refine lv_bipush (v := 22) hx hb dX4_quarters_49 (by decide) ?_
      refine va_iald hx hb hK.1 hP 1 0 rfl rfl (by unfold vp_in; decide) dX4_quarters_51 ?_
      exact hret (mo11 1 (22 : Int32).toNatClampNeg) (mo11, lo12) H locs ls _ h hP hD hS dX4_quarters_52
    · have h := br2 h c4
      refine lv_bipush (v := -3) hx hb dX4_quarters_29 (by decide) ?_
      exact hret (-3) (mo, lo) H locs ls _ h hP hD hS dX4_quarters_31
  · have h := br1 h c3
    refine lv_iconst (v := -1) hx hb dX4_quarters_12 (by decide) ?_
    exact hret (-1) (mo, lo) H locs ls _ h hP hD hS dX4_quarters_13

def w_X4_isFar (p0 : Int32) (K : Int32 → Prop) : Prop := w_X4_in (p0.toInt64) (0 : Int64) (60 : Int64) (fun r1 => (r1 = 0 ∨ r1 = 1) ∧ K r1)
abbrev rm_X4_isFar : Room := { frames := 1, cells := 0, slots := 0, locals := 25 }
set_option maxHeartbeats 4000000 in
set_option maxRecDepth 100000 in
theorem c_X4_isFar (l : Launch) (D : va_G) (kc : Nat → ClassId) (p0 : Int32) (sz : Nat) (K : Int32 → Prop) (h : w_X4_isFar p0 K) : MetI l yX4_isFar wsX4_isFar rm_X4_isFar D kc (fun _ : Unit => []) () [.int p0] sz (fun r _ => K r) := by
  refine q_ez (code := cX4_isFar) (maxL := 1) (by decide) rfl (Nat.le_of_ble_eq_true rfl) ?_
  intro p e s m args below meth c Q A hx hb hml hts hown hK hA hret ls hl hP hD hS
  have hown : s.vm.findClass RX4 = some m.cls := hown
  have hl : lv_has ls 1 [(0, .int p0)] := hl
  have hP : va_P D vwCl [] s.heap := hP
  have hS : va_S A s.heap s.heap [] := hS
  obtain ⟨H, eH⟩ : ∃ z, z = s.heap := ⟨_, rfl⟩
  obtain ⟨locs, eL⟩ : ∃ z : List Loc, z = [] := ⟨_, rfl⟩
  have hP := q_heap hP eH
  have hS := q_heapS hS eH eL
  refine q_start eH eL ?_
  clear eH eL
  unfold w_X4_isFar at h
  refine lv_iload_n hx hb dX4_isFar_0 rfl (lv_at hl 0 rfl) ?_
  refine lv_i2l hx hb dX4_isFar_1 rfl ?_
  refine lv_lconst (v := 0) hx hb dX4_isFar_2 (by decide) ?_
  refine lv_ldc2 (v := 60) hx hb hown (hts (.constantLong RX4 220 (60)) (by decide +kernel)) dX4_isFar_3 ?_
  refine q_cSi (As := [.long (p0.toInt64), .long 0, .long 60]) (rest := []) ⟨hx, hb, hml, hown, hts⟩ hK (c_X4_in l D kc (p0.toInt64) (0 : Int64) (60 : Int64) H.size _ h) (va_cwS 3 hts gX4_isFar_X4_in rfl rfl rfl (by decide +kernel) ⟨Nat.le_of_ble_eq_true rfl, Nat.le_of_ble_eq_true rfl⟩) (cut_nil _) hP hD hS hA rfl hl.1 rfl (Nat.le_of_ble_eq_true rfl) dX4_isFar_6 ⟨Nat.zero_le _, Nat.zero_le _⟩ (fun r1 _ H locs h hP hD hS => ?_)
  have hP : va_P D vwCl ([]) H := hP
  have hD : va_D A ([]) := hD
  obtain ⟨hz3, h⟩ := h
  exact hret r1 () H locs ls _ (q_nar hz3) h hP hD hS dX4_isFar_9

def w_X4_runs (p1 : Int32) (p2 : Int32) (mo : S2) (lo : SL) (K : Int32 → S2 → SL → Prop) : Prop := w_X4_isFar p1 (fun r1 => br (r1 = 0) (K (-1) mo lo) (w_X4_in (p2.toInt64) (0 : Int64) (4 : Int64) (fun r4 => br (r4 = 0) (K (-1) mo lo) (nm ((-4) : Int32) (fun x7 => w_X4_starts mo lo (fun mo8 lo9 => nm ((va_up mo8 0 (upd (mo8 0) 18 0)) : S2) (fun mo11 => lfp4 (fun G36 (i12 : Int32) (i13 : Int32) (mo14 : S2) (lo15 : SL) => br (p1 < i13) (br (p2 = 0) (w_X4_allOf (1 : Int32) mo14 lo15 (fun r20 mo18 lo19 => K r20 mo18 lo19)) (br (p2 = 1) (w_X4_ruined mo14 lo15 (fun r25 mo23 lo24 => K r25 mo23 lo24)) (br (p2 = 2) (K (mo14 0 18) mo14 lo15) (br (p2 = 3) (K i12 mo14 lo15) (K (mo14 2 (22 : Int32).toNatClampNeg) mo14 lo15))))) (w_X4_quarterGoes mo14 lo15 (fun mo33 lo34 => jn (fun (k36 : Int32) (mo37 : S2) (lo38 : SL) => nm (i13 + 1 : Int32) (fun x39 => G36 k36 x39 mo37 lo38)) (fun J65 => jn (fun (mo40 : S2) (lo41 : SL) => J65 i12 mo40 lo41) (fun J64 => br (i12 = (-4)) (w_X4_ruined mo33 lo34 (fun r45 mo43 lo44 => br (r45 = 0) (J64 mo43 lo44) (J65 i13 mo43 lo44))) (J64 mo33 lo34)))))) x7 1 mo11 lo9)))))))
abbrev rm_X4_runs : Room := { frames := 4, cells := 0, slots := 0, locals := 88 }
set_option maxHeartbeats 4000000 in
set_option maxRecDepth 100000 in
theorem c_X4_runs (l : Launch) (D : va_G) (kc : Nat → ClassId) (a : Nat → Nat) (p1 : Int32) (p2 : Int32) (mo : S2) (lo : SL) (sz : Nat) (K : Int32 → S2 → SL → Prop) (h : w_X4_runs p1 p2 mo lo K) : MetI l yX4_runs wsX4_runs rm_X4_runs D kc (fun u : S2 × SL => cM kc a u.1 u.2) (mo, lo) [.ref (a 0), .int p1, .int p2] sz (fun r u => K r u.1 u.2) := by
  refine q_ei (code := cX4_runs) (maxL := 5) (by decide) rfl (Nat.le_of_ble_eq_true rfl) ?_
  intro p e s m args below meth c Q A hx hb hml hts hown hK hA hret ls hl hP hD hS
  have hown : s.vm.findClass RX4 = some m.cls := hown
  have hl : lv_has ls 5 [(0, .ref (a 0)), (1, .int p1), (2, .int p2)] := hl
  have hP : va_P D vwCl (cM kc a mo lo) s.heap := hP
  have hD : va_D A (cM kc a mo lo) := hD
  have hS : va_S A s.heap s.heap [] := hS
  obtain ⟨H, eH⟩ : ∃ z, z = s.heap := ⟨_, rfl⟩
  obtain ⟨locs, eL⟩ : ∃ z : List Loc, z = [] := ⟨_, rfl⟩
  have hP := q_heap hP eH
  have hS := q_heapS hS eH eL
  refine q_start eH eL ?_
  clear eH eL
  have hi4 : ∀ w ∈ u_ws RX4 TX4 29, w ∈ wsX4_runs := by decide +kernel
  unfold w_X4_runs at h
  refine lv_iload_n hx hb dX4_runs_0 rfl (lv_at hl 1 rfl) ?_
  refine q_cSi (As := [.int p1]) (rest := []) ⟨hx, hb, hml, hown, hts⟩ hK (c_X4_isFar l D kc p1 H.size _ h) (va_cwS 1 hts gX4_runs_X4_isFar rfl rfl rfl (by decide +kernel) ⟨Nat.le_of_ble_eq_true rfl, Nat.le_of_ble_eq_true rfl⟩) (cut_nil _) hP hD hS hA rfl hl.1 rfl (Nat.le_of_ble_eq_true rfl) dX4_runs_1 ⟨Nat.zero_le _, Nat.zero_le _⟩ (fun r1 _ H locs h hP hD hS => ?_)
  have hP : va_P D vwCl (cM kc a mo lo) H := hP
  have hD : va_D A (cM kc a mo lo) := hD
  refine lv_if_eq (tgt := 19) hx hb dX4_runs_4 (by decide) (fun c3 => ?_) (fun c3 => ?_)
  · have h := br1 h c3
    refine lv_iconst (v := -1) hx hb dX4_runs_19 (by decide) ?_
    exact hret (-1) (mo, lo) H locs ls _ h hP hD hS dX4_runs_20
  · have h := br2 h c3
    refine lv_iload_n hx hb dX4_runs_7 rfl (lv_at hl 2 rfl) ?_
    refine lv_i2l hx hb dX4_runs_8 rfl ?_
    refine lv_lconst (v := 0) hx hb dX4_runs_9 (by decide) ?_
    refine lv_ldc2 (v := 4) hx hb hown (hts (.constantLong RX4 199 (4)) (by decide +kernel)) dX4_runs_10 ?_
    refine q_cSi (As := [.long (p2.toInt64), .long 0, .long 4]) (rest := []) ⟨hx, hb, hml, hown, hts⟩ hK (c_X4_in l D kc (p2.toInt64) (0 : Int64) (4 : Int64) H.size _ h) (va_cwS 3 hts gX4_runs_X4_in rfl rfl rfl (by decide +kernel) ⟨Nat.le_of_ble_eq_true rfl, Nat.le_of_ble_eq_true rfl⟩) (cut_nil _) hP hD hS hA rfl hl.1 rfl (Nat.le_of_ble_eq_true rfl) dX4_runs_13 ⟨Nat.zero_le _, Nat.zero_le _⟩ (fun r4 _ H locs h hP hD hS => ?_)
    have hP : va_P D vwCl (cM kc a mo lo) H := hP
    have hD : va_D A (cM kc a mo lo) := hD
    refine lv_if_ne (tgt := 21) hx hb dX4_runs_16 (by decide) (fun c6 => ?_) (fun c6 => ?_)
    · have h := br2 h c6
      refine lv_bipush (v := -4) hx hb dX4_runs_21 (by decide) ?_
      refine lv_topi (fun x7 ex7 => ?_)
      have h := nm_out h x7 ex7
      refine lv_istore_n (lv' := [(3, .int x7), (0, .ref (a 0)), (1, .int p1), (2, .int p2)]) hx hb dX4_runs_23 rfl hl (by decide) rfl (fun ls hl => ?_)
      refine lv_aload_n hx hb dX4_runs_24 rfl (lv_at hl 1 rfl) ?_
      refine q_cVv (As := []) (rest := []) ⟨hx, hb, hml, hown, hts⟩ hK (c_X4_starts l D kc a mo lo H.size _ h) (cwV 0 hts gX4_runs_X4_starts rfl rfl rfl (by decide +kernel) ⟨Nat.le_of_ble_eq_true rfl, Nat.le_of_ble_eq_true rfl⟩) (cut_same (fun u : S2 × SL => cM kc a u.1 u.2) (mo, lo)) hP hD hS hA 4 0 rfl rfl rfl hl.1 rfl (Nat.le_of_ble_eq_true rfl) dX4_runs_25 ⟨Nat.zero_le _, Nat.zero_le _⟩ (fun u10 H locs h hP hD hS => ?_)
      obtain ⟨mo8, lo9⟩ := u10
      have hP : va_P D vwCl (cM kc a mo8 lo9) H := hP
      have hD : va_D A (cM kc a mo8 lo9) := hD
      refine lv_aload_n hx hb dX4_runs_28 rfl (lv_at hl 1 rfl) ?_
      refine lv_iconst (v := 0) hx hb dX4_runs_29 (by decide) ?_
      refine va_put (D := D) (ci := 4) (v := .int 0) (ty := .int) (C := RX4) (T := TX4) (N := 29) hx hb hts hi4 tyX4 tyX4_ok nmX4 hown hK.1 hP hD hS 0 rfl rfl 18 (by decide) (hts (.fieldLink RX4 180 "LastPennyModel" "handed" "I") (by decide +kernel)) (fun _ h9 => h9) rfl (by decide +kernel) rfl rfl (Nat.le_of_ble_eq_true rfl) dX4_runs_30 (fun H locs hP hD hS => ?_)
      obtain ⟨mo11, emo11⟩ : ∃ z, z = (va_up mo8 0 (upd (mo8 0) 18 0)) := ⟨_, rfl⟩
      have h := nm_out h mo11 emo11
      have hP : va_P D vwCl (cM kc a mo11 lo9) H := q_to hP (by subst emo11; rfl)
      have hD : va_D A (cM kc a mo11 lo9) := q_toD hD (by subst emo11; rfl)
      refine lv_iconst (v := 1) hx hb dX4_runs_33 (by decide) ?_
      refine lv_istore (lv' := [(4, .int 1), (3, .int x7), (0, .ref (a 0)), (1, .int p1), (2, .int p2)]) hx hb dX4_runs_34 hl (by decide) rfl (fun ls hl => ?_)
      refine h (fun (i12 : Int32) (i13 : Int32) (mo14 : S2) (lo15 : SL) => ∀ (ls : Array Slot) (H : Heap) (locs : List Loc), lv_has ls 5 [(0, .ref (a 0)), (1, .int p1), (2, .int p2), (3, .int i12), (4, .int i13)] → va_P D vwCl (cM kc a mo14 lo15) H → va_D A (cM kc a mo14 lo15) → va_S A s.heap H locs → W p l e rm_X4_runs s m args below meth c H locs 0 0 Q (F0 m 36 ls [])) ?_ ls H locs (lv_sub hl [2, 3, 4, 1, 0] rfl) hP hD hS
      intro i12 i13 mo14 lo15 h ls H locs hl hP hD hS
      refine lv_iload hx hb dX4_runs_36 (lv_at hl 4 rfl) ?_
      refine lv_iload_n hx hb dX4_runs_38 rfl (lv_at hl 1 rfl) ?_
      refine lv_icmp_gt (tgt := 72) hx hb dX4_runs_39 (by decide) (fun c16 => ?_) (fun c16 => ?_)
      · have h := br1 h c16
        refine lv_iload_n hx hb dX4_runs_72 rfl (lv_at hl 2 rfl) ?_
        by_cases c17 : p2 = 0
        · have h := br1 h c17
          refine lv_tableIn (tgt := 104) hx hb dX4_runs_73 (by rw [c17]; all_goals decide) (by rw [c17]; all_goals decide) (by rw [c17]; all_goals rfl) (by decide) ?_
          refine lv_aload_n hx hb dX4_runs_104 rfl (lv_at hl 0 rfl) ?_
          refine lv_iconst (v := 1) hx hb dX4_runs_105 (by decide) ?_
          refine q_cVi (As := [.int 1]) (rest := []) ⟨hx, hb, hml, hown, hts⟩ hK (c_X4_allOf l D kc a (1 : Int32) mo14 lo15 H.size _ h) (cwV 1 hts gX4_runs_X4_allOf rfl rfl rfl (by decide +kernel) ⟨Nat.le_of_ble_eq_true rfl, Nat.le_of_ble_eq_true rfl⟩) (cut_same (fun u : S2 × SL => cM kc a u.1 u.2) (mo14, lo15)) hP hD hS hA 4 0 rfl rfl rfl hl.1 rfl (Nat.le_of_ble_eq_true rfl) dX4_runs_106 ⟨Nat.zero_le _, Nat.zero_le _⟩ (fun r20 u21 H locs h hP hD hS => ?_)
          obtain ⟨mo18, lo19⟩ := u21
          have hP : va_P D vwCl (cM kc a mo18 lo19) H := hP
          have hD : va_D A (cM kc a mo18 lo19) := hD
          exact hret r20 (mo18, lo19) H locs ls _ h hP hD hS dX4_runs_109
        have h := br2 h c17
        by_cases c22 : p2 = 1
        · have h := br1 h c22
          refine lv_tableIn (tgt := 110) hx hb dX4_runs_73 (by rw [c22]; all_goals decide) (by rw [c22]; all_goals decide) (by rw [c22]; all_goals rfl) (by decide) ?_
          refine lv_aload_n hx hb dX4_runs_110 rfl (lv_at hl 0 rfl) ?_
          refine q_cVi (As := []) (rest := []) ⟨hx, hb, hml, hown, hts⟩ hK (c_X4_ruined l D kc a mo14 lo15 H.size _ h) (cwV 0 hts gX4_runs_X4_ruined rfl rfl rfl (by decide +kernel) ⟨Nat.le_of_ble_eq_true rfl, Nat.le_of_ble_eq_true rfl⟩) (cut_same (fun u : S2 × SL => cM kc a u.1 u.2) (mo14, lo15)) hP hD hS hA 4 0 rfl rfl rfl hl.1 rfl (Nat.le_of_ble_eq_true rfl) dX4_runs_111 ⟨Nat.zero_le _, Nat.zero_le _⟩ (fun r25 u26 H locs h hP hD hS => ?_)
          obtain ⟨mo23, lo24⟩ := u26
          have hP : va_P D vwCl (cM kc a mo23 lo24) H := hP
          have hD : va_D A (cM kc a mo23 lo24) := hD
          exact hret r25 (mo23, lo24) H locs ls _ h hP hD hS dX4_runs_114
        have h := br2 h c22
        by_cases c27 : p2 = 2
        · have h := br1 h c27
          refine lv_tableIn (tgt := 115) hx hb dX4_runs_73 (by rw [c27]; all_goals decide) (by rw [c27]; all_goals decide) (by rw [c27]; all_goals rfl) (by decide) ?_
          refine lv_aload_n hx hb dX4_runs_115 rfl (lv_at hl 0 rfl) ?_
          refine va_get (D := D) (ci := 4) (v := .int (mo14 0 18)) (C := RX4) (T := TX4) (N := 29) hx hb hts hi4 hown hK.1 hP 0 rfl rfl 18 (by decide) (hts (.fieldLink RX4 180 "LastPennyModel" "handed" "I") (by decide +kernel)) (fun _ h9 => h9) rfl dX4_runs_116 ?_
          exact hret (mo14 0 18) (mo14, lo15) H locs ls _ h hP hD hS dX4_runs_119
        have h := br2 h c27
        by_cases c28 : p2 = 3
        · have h := br1 h c28
          refine lv_tableIn (tgt := 120) hx hb dX4_runs_73 (by rw [c28]; all_goals decide) (by rw [c28]; all_goals decide) (by rw [c28]; all_goals rfl) (by decide) ?_
          refine lv_iload_n hx hb dX4_runs_120 rfl (lv_at hl 3 rfl) ?_
          exact hret i12 (mo14, lo15) H locs ls _ h hP hD hS dX4_runs_121
        have h := br2 h c28
        have ht29 := lv_neT (a := 0) c17 (by decide)
        have ht30 := lv_neT (a := 1) c22 (by decide)
        have ht31 := lv_neT (a := 2) c27 (by decide)
        have ht32 := lv_neT (a := 3) c28 (by decide)
        refine lv_tableOut (tgt := 122) hx hb dX4_runs_73 (by omega) (by decide) ?_
        refine lv_aload_n hx hb dX4_runs_122 rfl (lv_at hl 0 rfl) ?_
        refine va_get (D := D) (ci := 4) (v := .ref (a 2)) (C := RX4) (T := TX4) (N := 29) hx hb hts hi4 hown hK.1 hP 0 rfl rfl 1 (by decide) (hts (.fieldLink RX4 13 "LastPennyModel" "now" "[I") (by decide +kernel)) (fun _ h9 => h9) rfl dX4_runs_123 ?_
        refine lv_bipush (v := 22) hx hb dX4_runs_126 (by decide) ?_
        refine va_iald hx hb hK.1 hP 2 0 rfl rfl (by unfold vp_in; decide) dX4_runs_128 ?_
        exact hret (mo14 2 (22 : Int32).toNatClampNeg) (mo14, lo15) H locs ls _ h hP hD hS dX4_runs_129
      · have h := br2 h c16
        refine lv_aload_n hx hb dX4_runs_42 rfl (lv_at hl 0 rfl) ?_
        refine q_cVv (As := []) (rest := []) ⟨hx, hb, hml, hown, hts⟩ hK (c_X4_quarterGoes l D kc a mo14 lo15 H.size _ h) (cwV 0 hts gX4_runs_X4_quarterGoes rfl rfl rfl (by decide +kernel) ⟨Nat.le_of_ble_eq_true rfl, Nat.le_of_ble_eq_true rfl⟩) (cut_same (fun u : S2 × SL => cM kc a u.1 u.2) (mo14, lo15)) hP hD hS hA 4 0 rfl rfl rfl hl.1 rfl (Nat.le_of_ble_eq_true rfl) dX4_runs_43 ⟨Nat.zero_le _, Nat.zero_le _⟩ (fun u35 H locs h hP hD hS => ?_)
        obtain ⟨mo33, lo34⟩ := u35
        have hP : va_P D vwCl (cM kc a mo33 lo34) H := hP
        have hD : va_D A (cM kc a mo33 lo34) := hD
        refine lv_iload_n hx hb dX4_runs_46 rfl (lv_at hl 3 rfl) ?_
        refine lv_bipush (v := -4) hx hb dX4_runs_47 (by decide) ?_
        refine jn_elim h (fun J65 eJ65 h => ?_)
        have hJ_65 : ∀ (k36 : Int32) (mo37 : S2) (lo38 : SL) (ls : Array Slot) (H : Heap) (locs : List Loc), J65 k36 mo37 lo38 → lv_has ls 5 [(0, .ref (a 0)), (1, .int p1), (2, .int p2), (4, .int i13)] → va_P D vwCl (cM kc a mo37 lo38) H → va_D A (cM kc a mo37 lo38) → va_S A s.heap H locs → W p l e rm_X4_runs s m args below meth c H locs 0 0 Q (F0 m 65 ls [.int k36]) := by
          intro k36 mo37 lo38 ls H locs h hl hP hD hS
          subst eJ65
          refine lv_istore_n (lv' := [(3, .int k36), (0, .ref (a 0)), (1, .int p1), (2, .int p2), (4, .int i13)]) hx hb dX4_runs_65 rfl hl (by decide) rfl (fun ls hl => ?_)
          obtain ⟨x39, ex39⟩ : ∃ z : Int32, z = i13 + 1 := ⟨_, rfl⟩
          have h := nm_out h x39 ex39
          refine lv_iinc (v := x39) (lv' := [(4, .int x39), (3, .int k36), (0, .ref (a 0)), (1, .int p1), (2, .int p2)]) hx hb dX4_runs_66 hl (k := 4) rfl (by rw [ex39]; rfl) (by decide) rfl (fun ls hl => ?_)
          refine lv_goto (tgt := 36) hx hb dX4_runs_69 (by decide) ?_
          exact h ls H locs (lv_sub hl [2, 3, 4, 1, 0] rfl) hP hD hS
        refine jn_elim h (fun J64 eJ64 h => ?_)
        have hJ_64 : ∀ (mo40 : S2) (lo41 : SL) (ls : Array Slot) (H : Heap) (locs : List Loc), J64 mo40 lo41 → lv_has ls 5 [(0, .ref (a 0)), (1, .int p1), (2, .int p2), (3, .int i12), (4, .int i13)] → va_P D vwCl (cM kc a mo40 lo41) H → va_D A (cM kc a mo40 lo41) → va_S A s.heap H locs → W p l e rm_X4_runs s m args below meth c H locs 0 0 Q (F0 m 64 ls []) := by
          intro mo40 lo41 ls H locs h hl hP hD hS
          subst eJ64
          refine lv_iload_n hx hb dX4_runs_64 rfl (lv_at hl 3 rfl) ?_
          exact hJ_65 i12 mo40 lo41 ls H locs h (lv_sub hl [0, 1, 2, 4] rfl) hP hD hS
        refine lv_icmp_ne (tgt := 64) hx hb dX4_runs_49 (by decide) (fun c42 => ?_) (fun c42 => ?_)
        · have h := br2 h c42
          exact hJ_64 mo33 lo34 ls H locs h (lv_sub hl [0, 1, 2, 3, 4] rfl) hP hD hS
        · have h := br1 h c42
          refine lv_aload_n hx hb dX4_runs_52 rfl (lv_at hl 0 rfl) ?_
          refine q_cVi (As := []) (rest := []) ⟨hx, hb, hml, hown, hts⟩ hK (c_X4_ruined l D kc a mo33 lo34 H.size _ h) (cwV 0 hts gX4_runs_X4_ruined rfl rfl rfl (by decide +kernel) ⟨Nat.le_of_ble_eq_true rfl, Nat.le_of_ble_eq_true rfl⟩) (cut_same (fun u : S2 × SL => cM kc a u.1 u.2) (mo33, lo34)) hP hD hS hA 4 0 rfl rfl rfl hl.1 rfl (Nat.le_of_ble_eq_true rfl) dX4_runs_53 ⟨Nat.zero_le _, Nat.zero_le _⟩ (fun r45 u46 H locs h hP hD hS => ?_)
          obtain ⟨mo43, lo44⟩ := u46
          have hP : va_P D vwCl (cM kc a mo43 lo44) H := hP
          have hD : va_D A (cM kc a mo43 lo44) := hD
          refine lv_if_eq (tgt := 64) hx hb dX4_runs_56 (by decide) (fun c47 => ?_) (fun c47 => ?_)
          · have h := br1 h c47
            exact hJ_64 mo43 lo44 ls H locs h (lv_sub hl [0, 1, 2, 3, 4] rfl) hP hD hS
          · have h := br2 h c47
            refine lv_iload hx hb dX4_runs_59 (lv_at hl 4 rfl) ?_
            refine lv_goto (tgt := 65) hx hb dX4_runs_61 (by decide) ?_
            exact hJ_65 i13 mo43 lo44 ls H locs h (lv_sub hl [0, 1, 2, 4] rfl) hP hD hS
    · have h := br1 h c6
      refine lv_iconst (v := -1) hx hb dX4_runs_19 (by decide) ?_
      exact hret (-1) (mo, lo) H locs ls _ h hP hD hS dX4_runs_20

