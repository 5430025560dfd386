def w_X3_feed (p1 : Int32) (o : S3) (K : Int32 → S3 → Prop) : Prop := w_X3_within p1 (0 : Int32) (127 : Int32) (fun r1 => br (r1 = 0) (K (-1) o) (w_X1_addByte p1 (o 6) (fun r5 t4 => nm ((va_up o 6 t4) : S3) (fun o7 => br (r5 = 0) (K (-3) o7) (K (o7 6 0 1) o7)))))
abbrev rm_X3_feed : Room := { frames := 1, cells := 0, slots := 0, locals := 22 }
set_option maxHeartbeats 4000000 in
set_option maxRecDepth 100000 in
theorem c_X3_feed (l : Launch) (D : va_G) (kc : Nat → ClassId) (a : Nat → Nat → Nat) (p1 : Int32) (o : S3) (sz : Nat) (K : Int32 → S3 → Prop) (h : w_X3_feed p1 o K) : MetI l yX3_feed wsX3_feed rm_X3_feed D kc (fun u : S3 => cLP kc a u) o [.ref (a 0 0), .int p1] sz (fun r u => K r u) := by
  refine q_ei (code := cX3_feed) (maxL := 2) (by decide) rfl (Nat.le_of_ble_eq_true rfl) ?_
  intro p e s m args below meth c Q A hx hb hml hts hown hK hA hret ls hl hP hD hS
  have hown : s.vm.findClass RX3 = some m.cls := hown
  have hl : lv_has ls 2 [(0, .ref (a 0 0)), (1, .int p1)] := hl
  have hP : va_P D vwCl (cLP kc a o) s.heap := hP
  have hD : va_D A (cLP kc a o) := hD
  have hS : va_S A s.heap s.heap [] := hS
  obtain ⟨H, eH⟩ : ∃ z, z = s.heap := ⟨_, rfl⟩
  obtain ⟨locs, eL⟩ : ∃ z : List Loc, z = [] := ⟨_, rfl⟩
  have hP := q_heap hP eH
  have hS := q_heapS hS eH eL
  refine q_start eH eL ?_
  clear eH eL
  have hi1 : ∀ w ∈ u_ws RX1 TX1 9, w ∈ wsX3_feed := by decide +kernel
  have hi3 : ∀ w ∈ u_ws RX3 TX3 10, w ∈ wsX3_feed := by decide +kernel
  unfold w_X3_feed at h
  refine lv_iload_n hx hb dX3_feed_0 rfl (lv_at hl 1 rfl) ?_
  refine lv_iconst (v := 0) hx hb dX3_feed_1 (by decide) ?_
  refine lv_bipush (v := 127) hx hb dX3_feed_2 (by decide) ?_
  refine q_cSi (As := [.int p1, .int 0, .int 127]) (rest := []) ⟨hx, hb, hml, hown, hts⟩ hK (c_X3_within l D kc p1 (0 : Int32) (127 : Int32) H.size _ h) (va_cwS 3 hts gX3_feed_X3_within rfl rfl rfl (by decide +kernel) ⟨Nat.le_of_ble_eq_true rfl, Nat.le_of_ble_eq_true rfl⟩) (cut_nil _) hP hD hS hA rfl hl.1 rfl (Nat.le_of_ble_eq_true rfl) dX3_feed_4 ⟨Nat.zero_le _, Nat.zero_le _⟩ (fun r1 _ H locs h hP hD hS => ?_)
  have hP : va_P D vwCl (cLP kc a o) H := hP
  have hD : va_D A (cLP kc a o) := hD
  refine lv_if_ne (tgt := 12) hx hb dX3_feed_7 (by decide) (fun c3 => ?_) (fun c3 => ?_)
  · have h := br2 h c3
    refine lv_aload_n hx hb dX3_feed_12 rfl (lv_at hl 0 rfl) ?_
    refine va_get (D := D) (ci := 3) (v := .ref (a 6 0)) (C := RX3) (T := TX3) (N := 10) hx hb hts hi3 hown hK.1 hP 0 rfl rfl 0 (by decide) (hts (.fieldLink RX3 10 "LastPenny" "tape" "LLastPenny$Tape;") (by decide +kernel)) (fun _ h9 => h9) rfl dX3_feed_13 ?_
    refine lv_iload_n hx hb dX3_feed_16 rfl (lv_at hl 1 rfl) ?_
    refine q_cVi (As := [.int p1]) (rest := []) ⟨hx, hb, hml, hown, hts⟩ hK (c_X1_addByte l D kc (a 6) p1 (o 6) H.size _ h) (cwV 1 hts gX3_feed_X1_addByte rfl rfl rfl (by decide +kernel) ⟨Nat.le_of_ble_eq_true rfl, Nat.le_of_ble_eq_true rfl⟩) (cut_LP_6 D kc a o) hP hD hS hA 1 0 rfl rfl rfl hl.1 rfl (Nat.le_of_ble_eq_true rfl) dX3_feed_17 ⟨Nat.zero_le _, Nat.zero_le _⟩ (fun r5 u6 H locs h hP hD hS => ?_)
    obtain ⟨t4, rfl⟩ : ∃ z, z = u6 := ⟨_, rfl⟩
    obtain ⟨o7, eo7⟩ : ∃ z, z = (va_up o 6 t4) := ⟨_, rfl⟩
    have h := nm_out h o7 eo7
    have hP : va_P D vwCl (cLP kc a o7) H := q_to hP (by subst eo7; rfl)
    have hD : va_D A (cLP kc a o7) := q_toD hD (by subst eo7; rfl)
    refine lv_if_eq (tgt := 33) hx hb dX3_feed_20 (by decide) (fun c8 => ?_) (fun c8 => ?_)
    · have h := br1 h c8
      refine lv_bipush (v := -3) hx hb dX3_feed_33 (by decide) ?_
      exact hret (-3) o7 H locs ls _ h hP hD hS dX3_feed_35
    · have h := br2 h c8
      refine lv_aload_n hx hb dX3_feed_23 rfl (lv_at hl 0 rfl) ?_
      refine va_get (D := D) (ci := 3) (v := .ref (a 6 0)) (C := RX3) (T := TX3) (N := 10) hx hb hts hi3 hown hK.1 hP 0 rfl rfl 0 (by decide) (hts (.fieldLink RX3 10 "LastPenny" "tape" "LLastPenny$Tape;") (by decide +kernel)) (fun _ h9 => h9) rfl dX3_feed_24 ?_
      refine va_get (D := D) (ci := 1) (v := .int (o7 6 0 1)) (C := RX1) (T := TX1) (N := 9) hx hb hts hi1 hown hK.1 hP 46 rfl rfl 1 (by decide) (hts (.fieldLink RX3 59 "LastPenny$Tape" "length" "I") (by decide +kernel)) (fun _ h9 => h9) rfl dX3_feed_27 ?_
      refine lv_goto (tgt := 35) hx hb dX3_feed_30 (by decide) ?_
      exact hret (o7 6 0 1) o7 H locs ls _ h hP hD hS dX3_feed_35
  · have h := br1 h c3
    refine lv_iconst (v := -1) hx hb dX3_feed_10 (by decide) ?_
    exact hret (-1) o H locs ls _ h hP hD hS dX3_feed_11

def w_X3_end (p1 : Int32) (o : S3) (K : Int32 → S3 → Prop) : Prop := w_X3_within p1 (0 : Int32) (o 6 0 1) (fun r1 => br (r1 = 0) (K (-1) o) (nm ((o 6 0 1) : Int32) (fun x4 => nm ((va_up o 6 (va_up (o 6) 0 (upd ((o 6) 0) 1 p1))) : S3) (fun o5 => K x4 o5))))
abbrev rm_X3_end : Room := { frames := 1, cells := 0, slots := 0, locals := 22 }
set_option maxHeartbeats 4000000 in
set_option maxRecDepth 100000 in
theorem c_X3_end (l : Launch) (D : va_G) (kc : Nat → ClassId) (a : Nat → Nat → Nat) (p1 : Int32) (o : S3) (sz : Nat) (K : Int32 → S3 → Prop) (h : w_X3_end p1 o K) : MetI l yX3_end wsX3_end rm_X3_end D kc (fun u : S3 => cLP kc a u) o [.ref (a 0 0), .int p1] sz (fun r u => K r u) := by
  refine q_ei (code := cX3_end) (maxL := 3) (by decide) rfl (Nat.le_of_ble_eq_true rfl) ?_
  intro p e s m args below meth c Q A hx hb hml hts hown hK hA hret ls hl hP hD hS
  have hown : s.vm.findClass RX3 = some m.cls := hown
  have hl : lv_has ls 3 [(0, .ref (a 0 0)), (1, .int p1)] := hl
  have hP : va_P D vwCl (cLP kc a o) s.heap := hP
  have hD : va_D A (cLP kc a o) := hD
  have hS : va_S A s.heap s.heap [] := hS
  obtain ⟨H, eH⟩ : ∃ z, z = s.heap := ⟨_, rfl⟩
  obtain ⟨locs, eL⟩ : ∃ z : List Loc, z = [] := ⟨_, rfl⟩
  have hP := q_heap hP eH
  have hS := q_heapS hS eH eL
  refine q_start eH eL ?_
  clear eH eL
  have hi1 : ∀ w ∈ u_ws RX1 TX1 9, w ∈ wsX3_end := by decide +kernel
  have hi3 : ∀ w ∈ u_ws RX3 TX3 10, w ∈ wsX3_end := by decide +kernel
  unfold w_X3_end at h
  refine lv_iload_n hx hb dX3_end_0 rfl (lv_at hl 1 rfl) ?_
  refine lv_iconst (v := 0) hx hb dX3_end_1 (by decide) ?_
  refine lv_aload_n hx hb dX3_end_2 rfl (lv_at hl 0 rfl) ?_
  refine va_get (D := D) (ci := 3) (v := .ref (a 6 0)) (C := RX3) (T := TX3) (N := 10) hx hb hts hi3 hown hK.1 hP 0 rfl rfl 0 (by decide) (hts (.fieldLink RX3 10 "LastPenny" "tape" "LLastPenny$Tape;") (by decide +kernel)) (fun _ h9 => h9) rfl dX3_end_3 ?_
  refine va_get (D := D) (ci := 1) (v := .int (o 6 0 1)) (C := RX1) (T := TX1) (N := 9) hx hb hts hi1 hown hK.1 hP 46 rfl rfl 1 (by decide) (hts (.fieldLink RX3 59 "LastPenny$Tape" "length" "I") (by decide +kernel)) (fun _ h9 => h9) rfl dX3_end_6 ?_
  refine q_cSi (As := [.int p1, .int 0, .int (o 6 0 1)]) (rest := []) ⟨hx, hb, hml, hown, hts⟩ hK (c_X3_within l D kc p1 (0 : Int32) (o 6 0 1) H.size _ h) (va_cwS 3 hts gX3_end_X3_within rfl rfl rfl (by decide +kernel) ⟨Nat.le_of_ble_eq_true rfl, Nat.le_of_ble_eq_true rfl⟩) (cut_nil _) hP hD hS hA rfl hl.1 rfl (Nat.le_of_ble_eq_true rfl) dX3_end_9 ⟨Nat.zero_le _, Nat.zero_le _⟩ (fun r1 _ H locs h hP hD hS => ?_)
  have hP : va_P D vwCl (cLP kc a o) H := hP
  have hD : va_D A (cLP kc a o) := hD
  refine lv_if_ne (tgt := 17) hx hb dX3_end_12 (by decide) (fun c3 => ?_) (fun c3 => ?_)
  · have h := br2 h c3
    refine lv_aload_n hx hb dX3_end_17 rfl (lv_at hl 0 rfl) ?_
    refine va_get (D := D) (ci := 3) (v := .ref (a 6 0)) (C := RX3) (T := TX3) (N := 10) hx hb hts hi3 hown hK.1 hP 0 rfl rfl 0 (by decide) (hts (.fieldLink RX3 10 "LastPenny" "tape" "LLastPenny$Tape;") (by decide +kernel)) (fun _ h9 => h9) rfl dX3_end_18 ?_
    refine va_get (D := D) (ci := 1) (v := .int (o 6 0 1)) (C := RX1) (T := TX1) (N := 9) hx hb hts hi1 hown hK.1 hP 46 rfl rfl 1 (by decide) (hts (.fieldLink RX3 59 "LastPenny$Tape" "length" "I") (by decide +kernel)) (fun _ h9 => h9) rfl dX3_end_21 ?_
    refine lv_topi (fun x4 ex4 => ?_)
    have h := nm_out h x4 ex4
    refine lv_istore_n (lv' := [(2, .int x4), (0, .ref (a 0 0)), (1, .int p1)]) hx hb dX3_end_24 rfl hl (by decide) rfl (fun ls hl => ?_)
    refine lv_aload_n hx hb dX3_end_25 rfl (lv_at hl 1 rfl) ?_
    refine va_get (D := D) (ci := 3) (v := .ref (a 6 0)) (C := RX3) (T := TX3) (N := 10) hx hb hts hi3 hown hK.1 hP 0 rfl rfl 0 (by decide) (hts (.fieldLink RX3 10 "LastPenny" "tape" "LLastPenny$Tape;") (by decide +kernel)) (fun _ h9 => h9) rfl dX3_end_26 ?_
    refine lv_iload_n hx hb dX3_end_29 rfl (lv_at hl 2 rfl) ?_
    refine va_put (D := D) (ci := 1) (v := .int p1) (ty := .int) (C := RX1) (T := TX1) (N := 9) hx hb hts hi1 tyX1 tyX1_ok nmX1 hown hK.1 hP hD hS 46 rfl rfl 1 (by decide) (hts (.fieldLink RX3 59 "LastPenny$Tape" "length" "I") (by decide +kernel)) (fun _ h9 => h9) rfl (by decide +kernel) rfl rfl (Nat.le_of_ble_eq_true rfl) dX3_end_30 (fun H locs hP hD hS => ?_)
    obtain ⟨o5, eo5⟩ : ∃ z, z = (va_up o 6 (va_up (o 6) 0 (upd ((o 6) 0) 1 p1))) := ⟨_, rfl⟩
    have h := nm_out h o5 eo5
    have hP : va_P D vwCl (cLP kc a o5) H := q_to hP (by subst eo5; rfl)
    have hD : va_D A (cLP kc a o5) := q_toD hD (by subst eo5; rfl)
    refine lv_iload_n hx hb dX3_end_33 rfl (lv_at hl 0 rfl) ?_
    exact hret x4 o5 H locs ls _ h hP hD hS dX3_end_34
  · have h := br1 h c3
    refine lv_iconst (v := -1) hx hb dX3_end_15 (by decide) ?_
    exact hret (-1) o H locs ls _ h hP hD hS dX3_end_16

def w_X3_fault (o : S3) (K : Int32 → S3 → Prop) : Prop := K (o 6 0 2) o
abbrev rm_X3_fault : Room := { frames := 0, cells := 0, slots := 0, locals := 0 }
set_option maxHeartbeats 4000000 in
set_option maxRecDepth 100000 in
theorem c_X3_fault (l : Launch) (D : va_G) (kc : Nat → ClassId) (a : Nat → Nat → Nat) (o : S3) (sz : Nat) (K : Int32 → S3 → Prop) (h : w_X3_fault o K) : MetI l yX3_fault wsX3_fault rm_X3_fault D kc (fun u : S3 => cLP kc a u) o [.ref (a 0 0)] sz (fun r u => K r u) := by
  refine q_ei (code := cX3_fault) (maxL := 1) (by decide) rfl (Nat.le_of_ble_eq_true rfl) ?_
  intro p e s m args below meth c Q A hx hb hml hts hown hK hA hret ls hl hP hD hS
  have hown : s.vm.findClass RX3 = some m.cls := hown
  have hl : lv_has ls 1 [(0, .ref (a 0 0))] := hl
  have hP : va_P D vwCl (cLP kc a o) s.heap := hP
  have hD : va_D A (cLP kc a o) := hD
  have hS : va_S A s.heap s.heap [] := hS
  obtain ⟨H, eH⟩ : ∃ z, z = s.heap := ⟨_, rfl⟩
  obtain ⟨locs, eL⟩ : ∃ z : List Loc, z = [] := ⟨_, rfl⟩
  have hP := q_heap hP eH
  have hS := q_heapS hS eH eL
  refine q_start eH eL ?_
  clear eH eL
  have hi1 : ∀ w ∈ u_ws RX1 TX1 9, w ∈ wsX3_fault := by decide +kernel
  have hi3 : ∀ w ∈ u_ws RX3 TX3 10, w ∈ wsX3_fault := by decide +kernel
  unfold w_X3_fault at h
  refine lv_aload_n hx hb dX3_fault_0 rfl (lv_at hl 0 rfl) ?_
  refine va_get (D := D) (ci := 3) (v := .ref (a 6 0)) (C := RX3) (T := TX3) (N := 10) hx hb hts hi3 hown hK.1 hP 0 rfl rfl 0 (by decide) (hts (.fieldLink RX3 10 "LastPenny" "tape" "LLastPenny$Tape;") (by decide +kernel)) (fun _ h9 => h9) rfl dX3_fault_1 ?_
  refine va_get (D := D) (ci := 1) (v := .int (o 6 0 2)) (C := RX1) (T := TX1) (N := 9) hx hb hts hi1 hown hK.1 hP 46 rfl rfl 2 (by decide) (hts (.fieldLink RX3 70 "LastPenny$Tape" "fault" "I") (by decide +kernel)) (fun _ h9 => h9) rfl dX3_fault_4 ?_
  exact hret (o 6 0 2) o H locs ls _ h hP hD hS dX3_fault_7

def w_X3_rule (p1 : Int32) (o : S3) (K : Int32 → S3 → Prop) : Prop := br (p1 = 0) (K (o 1 0 0) o) (br (p1 = 1) (K (o 1 0 1) o) (br (p1 = 2) (K (o 1 0 2) o) (br (p1 = 3) (w_X2_holderOrNone (o 1) (fun r6 w5 => nm ((va_up o 1 w5) : S3) (fun o8 => K r6 o8))) (br (p1 = 4) (w_X2_meansOfAll (o 1) (fun r11 w10 => nm ((va_up o 1 w10) : S3) (fun o13 => K r11 o13))) (br (p1 = 5) (w_X2_ruinedBits (o 1) (fun r16 w15 => nm ((va_up o 1 w15) : S3) (fun o18 => K r16 o18))) (br (p1 = 6) (K (o 1 0 4) o) (K (-1) o)))))))
abbrev rm_X3_rule : Room := { frames := 2, cells := 0, slots := 0, locals := 43 }
set_option maxHeartbeats 4000000 in
set_option maxRecDepth 100000 in
theorem c_X3_rule (l : Launch) (D : va_G) (kc : Nat → ClassId) (a : Nat → Nat → Nat) (p1 : Int32) (o : S3) (sz : Nat) (K : Int32 → S3 → Prop) (h : w_X3_rule p1 o K) : MetI l yX3_rule wsX3_rule rm_X3_rule D kc (fun u : S3 => cLP kc a u) o [.ref (a 0 0), .int p1] sz (fun r u => K r u) := by
  refine q_ei (code := cX3_rule) (maxL := 2) (by decide) rfl (Nat.le_of_ble_eq_true rfl) ?_
  intro p e s m args below meth c Q A hx hb hml hts hown hK hA hret ls hl hP hD hS
  have hown : s.vm.findClass RX3 = some m.cls := hown
  have hl : lv_has ls 2 [(0, .ref (a 0 0)), (1, .int p1)] := hl
  have hP : va_P D vwCl (cLP kc a o) s.heap := hP
  have hD : va_D A (cLP kc a o) := hD
  have hS : va_S A s.heap s.heap [] := hS
  obtain ⟨H, eH⟩ : ∃ z, z = s.heap := ⟨_, rfl⟩
  obtain ⟨locs, eL⟩ : ∃ z : List Loc, z = [] := ⟨_, rfl⟩
  have hP := q_heap hP eH
  have hS := q_heapS hS eH eL
  refine q_start eH eL ?_
  clear eH eL
  have hi2 : ∀ w ∈ u_ws RX2 TX2 13, w ∈ wsX3_rule := by decide +kernel
  have hi3 : ∀ w ∈ u_ws RX3 TX3 10, w ∈ wsX3_rule := by decide +kernel
  unfold w_X3_rule at h
  refine lv_iload_n hx hb dX3_rule_0 rfl (lv_at hl 1 rfl) ?_
  by_cases c1 : p1 = 0
  · have h := br1 h c1
    refine lv_tableIn (tgt := 44) hx hb dX3_rule_1 (by rw [c1]; all_goals decide) (by rw [c1]; all_goals decide) (by rw [c1]; all_goals rfl) (by decide) ?_
    refine lv_aload_n hx hb dX3_rule_44 rfl (lv_at hl 0 rfl) ?_
    refine va_get (D := D) (ci := 3) (v := .ref (a 1 0)) (C := RX3) (T := TX3) (N := 10) hx hb hts hi3 hown hK.1 hP 0 rfl rfl 1 (by decide) (hts (.fieldLink RX3 19 "LastPenny" "now" "LLastPenny$World;") (by decide +kernel)) (fun _ h9 => h9) rfl dX3_rule_45 ?_
    refine va_get (D := D) (ci := 2) (v := .int (o 1 0 0)) (C := RX2) (T := TX2) (N := 13) hx hb hts hi2 hown hK.1 hP 6 rfl rfl 0 (by decide) (hts (.fieldLink RX3 80 "LastPenny$World" "people" "I") (by decide +kernel)) (fun _ h9 => h9) rfl dX3_rule_48 ?_
    exact hret (o 1 0 0) o H locs ls _ h hP hD hS dX3_rule_51
  have h := br2 h c1
  by_cases c2 : p1 = 1
  · have h := br1 h c2
    refine lv_tableIn (tgt := 52) hx hb dX3_rule_1 (by rw [c2]; all_goals decide) (by rw [c2]; all_goals decide) (by rw [c2]; all_goals rfl) (by decide) ?_
    refine lv_aload_n hx hb dX3_rule_52 rfl (lv_at hl 0 rfl) ?_
    refine va_get (D := D) (ci := 3) (v := .ref (a 1 0)) (C := RX3) (T := TX3) (N := 10) hx hb hts hi3 hown hK.1 hP 0 rfl rfl 1 (by decide) (hts (.fieldLink RX3 19 "LastPenny" "now" "LLastPenny$World;") (by decide +kernel)) (fun _ h9 => h9) rfl dX3_rule_53 ?_
    refine va_get (D := D) (ci := 2) (v := .int (o 1 0 1)) (C := RX2) (T := TX2) (N := 13) hx hb hts hi2 hown hK.1 hP 6 rfl rfl 1 (by decide) (hts (.fieldLink RX3 83 "LastPenny$World" "quarter" "I") (by decide +kernel)) (fun _ h9 => h9) rfl dX3_rule_56 ?_
    exact hret (o 1 0 1) o H locs ls _ h hP hD hS dX3_rule_59
  have h := br2 h c2
  by_cases c3 : p1 = 2
  · have h := br1 h c3
    refine lv_tableIn (tgt := 60) hx hb dX3_rule_1 (by rw [c3]; all_goals decide) (by rw [c3]; all_goals decide) (by rw [c3]; all_goals rfl) (by decide) ?_
    refine lv_aload_n hx hb dX3_rule_60 rfl (lv_at hl 0 rfl) ?_
    refine va_get (D := D) (ci := 3) (v := .ref (a 1 0)) (C := RX3) (T := TX3) (N := 10) hx hb hts hi3 hown hK.1 hP 0 rfl rfl 1 (by decide) (hts (.fieldLink RX3 19 "LastPenny" "now" "LLastPenny$World;") (by decide +kernel)) (fun _ h9 => h9) rfl dX3_rule_61 ?_
    refine va_get (D := D) (ci := 2) (v := .int (o 1 0 2)) (C := RX2) (T := TX2) (N := 13) hx hb hts hi2 hown hK.1 hP 6 rfl rfl 2 (by decide) (hts (.fieldLink RX3 86 "LastPenny$World" "slumpNow" "I") (by decide +kernel)) (fun _ h9 => h9) rfl dX3_rule_64 ?_
    exact hret (o 1 0 2) o H locs ls _ h hP hD hS dX3_rule_67
  have h := br2 h c3
  by_cases c4 : p1 = 3
  · have h := br1 h c4
    refine lv_tableIn (tgt := 68) hx hb dX3_rule_1 (by rw [c4]; all_goals decide) (by rw [c4]; all_goals decide) (by rw [c4]; all_goals rfl) (by decide) ?_
    refine lv_aload_n hx hb dX3_rule_68 rfl (lv_at hl 0 rfl) ?_
    refine va_get (D := D) (ci := 3) (v := .ref (a 1 0)) (C := RX3) (T := TX3) (N := 10) hx hb hts hi3 hown hK.1 hP 0 rfl rfl 1 (by decide) (hts (.fieldLink RX3 19 "LastPenny" "now" "LLastPenny$World;") (by decide +kernel)) (fun _ h9 => h9) rfl dX3_rule_69 ?_
    refine q_cVi (As := []) (rest := []) ⟨hx, hb, hml, hown, hts⟩ hK (c_X2_holderOrNone l D kc (a 1) (o 1) H.size _ h) (cwV 0 hts gX3_rule_X2_holderOrNone rfl rfl rfl (by decide +kernel) ⟨Nat.le_of_ble_eq_true rfl, Nat.le_of_ble_eq_true rfl⟩) (cut_LP_1 D kc a o) hP hD hS hA 2 0 rfl rfl rfl hl.1 rfl (Nat.le_of_ble_eq_true rfl) dX3_rule_72 ⟨Nat.zero_le _, Nat.zero_le _⟩ (fun r6 u7 H locs h hP hD hS => ?_)
    obtain ⟨w5, rfl⟩ : ∃ z, z = u7 := ⟨_, rfl⟩
    obtain ⟨o8, eo8⟩ : ∃ z, z = (va_up o 1 w5) := ⟨_, rfl⟩
    have h := nm_out h o8 eo8
    have hP : va_P D vwCl (cLP kc a o8) H := q_to hP (by subst eo8; rfl)
    have hD : va_D A (cLP kc a o8) := q_toD hD (by subst eo8; rfl)
    exact hret r6 o8 H locs ls _ h hP hD hS dX3_rule_75
  have h := br2 h c4
  by_cases c9 : p1 = 4
  · have h := br1 h c9
    refine lv_tableIn (tgt := 76) hx hb dX3_rule_1 (by rw [c9]; all_goals decide) (by rw [c9]; all_goals decide) (by rw [c9]; all_goals rfl) (by decide) ?_
    refine lv_aload_n hx hb dX3_rule_76 rfl (lv_at hl 0 rfl) ?_
    refine va_get (D := D) (ci := 3) (v := .ref (a 1 0)) (C := RX3) (T := TX3) (N := 10) hx hb hts hi3 hown hK.1 hP 0 rfl rfl 1 (by decide) (hts (.fieldLink RX3 19 "LastPenny" "now" "LLastPenny$World;") (by decide +kernel)) (fun _ h9 => h9) rfl dX3_rule_77 ?_
    refine q_cVi (As := []) (rest := []) ⟨hx, hb, hml, hown, hts⟩ hK (c_X2_meansOfAll l D kc (a 1) (o 1) H.size _ h) (cwV 0 hts gX3_rule_X2_meansOfAll rfl rfl rfl (by decide +kernel) ⟨Nat.le_of_ble_eq_true rfl, Nat.le_of_ble_eq_true rfl⟩) (cut_LP_1 D kc a o) hP hD hS hA 2 0 rfl rfl rfl hl.1 rfl (Nat.le_of_ble_eq_true rfl) dX3_rule_80 ⟨Nat.zero_le _, Nat.zero_le _⟩ (fun r11 u12 H locs h hP hD hS => ?_)
    obtain ⟨w10, rfl⟩ : ∃ z, z = u12 := ⟨_, rfl⟩
    obtain ⟨o13, eo13⟩ : ∃ z, z = (va_up o 1 w10) := ⟨_, rfl⟩
    have h := nm_out h o13 eo13
    have hP : va_P D vwCl (cLP kc a o13) H := q_to hP (by subst eo13; rfl)
    have hD : va_D A (cLP kc a o13) := q_toD hD (by subst eo13; rfl)
    exact hret r11 o13 H locs ls _ h hP hD hS dX3_rule_83
  have h := br2 h c9
  by_cases c14 : p1 = 5
  · have h := br1 h c14
    refine lv_tableIn (tgt := 84) hx hb dX3_rule_1 (by rw [c14]; all_goals decide) (by rw [c14]; all_goals decide) (by rw [c14]; all_goals rfl) (by decide) ?_
    refine lv_aload_n hx hb dX3_rule_84 rfl (lv_at hl 0 rfl) ?_
    refine va_get (D := D) (ci := 3) (v := .ref (a 1 0)) (C := RX3) (T := TX3) (N := 10) hx hb hts hi3 hown hK.1 hP 0 rfl rfl 1 (by decide) (hts (.fieldLink RX3 19 "LastPenny" "now" "LLastPenny$World;") (by decide +kernel)) (fun _ h9 => h9) rfl dX3_rule_85 ?_
    refine q_cVi (As := []) (rest := []) ⟨hx, hb, hml, hown, hts⟩ hK (c_X2_ruinedBits l D kc (a 1) (o 1) H.size _ h) (cwV 0 hts gX3_rule_X2_ruinedBits rfl rfl rfl (by decide +kernel) ⟨Nat.le_of_ble_eq_true rfl, Nat.le_of_ble_eq_true rfl⟩) (cut_LP_1 D kc a o) hP hD hS hA 2 0 rfl rfl rfl hl.1 rfl (Nat.le_of_ble_eq_true rfl) dX3_rule_88 ⟨Nat.zero_le _, Nat.zero_le _⟩ (fun r16 u17 H locs h hP hD hS => ?_)
    obtain ⟨w15, rfl⟩ : ∃ z, z = u17 := ⟨_, rfl⟩
    obtain ⟨o18, eo18⟩ : ∃ z, z = (va_up o 1 w15) := ⟨_, rfl⟩
    have h := nm_out h o18 eo18
    have hP : va_P D vwCl (cLP kc a o18) H := q_to hP (by subst eo18; rfl)
    have hD : va_D A (cLP kc a o18) := q_toD hD (by subst eo18; rfl)
    exact hret r16 o18 H locs ls _ h hP hD hS dX3_rule_91
  have h := br2 h c14
  by_cases c19 : p1 = 6
  · have h := br1 h c19
    refine lv_tableIn (tgt := 92) hx hb dX3_rule_1 (by rw [c19]; all_goals decide) (by rw [c19]; all_goals decide) (by rw [c19]; all_goals rfl) (by decide) ?_
    refine lv_aload_n hx hb dX3_rule_92 rfl (lv_at hl 0 rfl) ?_
    refine va_get (D := D) (ci := 3) (v := .ref (a 1 0)) (C := RX3) (T := TX3) (N := 10) hx hb hts hi3 hown hK.1 hP 0 rfl rfl 1 (by decide) (hts (.fieldLink RX3 19 "LastPenny" "now" "LLastPenny$World;") (by decide +kernel)) (fun _ h9 => h9) rfl dX3_rule_93 ?_
    refine va_get (D := D) (ci := 2) (v := .int (o 1 0 4)) (C := RX2) (T := TX2) (N := 13) hx hb hts hi2 hown hK.1 hP 6 rfl rfl 4 (by decide) (hts (.fieldLink RX3 99 "LastPenny$World" "gifts" "I") (by decide +kernel)) (fun _ h9 => h9) rfl dX3_rule_96 ?_
    exact hret (o 1 0 4) o H locs ls _ h hP hD hS dX3_rule_99
  have h := br2 h c19
  have ht20 := lv_neT (a := 0) c1 (by decide)
  have ht21 := lv_neT (a := 1) c2 (by decide)
  have ht22 := lv_neT (a := 2) c3 (by decide)
  have ht23 := lv_neT (a := 3) c4 (by decide)
  have ht24 := lv_neT (a := 4) c9 (by decide)
  have ht25 := lv_neT (a := 5) c14 (by decide)
  have ht26 := lv_neT (a := 6) c19 (by decide)
  refine lv_tableOut (tgt := 100) hx hb dX3_rule_1 (by omega) (by decide) ?_
  refine lv_iconst (v := -1) hx hb dX3_rule_100 (by decide) ?_
  exact hret (-1) o H locs ls _ h hP hD hS dX3_rule_101

def w_X3_one (p1 : Int32) (p2 : Int32) (o : S3) (K : Int32 → S3 → Prop) : Prop := w_X2_has p1 (o 1) (fun r2 w1 => nm ((va_up o 1 w1) : S3) (fun o4 => br (r2 = 0) (K (-1) o4) (br (p2 = 0) (vp_in p1 5 ∧ (K (o4 1 1 p1.toNatClampNeg) o4)) (br (p2 = 1) (vp_in p1 5 ∧ (K (o4 1 2 p1.toNatClampNeg) o4)) (br (p2 = 2) (vp_in p1 5 ∧ (K (o4 1 3 p1.toNatClampNeg) o4)) (br (p2 = 3) (vp_in p1 5 ∧ (K (o4 1 4 p1.toNatClampNeg) o4)) (br (p2 = 4) (w_X2_bringsTo p1 (o4 1) (fun r16 w15 => nm ((va_up o4 1 w15) : S3) (fun o18 => K r16 o18))) (K (-1) o4))))))))
abbrev rm_X3_one : Room := { frames := 3, cells := 0, slots := 0, locals := 65 }
set_option maxHeartbeats 4000000 in
set_option maxRecDepth 100000 in
theorem c_X3_one (l : Launch) (D : va_G) (kc : Nat → ClassId) (a : Nat → Nat → Nat) (p1 : Int32) (p2 : Int32) (o : S3) (sz : Nat) (K : Int32 → S3 → Prop) (h : w_X3_one p1 p2 o K) : MetI l yX3_one wsX3_one rm_X3_one D kc (fun u : S3 => cLP kc a u) o [.ref (a 0 0), .int p1, .int p2] sz (fun r u => K r u) := by
  refine q_ei (code := cX3_one) (maxL := 3) (by decide) rfl (Nat.le_of_ble_eq_true rfl) ?_
  intro p e s m args below meth c Q A hx hb hml hts hown hK hA hret ls hl hP hD hS
  have hown : s.vm.findClass RX3 = some m.cls := hown
  have hl : lv_has ls 3 [(0, .ref (a 0 0)), (1, .int p1), (2, .int p2)] := hl
  have hP : va_P D vwCl (cLP kc a o) s.heap := hP
  have hD : va_D A (cLP kc a o) := hD
  have hS : va_S A s.heap s.heap [] := hS
  obtain ⟨H, eH⟩ : ∃ z, z = s.heap := ⟨_, rfl⟩
  obtain ⟨locs, eL⟩ : ∃ z : List Loc, z = [] := ⟨_, rfl⟩
  have hP := q_heap hP eH
  have hS := q_heapS hS eH eL
  refine q_start eH eL ?_
  clear eH eL
  have hi2 : ∀ w ∈ u_ws RX2 TX2 13, w ∈ wsX3_one := by decide +kernel
  have hi3 : ∀ w ∈ u_ws RX3 TX3 10, w ∈ wsX3_one := by decide +kernel
  unfold w_X3_one at h
  refine lv_aload_n hx hb dX3_one_0 rfl (lv_at hl 0 rfl) ?_
  refine va_get (D := D) (ci := 3) (v := .ref (a 1 0)) (C := RX3) (T := TX3) (N := 10) hx hb hts hi3 hown hK.1 hP 0 rfl rfl 1 (by decide) (hts (.fieldLink RX3 19 "LastPenny" "now" "LLastPenny$World;") (by decide +kernel)) (fun _ h9 => h9) rfl dX3_one_1 ?_
  refine lv_iload_n hx hb dX3_one_4 rfl (lv_at hl 1 rfl) ?_
  refine q_cVi (As := [.int p1]) (rest := []) ⟨hx, hb, hml, hown, hts⟩ hK (c_X2_has l D kc (a 1) p1 (o 1) H.size _ h) (cwV 1 hts gX3_one_X2_has rfl rfl rfl (by decide +kernel) ⟨Nat.le_of_ble_eq_true rfl, Nat.le_of_ble_eq_true rfl⟩) (cut_LP_1 D kc a o) hP hD hS hA 2 0 rfl rfl rfl hl.1 rfl (Nat.le_of_ble_eq_true rfl) dX3_one_5 ⟨Nat.zero_le _, Nat.zero_le _⟩ (fun r2 u3 H locs h hP hD hS => ?_)
  obtain ⟨w1, rfl⟩ : ∃ z, z = u3 := ⟨_, rfl⟩
  obtain ⟨o4, eo4⟩ : ∃ z, z = (va_up o 1 w1) := ⟨_, rfl⟩
  have h := nm_out h o4 eo4
  have hP : va_P D vwCl (cLP kc a o4) H := q_to hP (by subst eo4; rfl)
  have hD : va_D A (cLP kc a o4) := q_toD hD (by subst eo4; rfl)
  refine lv_if_ne (tgt := 13) hx hb dX3_one_8 (by decide) (fun c5 => ?_) (fun c5 => ?_)
  · have h := br2 h c5
    refine lv_iload_n hx hb dX3_one_13 rfl (lv_at hl 2 rfl) ?_
    by_cases c6 : p2 = 0
    · have h := br1 h c6
      refine lv_tableIn (tgt := 48) hx hb dX3_one_14 (by rw [c6]; all_goals decide) (by rw [c6]; all_goals decide) (by rw [c6]; all_goals rfl) (by decide) ?_
      refine lv_aload_n hx hb dX3_one_48 rfl (lv_at hl 0 rfl) ?_
      refine va_get (D := D) (ci := 3) (v := .ref (a 1 0)) (C := RX3) (T := TX3) (N := 10) hx hb hts hi3 hown hK.1 hP 0 rfl rfl 1 (by decide) (hts (.fieldLink RX3 19 "LastPenny" "now" "LLastPenny$World;") (by decide +kernel)) (fun _ h9 => h9) rfl dX3_one_49 ?_
      refine va_get (D := D) (ci := 2) (v := .ref (a 1 1)) (C := RX2) (T := TX2) (N := 13) hx hb hts hi2 hown hK.1 hP 6 rfl rfl 6 (by decide) (hts (.fieldLink RX3 105 "LastPenny$World" "kindOf" "[I") (by decide +kernel)) (fun _ h9 => h9) rfl dX3_one_52 ?_
      refine lv_iload_n hx hb dX3_one_55 rfl (lv_at hl 1 rfl) ?_
      obtain ⟨hi_7, h⟩ := h
      refine va_iald hx hb hK.1 hP 7 0 rfl rfl hi_7 dX3_one_56 ?_
      exact hret (o4 1 1 p1.toNatClampNeg) o4 H locs ls _ h hP hD hS dX3_one_57
    have h := br2 h c6
    by_cases c8 : p2 = 1
    · have h := br1 h c8
      refine lv_tableIn (tgt := 58) hx hb dX3_one_14 (by rw [c8]; all_goals decide) (by rw [c8]; all_goals decide) (by rw [c8]; all_goals rfl) (by decide) ?_
      refine lv_aload_n hx hb dX3_one_58 rfl (lv_at hl 0 rfl) ?_
      refine va_get (D := D) (ci := 3) (v := .ref (a 1 0)) (C := RX3) (T := TX3) (N := 10) hx hb hts hi3 hown hK.1 hP 0 rfl rfl 1 (by decide) (hts (.fieldLink RX3 19 "LastPenny" "now" "LLastPenny$World;") (by decide +kernel)) (fun _ h9 => h9) rfl dX3_one_59 ?_
      refine va_get (D := D) (ci := 2) (v := .ref (a 1 2)) (C := RX2) (T := TX2) (N := 13) hx hb hts hi2 hown hK.1 hP 6 rfl rfl 7 (by decide) (hts (.fieldLink RX3 108 "LastPenny$World" "meansOf" "[I") (by decide +kernel)) (fun _ h9 => h9) rfl dX3_one_62 ?_
      refine lv_iload_n hx hb dX3_one_65 rfl (lv_at hl 1 rfl) ?_
      obtain ⟨hi_9, h⟩ := h
      refine va_iald hx hb hK.1 hP 8 0 rfl rfl hi_9 dX3_one_66 ?_
      exact hret (o4 1 2 p1.toNatClampNeg) o4 H locs ls _ h hP hD hS dX3_one_67
    have h := br2 h c8
    by_cases c10 : p2 = 2
    · have h := br1 h c10
      refine lv_tableIn (tgt := 68) hx hb dX3_one_14 (by rw [c10]; all_goals decide) (by rw [c10]; all_goals decide) (by rw [c10]; all_goals rfl) (by decide) ?_
      refine lv_aload_n hx hb dX3_one_68 rfl (lv_at hl 0 rfl) ?_
      refine va_get (D := D) (ci := 3) (v := .ref (a 1 0)) (C := RX3) (T := TX3) (N := 10) hx hb hts hi3 hown hK.1 hP 0 rfl rfl 1 (by decide) (hts (.fieldLink RX3 19 "LastPenny" "now" "LLastPenny$World;") (by decide +kernel)) (fun _ h9 => h9) rfl dX3_one_69 ?_
      refine va_get (D := D) (ci := 2) (v := .ref (a 1 3)) (C := RX2) (T := TX2) (N := 13) hx hb hts hi2 hown hK.1 hP 6 rfl rfl 8 (by decide) (hts (.fieldLink RX3 111 "LastPenny$World" "tradeOf" "[I") (by decide +kernel)) (fun _ h9 => h9) rfl dX3_one_72 ?_
      refine lv_iload_n hx hb dX3_one_75 rfl (lv_at hl 1 rfl) ?_
      obtain ⟨hi_11, h⟩ := h
      refine va_iald hx hb hK.1 hP 9 0 rfl rfl hi_11 dX3_one_76 ?_
      exact hret (o4 1 3 p1.toNatClampNeg) o4 H locs ls _ h hP hD hS dX3_one_77
    have h := br2 h c10
    by_cases c12 : p2 = 3
    · have h := br1 h c12
      refine lv_tableIn (tgt := 78) hx hb dX3_one_14 (by rw [c12]; all_goals decide) (by rw [c12]; all_goals decide) (by rw [c12]; all_goals rfl) (by decide) ?_
      refine lv_aload_n hx hb dX3_one_78 rfl (lv_at hl 0 rfl) ?_
      refine va_get (D := D) (ci := 3) (v := .ref (a 1 0)) (C := RX3) (T := TX3) (N := 10) hx hb hts hi3 hown hK.1 hP 0 rfl rfl 1 (by decide) (hts (.fieldLink RX3 19 "LastPenny" "now" "LLastPenny$World;") (by decide +kernel)) (fun _ h9 => h9) rfl dX3_one_79 ?_
      refine va_get (D := D) (ci := 2) (v := .ref (a 1 4)) (C := RX2) (T := TX2) (N := 13) hx hb hts hi2 hown hK.1 hP 6 rfl rfl 9 (by decide) (hts (.fieldLink RX3 114 "LastPenny$World" "keptOf" "[I") (by decide +kernel)) (fun _ h9 => h9) rfl dX3_one_82 ?_
      refine lv_iload_n hx hb dX3_one_85 rfl (lv_at hl 1 rfl) ?_
      obtain ⟨hi_13, h⟩ := h
      refine va_iald hx hb hK.1 hP 10 0 rfl rfl hi_13 dX3_one_86 ?_
      exact hret (o4 1 4 p1.toNatClampNeg) o4 H locs ls _ h hP hD hS dX3_one_87
    have h := br2 h c12
    by_cases c14 : p2 = 4
    · have h := br1 h c14
      refine lv_tableIn (tgt := 88) hx hb dX3_one_14 (by rw [c14]; all_goals decide) (by rw [c14]; all_goals decide) (by rw [c14]; all_goals rfl) (by decide) ?_
      refine lv_aload_n hx hb dX3_one_88 rfl (lv_at hl 0 rfl) ?_
      refine va_get (D := D) (ci := 3) (v := .ref (a 1 0)) (C := RX3) (T := TX3) (N := 10) hx hb hts hi3 hown hK.1 hP 0 rfl rfl 1 (by decide) (hts (.fieldLink RX3 19 "LastPenny" "now" "LLastPenny$World;") (by decide +kernel)) (fun _ h9 => h9) rfl dX3_one_89 ?_
      refine lv_iload_n hx hb dX3_one_92 rfl (lv_at hl 1 rfl) ?_
      refine q_cVi (As := [.int p1]) (rest := []) ⟨hx, hb, hml, hown, hts⟩ hK (c_X2_bringsTo l D kc (a 1) p1 (o4 1) H.size _ h) (cwV 1 hts gX3_one_X2_bringsTo rfl rfl rfl (by decide +kernel) ⟨Nat.le_of_ble_eq_true rfl, Nat.le_of_ble_eq_true rfl⟩) (cut_LP_1 D kc a o4) hP hD hS hA 2 0 rfl rfl rfl hl.1 rfl (Nat.le_of_ble_eq_true rfl) dX3_one_93 ⟨Nat.zero_le _, Nat.zero_le _⟩ (fun r16 u17 H locs h hP hD hS => ?_)
      obtain ⟨w15, rfl⟩ : ∃ z, z = u17 := ⟨_, rfl⟩
      obtain ⟨o18, eo18⟩ : ∃ z, z = (va_up o4 1 w15) := ⟨_, rfl⟩
      have h := nm_out h o18 eo18
      have hP : va_P D vwCl (cLP kc a o18) H := q_to hP (by subst eo18; rfl)
      have hD : va_D A (cLP kc a o18) := q_toD hD (by subst eo18; rfl)
      exact hret r16 o18 H locs ls _ h hP hD hS dX3_one_96
    have h := br2 h c14
    have ht19 := lv_neT (a := 0) c6 (by decide)
    have ht20 := lv_neT (a := 1) c8 (by decide)
    have ht21 := lv_neT (a := 2) c10 (by decide)
    have ht22 := lv_neT (a := 3) c12 (by decide)
    have ht23 := lv_neT (a := 4) c14 (by decide)
    refine lv_tableOut (tgt := 97) hx hb dX3_one_14 (by omega) (by decide) ?_
    refine lv_iconst (v := -1) hx hb dX3_one_97 (by decide) ?_
    exact hret (-1) o4 H locs ls _ h hP hD hS dX3_one_98
  · have h := br1 h c5
    refine lv_iconst (v := -1) hx hb dX3_one_11 (by decide) ?_
    exact hret (-1) o4 H locs ls _ h hP hD hS dX3_one_12

def w_X3_gift (p1 : Int32) (p2 : Int32) (o : S3) (K : Int32 → S3 → Prop) : Prop := w_X3_within p1 (0 : Int32) ((o 1 0 4) - 1) (fun r1 => br (r1 = 0) (K (-1) o) (w_X3_within p2 (0 : Int32) (3 : Int32) (fun r4 => br (r4 = 0) (K (-1) o) (vp_in ((p1 * 4) + p2) 16 ∧ (K (o 1 5 ((p1 * 4) + p2).toNatClampNeg) o)))))
abbrev rm_X3_gift : Room := { frames := 1, cells := 0, slots := 0, locals := 22 }
set_option maxHeartbeats 4000000 in
set_option maxRecDepth 100000 in
theorem c_X3_gift (l : Launch) (D : va_G) (kc : Nat → ClassId) (a : Nat → Nat → Nat) (p1 : Int32) (p2 : Int32) (o : S3) (sz : Nat) (K : Int32 → S3 → Prop) (h : w_X3_gift p1 p2 o K) : MetI l yX3_gift wsX3_gift rm_X3_gift D kc (fun u : S3 => cLP kc a u) o [.ref (a 0 0), .int p1, .int p2] sz (fun r u => K r u) := by
  refine q_ei (code := cX3_gift) (maxL := 3) (by decide) rfl (Nat.le_of_ble_eq_true rfl) ?_
  intro p e s m args below meth c Q A hx hb hml hts hown hK hA hret ls hl hP hD hS
  have hown : s.vm.findClass RX3 = some m.cls := hown
  have hl : lv_has ls 3 [(0, .ref (a 0 0)), (1, .int p1), (2, .int p2)] := hl
  have hP : va_P D vwCl (cLP kc a o) s.heap := hP
  have hD : va_D A (cLP kc a o) := hD
  have hS : va_S A s.heap s.heap [] := hS
  obtain ⟨H, eH⟩ : ∃ z, z = s.heap := ⟨_, rfl⟩
  obtain ⟨locs, eL⟩ : ∃ z : List Loc, z = [] := ⟨_, rfl⟩
  have hP := q_heap hP eH
  have hS := q_heapS hS eH eL
  refine q_start eH eL ?_
  clear eH eL
  have hi2 : ∀ w ∈ u_ws RX2 TX2 13, w ∈ wsX3_gift := by decide +kernel
  have hi3 : ∀ w ∈ u_ws RX3 TX3 10, w ∈ wsX3_gift := by decide +kernel
  unfold w_X3_gift at h
  refine lv_iload_n hx hb dX3_gift_0 rfl (lv_at hl 1 rfl) ?_
  refine lv_iconst (v := 0) hx hb dX3_gift_1 (by decide) ?_
  refine lv_aload_n hx hb dX3_gift_2 rfl (lv_at hl 0 rfl) ?_
  refine va_get (D := D) (ci := 3) (v := .ref (a 1 0)) (C := RX3) (T := TX3) (N := 10) hx hb hts hi3 hown hK.1 hP 0 rfl rfl 1 (by decide) (hts (.fieldLink RX3 19 "LastPenny" "now" "LLastPenny$World;") (by decide +kernel)) (fun _ h9 => h9) rfl dX3_gift_3 ?_
  refine va_get (D := D) (ci := 2) (v := .int (o 1 0 4)) (C := RX2) (T := TX2) (N := 13) hx hb hts hi2 hown hK.1 hP 6 rfl rfl 4 (by decide) (hts (.fieldLink RX3 99 "LastPenny$World" "gifts" "I") (by decide +kernel)) (fun _ h9 => h9) rfl dX3_gift_6 ?_
  refine lv_iconst (v := 1) hx hb dX3_gift_9 (by decide) ?_
  refine lv_isub hx hb dX3_gift_10 ?_
  refine q_cSi (As := [.int p1, .int 0, .int ((o 1 0 4) - 1)]) (rest := []) ⟨hx, hb, hml, hown, hts⟩ hK (c_X3_within l D kc p1 (0 : Int32) ((o 1 0 4) - 1) H.size _ h) (va_cwS 3 hts gX3_gift_X3_within rfl rfl rfl (by decide +kernel) ⟨Nat.le_of_ble_eq_true rfl, Nat.le_of_ble_eq_true rfl⟩) (cut_nil _) hP hD hS hA rfl hl.1 rfl (Nat.le_of_ble_eq_true rfl) dX3_gift_11 ⟨Nat.zero_le _, Nat.zero_le _⟩ (fun r1 _ H locs h hP hD hS => ?_)
  have hP : va_P D vwCl (cLP kc a o) H := hP
  have hD : va_D A (cLP kc a o) := hD
  refine lv_if_eq (tgt := 26) hx hb dX3_gift_14 (by decide) (fun c3 => ?_) (fun c3 => ?_)
  · have h := br1 h c3
    refine lv_iconst (v := -1) hx hb dX3_gift_26 (by decide) ?_
    exact hret (-1) o H locs ls _ h hP hD hS dX3_gift_27
  · have h := br2 h c3
    refine lv_iload_n hx hb dX3_gift_17 rfl (lv_at hl 2 rfl) ?_
    refine lv_iconst (v := 0) hx hb dX3_gift_18 (by decide) ?_
    refine lv_iconst (v := 3) hx hb dX3_gift_19 (by decide) ?_
    refine q_cSi (As := [.int p2, .int 0, .int 3]) (rest := []) ⟨hx, hb, hml, hown, hts⟩ hK (c_X3_within l D kc p2 (0 : Int32) (3 : Int32) H.size _ h) (va_cwS 3 hts gX3_gift_X3_within rfl rfl rfl (by decide +kernel) ⟨Nat.le_of_ble_eq_true rfl, Nat.le_of_ble_eq_true rfl⟩) (cut_nil _) hP hD hS hA rfl hl.1 rfl (Nat.le_of_ble_eq_true rfl) dX3_gift_20 ⟨Nat.zero_le _, Nat.zero_le _⟩ (fun r4 _ H locs h hP hD hS => ?_)
    have hP : va_P D vwCl (cLP kc a o) H := hP
    have hD : va_D A (cLP kc a o) := hD
    refine lv_if_ne (tgt := 28) hx hb dX3_gift_23 (by decide) (fun c6 => ?_) (fun c6 => ?_)
    · have h := br2 h c6
      refine lv_aload_n hx hb dX3_gift_28 rfl (lv_at hl 0 rfl) ?_
      refine va_get (D := D) (ci := 3) (v := .ref (a 1 0)) (C := RX3) (T := TX3) (N := 10) hx hb hts hi3 hown hK.1 hP 0 rfl rfl 1 (by decide) (hts (.fieldLink RX3 19 "LastPenny" "now" "LLastPenny$World;") (by decide +kernel)) (fun _ h9 => h9) rfl dX3_gift_29 ?_
      refine va_get (D := D) (ci := 2) (v := .ref (a 1 5)) (C := RX2) (T := TX2) (N := 13) hx hb hts hi2 hown hK.1 hP 6 rfl rfl 10 (by decide) (hts (.fieldLink RX3 121 "LastPenny$World" "giftCells" "[I") (by decide +kernel)) (fun _ h9 => h9) rfl dX3_gift_32 ?_
      refine lv_iload_n hx hb dX3_gift_35 rfl (lv_at hl 1 rfl) ?_
      refine lv_iconst (v := 4) hx hb dX3_gift_36 (by decide) ?_
      refine lv_imul hx hb dX3_gift_37 ?_
      refine lv_iload_n hx hb dX3_gift_38 rfl (lv_at hl 2 rfl) ?_
      refine lv_iadd hx hb dX3_gift_39 ?_
      obtain ⟨hi_7, h⟩ := h
      refine va_iald hx hb hK.1 hP 11 0 rfl rfl hi_7 dX3_gift_40 ?_
      exact hret (o 1 5 ((p1 * 4) + p2).toNatClampNeg) o H locs ls _ h hP hD hS dX3_gift_41
    · have h := br1 h c6
      refine lv_iconst (v := -1) hx hb dX3_gift_26 (by decide) ?_
      exact hret (-1) o H locs ls _ h hP hD hS dX3_gift_27

def w_X3_exchange (p1 : Int32) (p2 : Int32) (p3 : Int32) (f : S1) (K : Int32 → S1 → Prop) : Prop := w_X3_within p2 (0 : Int32) p3 (fun r1 => br (r1 = 0) (K (-1) f) (vp_in p1 5 ∧ (nm ((f p1.toNatClampNeg) : Int32) (fun x5 => vp_in p1 5 ∧ (nm ((upd f p1.toNatClampNeg p2) : S1) (fun f7 => K x5 f7))))))
abbrev rm_X3_exchange : Room := { frames := 1, cells := 0, slots := 0, locals := 22 }
set_option maxHeartbeats 4000000 in
set_option maxRecDepth 100000 in
theorem c_X3_exchange (l : Launch) (D : va_G) (kc : Nat → ClassId) (a : Nat) (p1 : Int32) (p2 : Int32) (p3 : Int32) (f : S1) (sz : Nat) (K : Int32 → S1 → Prop) (h : w_X3_exchange p1 p2 p3 f K) : MetI l yX3_exchange wsX3_exchange rm_X3_exchange D kc (fun u : S1 => [(a, .inl (kc 0, 5, .inl u))]) f [.ref a, .int p1, .int p2, .int p3] sz (fun r u => K r u) := by
  refine q_ei (code := cX3_exchange) (maxL := 5) (by decide) rfl (Nat.le_of_ble_eq_true rfl) ?_
  intro p e s m args below meth c Q A hx hb hml hts hown hK hA hret ls hl hP hD hS
  have hown : s.vm.findClass RX3 = some m.cls := hown
  have hl : lv_has ls 5 [(0, .ref a), (1, .int p1), (2, .int p2), (3, .int p3)] := hl
  have hP : va_P D vwCl ([(a, .inl (kc 0, 5, .inl f))]) s.heap := hP
  have hD : va_D A ([(a, .inl (kc 0, 5, .inl f))]) := hD
  have hS : va_S A s.heap s.heap [] := hS
  obtain ⟨H, eH⟩ : ∃ z, z = s.heap := ⟨_, rfl⟩
  obtain ⟨locs, eL⟩ : ∃ z : List Loc, z = [] := ⟨_, rfl⟩
  have hP := q_heap hP eH
  have hS := q_heapS hS eH eL
  refine q_start eH eL ?_
  clear eH eL
  unfold w_X3_exchange at h
  refine lv_iload_n hx hb dX3_exchange_0 rfl (lv_at hl 2 rfl) ?_
  refine lv_iconst (v := 0) hx hb dX3_exchange_1 (by decide) ?_
  refine lv_iload_n hx hb dX3_exchange_2 rfl (lv_at hl 3 rfl) ?_
  refine q_cSi (As := [.int p2, .int 0, .int p3]) (rest := []) ⟨hx, hb, hml, hown, hts⟩ hK (c_X3_within l D kc p2 (0 : Int32) p3 H.size _ h) (va_cwS 3 hts gX3_exchange_X3_within rfl rfl rfl (by decide +kernel) ⟨Nat.le_of_ble_eq_true rfl, Nat.le_of_ble_eq_true rfl⟩) (cut_nil _) hP hD hS hA rfl hl.1 rfl (Nat.le_of_ble_eq_true rfl) dX3_exchange_3 ⟨Nat.zero_le _, Nat.zero_le _⟩ (fun r1 _ H locs h hP hD hS => ?_)
  have hP : va_P D vwCl ([(a, .inl (kc 0, 5, .inl f))]) H := hP
  have hD : va_D A ([(a, .inl (kc 0, 5, .inl f))]) := hD
  refine lv_if_ne (tgt := 11) hx hb dX3_exchange_6 (by decide) (fun c3 => ?_) (fun c3 => ?_)
  · have h := br2 h c3
    refine lv_aload_n hx hb dX3_exchange_11 rfl (lv_at hl 0 rfl) ?_
    refine lv_iload_n hx hb dX3_exchange_12 rfl (lv_at hl 1 rfl) ?_
    obtain ⟨hi_4, h⟩ := h
    refine va_iald hx hb hK.1 hP 0 0 rfl rfl hi_4 dX3_exchange_13 ?_
    refine lv_topi (fun x5 ex5 => ?_)
    have h := nm_out h x5 ex5
    refine lv_istore (lv' := [(4, .int x5), (0, .ref a), (1, .int p1), (2, .int p2), (3, .int p3)]) hx hb dX3_exchange_14 hl (by decide) rfl (fun ls hl => ?_)
    refine lv_aload_n hx hb dX3_exchange_16 rfl (lv_at hl 1 rfl) ?_
    refine lv_iload_n hx hb dX3_exchange_17 rfl (lv_at hl 2 rfl) ?_
    refine lv_iload_n hx hb dX3_exchange_18 rfl (lv_at hl 3 rfl) ?_
    obtain ⟨hi_6, h⟩ := h
    refine va_iast hx hb hK.1 hP hD hS 0 0 rfl rfl hi_6 dX3_exchange_19 (fun H locs hP hD hS => ?_)
    obtain ⟨f7, ef7⟩ : ∃ z, z = (upd f p1.toNatClampNeg p2) := ⟨_, rfl⟩
    have h := nm_out h f7 ef7
    have hP : va_P D vwCl ([(a, .inl (kc 0, 5, .inl f7))]) H := q_to hP (by subst ef7; rfl)
    have hD : va_D A ([(a, .inl (kc 0, 5, .inl f7))]) := q_toD hD (by subst ef7; rfl)
    refine lv_iload hx hb dX3_exchange_20 (lv_at hl 0 rfl) ?_
    exact hret x5 f7 H locs ls _ h hP hD hS dX3_exchange_22
  · have h := br1 h c3
    refine lv_iconst (v := -1) hx hb dX3_exchange_9 (by decide) ?_
    exact hret (-1) f H locs ls _ h hP hD hS dX3_exchange_10

def w_X3_alter (p1 : Int32) (p2 : Int32) (p3 : Int32) (o : S3) (K : Int32 → S3 → Prop) : Prop := w_X2_has p1 (o 1) (fun r2 w1 => nm ((va_up o 1 w1) : S3) (fun o4 => br (r2 = 0) (K (-1) o4) (br (p2 = 0) (w_X3_exchange p1 p3 (3 : Int32) (o4 1 1) (fun r8 f7 => nm ((va_up o4 1 (va_up (o4 1) 1 f7)) : S3) (fun o10 => K r8 o10))) (br (p2 = 1) (w_X3_exchange p1 p3 (999 : Int32) (o4 1 2) (fun r13 f12 => nm ((va_up o4 1 (va_up (o4 1) 2 f12)) : S3) (fun o15 => K r13 o15))) (br (p2 = 2) (w_X3_exchange p1 p3 (20 : Int32) (o4 1 3) (fun r18 f17 => nm ((va_up o4 1 (va_up (o4 1) 3 f17)) : S3) (fun o20 => K r18 o20))) (K (-1) o4))))))
abbrev rm_X3_alter : Room := { frames := 2, cells := 0, slots := 0, locals := 46 }
set_option maxHeartbeats 4000000 in
set_option maxRecDepth 100000 in
theorem c_X3_alter (l : Launch) (D : va_G) (kc : Nat → ClassId) (a : Nat → Nat → Nat) (p1 : Int32) (p2 : Int32) (p3 : Int32) (o : S3) (sz : Nat) (K : Int32 → S3 → Prop) (h : w_X3_alter p1 p2 p3 o K) : MetI l yX3_alter wsX3_alter rm_X3_alter D kc (fun u : S3 => cLP kc a u) o [.ref (a 0 0), .int p1, .int p2, .int p3] sz (fun r u => K r u) := by
  refine q_ei (code := cX3_alter) (maxL := 4) (by decide) rfl (Nat.le_of_ble_eq_true rfl) ?_
  intro p e s m args below meth c Q A hx hb hml hts hown hK hA hret ls hl hP hD hS
  have hown : s.vm.findClass RX3 = some m.cls := hown
  have hl : lv_has ls 4 [(0, .ref (a 0 0)), (1, .int p1), (2, .int p2), (3, .int p3)] := hl
  have hP : va_P D vwCl (cLP kc a o) s.heap := hP
  have hD : va_D A (cLP kc a o) := hD
  have hS : va_S A s.heap s.heap [] := hS
  obtain ⟨H, eH⟩ : ∃ z, z = s.heap := ⟨_, rfl⟩
  obtain ⟨locs, eL⟩ : ∃ z : List Loc, z = [] := ⟨_, rfl⟩
  have hP := q_heap hP eH
  have hS := q_heapS hS eH eL
  refine q_start eH eL ?_
  clear eH eL
  have hi2 : ∀ w ∈ u_ws RX2 TX2 13, w ∈ wsX3_alter := by decide +kernel
  have hi3 : ∀ w ∈ u_ws RX3 TX3 10, w ∈ wsX3_alter := by decide +kernel
  unfold w_X3_alter at h
  refine lv_aload_n hx hb dX3_alter_0 rfl (lv_at hl 0 rfl) ?_
  refine va_get (D := D) (ci := 3) (v := .ref (a 1 0)) (C := RX3) (T := TX3) (N := 10) hx hb hts hi3 hown hK.1 hP 0 rfl rfl 1 (by decide) (hts (.fieldLink RX3 19 "LastPenny" "now" "LLastPenny$World;") (by decide +kernel)) (fun _ h9 => h9) rfl dX3_alter_1 ?_
  refine lv_iload_n hx hb dX3_alter_4 rfl (lv_at hl 1 rfl) ?_
  refine q_cVi (As := [.int p1]) (rest := []) ⟨hx, hb, hml, hown, hts⟩ hK (c_X2_has l D kc (a 1) p1 (o 1) H.size _ h) (cwV 1 hts gX3_alter_X2_has rfl rfl rfl (by decide +kernel) ⟨Nat.le_of_ble_eq_true rfl, Nat.le_of_ble_eq_true rfl⟩) (cut_LP_1 D kc a o) hP hD hS hA 2 0 rfl rfl rfl hl.1 rfl (Nat.le_of_ble_eq_true rfl) dX3_alter_5 ⟨Nat.zero_le _, Nat.zero_le _⟩ (fun r2 u3 H locs h hP hD hS => ?_)
  obtain ⟨w1, rfl⟩ : ∃ z, z = u3 := ⟨_, rfl⟩
  obtain ⟨o4, eo4⟩ : ∃ z, z = (va_up o 1 w1) := ⟨_, rfl⟩
  have h := nm_out h o4 eo4
  have hP : va_P D vwCl (cLP kc a o4) H := q_to hP (by subst eo4; rfl)
  have hD : va_D A (cLP kc a o4) := q_toD hD (by subst eo4; rfl)
  refine lv_if_ne (tgt := 13) hx hb dX3_alter_8 (by decide) (fun c5 => ?_) (fun c5 => ?_)
  · have h := br2 h c5
    refine lv_iload_n hx hb dX3_alter_13 rfl (lv_at hl 2 rfl) ?_
    by_cases c6 : p2 = 0
    · have h := br1 h c6
      refine lv_tableIn (tgt := 40) hx hb dX3_alter_14 (by rw [c6]; all_goals decide) (by rw [c6]; all_goals decide) (by rw [c6]; all_goals rfl) (by decide) ?_
      refine lv_aload_n hx hb dX3_alter_40 rfl (lv_at hl 0 rfl) ?_
      refine va_get (D := D) (ci := 3) (v := .ref (a 1 0)) (C := RX3) (T := TX3) (N := 10) hx hb hts hi3 hown hK.1 hP 0 rfl rfl 1 (by decide) (hts (.fieldLink RX3 19 "LastPenny" "now" "LLastPenny$World;") (by decide +kernel)) (fun _ h9 => h9) rfl dX3_alter_41 ?_
      refine va_get (D := D) (ci := 2) (v := .ref (a 1 1)) (C := RX2) (T := TX2) (N := 13) hx hb hts hi2 hown hK.1 hP 6 rfl rfl 6 (by decide) (hts (.fieldLink RX3 105 "LastPenny$World" "kindOf" "[I") (by decide +kernel)) (fun _ h9 => h9) rfl dX3_alter_44 ?_
      refine lv_iload_n hx hb dX3_alter_47 rfl (lv_at hl 1 rfl) ?_
      refine lv_iload_n hx hb dX3_alter_48 rfl (lv_at hl 3 rfl) ?_
      refine lv_iconst (v := 3) hx hb dX3_alter_49 (by decide) ?_
      refine q_cSi (As := [.ref (a 1 1), .int p1, .int p3, .int 3]) (rest := []) ⟨hx, hb, hml, hown, hts⟩ hK (c_X3_exchange l D kc (a 1 1) p1 p3 (3 : Int32) (o4 1 1) H.size _ h) (va_cwS 4 hts gX3_alter_X3_exchange rfl rfl rfl (by decide +kernel) ⟨Nat.le_of_ble_eq_true rfl, Nat.le_of_ble_eq_true rfl⟩) (cut_LP_r1 D kc a o4) hP hD hS hA rfl hl.1 rfl (Nat.le_of_ble_eq_true rfl) dX3_alter_50 ⟨Nat.zero_le _, Nat.zero_le _⟩ (fun r8 u9 H locs h hP hD hS => ?_)
      obtain ⟨f7, rfl⟩ : ∃ z, z = u9 := ⟨_, rfl⟩
      obtain ⟨o10, eo10⟩ : ∃ z, z = (va_up o4 1 (va_up (o4 1) 1 f7)) := ⟨_, rfl⟩
      have h := nm_out h o10 eo10
      have hP : va_P D vwCl (cLP kc a o10) H := q_to hP (by subst eo10; rfl)
      have hD : va_D A (cLP kc a o10) := q_toD hD (by subst eo10; rfl)
      exact hret r8 o10 H locs ls _ h hP hD hS dX3_alter_53
    have h := br2 h c6
    by_cases c11 : p2 = 1
    · have h := br1 h c11
      refine lv_tableIn (tgt := 54) hx hb dX3_alter_14 (by rw [c11]; all_goals decide) (by rw [c11]; all_goals decide) (by rw [c11]; all_goals rfl) (by decide) ?_
      refine lv_aload_n hx hb dX3_alter_54 rfl (lv_at hl 0 rfl) ?_
      refine va_get (D := D) (ci := 3) (v := .ref (a 1 0)) (C := RX3) (T := TX3) (N := 10) hx hb hts hi3 hown hK.1 hP 0 rfl rfl 1 (by decide) (hts (.fieldLink RX3 19 "LastPenny" "now" "LLastPenny$World;") (by decide +kernel)) (fun _ h9 => h9) rfl dX3_alter_55 ?_
      refine va_get (D := D) (ci := 2) (v := .ref (a 1 2)) (C := RX2) (T := TX2) (N := 13) hx hb hts hi2 hown hK.1 hP 6 rfl rfl 7 (by decide) (hts (.fieldLink RX3 108 "LastPenny$World" "meansOf" "[I") (by decide +kernel)) (fun _ h9 => h9) rfl dX3_alter_58 ?_
      refine lv_iload_n hx hb dX3_alter_61 rfl (lv_at hl 1 rfl) ?_
      refine lv_iload_n hx hb dX3_alter_62 rfl (lv_at hl 3 rfl) ?_
      refine lv_sipush (v := 999) hx hb dX3_alter_63 (by decide) ?_
      refine q_cSi (As := [.ref (a 1 2), .int p1, .int p3, .int 999]) (rest := []) ⟨hx, hb, hml, hown, hts⟩ hK (c_X3_exchange l D kc (a 1 2) p1 p3 (999 : Int32) (o4 1 2) H.size _ h) (va_cwS 4 hts gX3_alter_X3_exchange rfl rfl rfl (by decide +kernel) ⟨Nat.le_of_ble_eq_true rfl, Nat.le_of_ble_eq_true rfl⟩) (cut_LP_r2 D kc a o4) hP hD hS hA rfl hl.1 rfl (Nat.le_of_ble_eq_true rfl) dX3_alter_66 ⟨Nat.zero_le _, Nat.zero_le _⟩ (fun r13 u14 H locs h hP hD hS => ?_)
      obtain ⟨f12, rfl⟩ : ∃ z, z = u14 := ⟨_, rfl⟩
      obtain ⟨o15, eo15⟩ : ∃ z, z = (va_up o4 1 (va_up (o4 1) 2 f12)) := ⟨_, rfl⟩
      have h := nm_out h o15 eo15
      have hP : va_P D vwCl (cLP kc a o15) H := q_to hP (by subst eo15; rfl)
      have hD : va_D A (cLP kc a o15) := q_toD hD (by subst eo15; rfl)
      exact hret r13 o15 H locs ls _ h hP hD hS dX3_alter_69
    have h := br2 h c11
    by_cases c16 : p2 = 2
    · have h := br1 h c16
      refine lv_tableIn (tgt := 70) hx hb dX3_alter_14 (by rw [c16]; all_goals decide) (by rw [c16]; all_goals decide) (by rw [c16]; all_goals rfl) (by decide) ?_
      refine lv_aload_n hx hb dX3_alter_70 rfl (lv_at hl 0 rfl) ?_
      refine va_get (D := D) (ci := 3) (v := .ref (a 1 0)) (C := RX3) (T := TX3) (N := 10) hx hb hts hi3 hown hK.1 hP 0 rfl rfl 1 (by decide) (hts (.fieldLink RX3 19 "LastPenny" "now" "LLastPenny$World;") (by decide +kernel)) (fun _ h9 => h9) rfl dX3_alter_71 ?_
      refine va_get (D := D) (ci := 2) (v := .ref (a 1 3)) (C := RX2) (T := TX2) (N := 13) hx hb hts hi2 hown hK.1 hP 6 rfl rfl 8 (by decide) (hts (.fieldLink RX3 111 "LastPenny$World" "tradeOf" "[I") (by decide +kernel)) (fun _ h9 => h9) rfl dX3_alter_74 ?_
      refine lv_iload_n hx hb dX3_alter_77 rfl (lv_at hl 1 rfl) ?_
      refine lv_iload_n hx hb dX3_alter_78 rfl (lv_at hl 3 rfl) ?_
      refine lv_bipush (v := 20) hx hb dX3_alter_79 (by decide) ?_
      refine q_cSi (As := [.ref (a 1 3), .int p1, .int p3, .int 20]) (rest := []) ⟨hx, hb, hml, hown, hts⟩ hK (c_X3_exchange l D kc (a 1 3) p1 p3 (20 : Int32) (o4 1 3) H.size _ h) (va_cwS 4 hts gX3_alter_X3_exchange rfl rfl rfl (by decide +kernel) ⟨Nat.le_of_ble_eq_true rfl, Nat.le_of_ble_eq_true rfl⟩) (cut_LP_r3 D kc a o4) hP hD hS hA rfl hl.1 rfl (Nat.le_of_ble_eq_true rfl) dX3_alter_81 ⟨Nat.zero_le _, Nat.zero_le _⟩ (fun r18 u19 H locs h hP hD hS => ?_)
      obtain ⟨f17, rfl⟩ : ∃ z, z = u19 := ⟨_, rfl⟩
      obtain ⟨o20, eo20⟩ : ∃ z, z = (va_up o4 1 (va_up (o4 1) 3 f17)) := ⟨_, rfl⟩
      have h := nm_out h o20 eo20
      have hP : va_P D vwCl (cLP kc a o20) H := q_to hP (by subst eo20; rfl)
      have hD : va_D A (cLP kc a o20) := q_toD hD (by subst eo20; rfl)
      exact hret r18 o20 H locs ls _ h hP hD hS dX3_alter_84
    have h := br2 h c16
    have ht21 := lv_neT (a := 0) c6 (by decide)
    have ht22 := lv_neT (a := 1) c11 (by decide)
    have ht23 := lv_neT (a := 2) c16 (by decide)
    refine lv_tableOut (tgt := 85) hx hb dX3_alter_14 (by omega) (by decide) ?_
    refine lv_iconst (v := -1) hx hb dX3_alter_85 (by decide) ?_
    exact hret (-1) o4 H locs ls _ h hP hD hS dX3_alter_86
  · have h := br1 h c5
    refine lv_iconst (v := -1) hx hb dX3_alter_11 (by decide) ?_
    exact hret (-1) o4 H locs ls _ h hP hD hS dX3_alter_12

def w_X3_slump (p1 : Int32) (o : S3) (K : Int32 → S3 → Prop) : Prop := w_X3_within p1 (0 : Int32) (9 : Int32) (fun r1 => br (r1 = 0) (K (-1) o) (nm ((o 1 0 2) : Int32) (fun x4 => nm ((va_up o 1 (va_up (o 1) 0 (upd ((o 1) 0) 2 p1))) : S3) (fun o5 => K x4 o5))))
abbrev rm_X3_slump : Room := { frames := 1, cells := 0, slots := 0, locals := 22 }
set_option maxHeartbeats 4000000 in
set_option maxRecDepth 100000 in
theorem c_X3_slump (l : Launch) (D : va_G) (kc : Nat → ClassId) (a : Nat → Nat → Nat) (p1 : Int32) (o : S3) (sz : Nat) (K : Int32 → S3 → Prop) (h : w_X3_slump p1 o K) : MetI l yX3_slump wsX3_slump rm_X3_slump D kc (fun u : S3 => cLP kc a u) o [.ref (a 0 0), .int p1] sz (fun r u => K r u) := by
  refine q_ei (code := cX3_slump) (maxL := 3) (by decide) rfl (Nat.le_of_ble_eq_true rfl) ?_
  intro p e s m args below meth c Q A hx hb hml hts hown hK hA hret ls hl hP hD hS
  have hown : s.vm.findClass RX3 = some m.cls := hown
  have hl : lv_has ls 3 [(0, .ref (a 0 0)), (1, .int p1)] := hl
  have hP : va_P D vwCl (cLP kc a o) s.heap := hP
  have hD : va_D A (cLP kc a o) := hD
  have hS : va_S A s.heap s.heap [] := hS
  obtain ⟨H, eH⟩ : ∃ z, z = s.heap := ⟨_, rfl⟩
  obtain ⟨locs, eL⟩ : ∃ z : List Loc, z = [] := ⟨_, rfl⟩
  have hP := q_heap hP eH
  have hS := q_heapS hS eH eL
  refine q_start eH eL ?_
  clear eH eL
  have hi2 : ∀ w ∈ u_ws RX2 TX2 13, w ∈ wsX3_slump := by decide +kernel
  have hi3 : ∀ w ∈ u_ws RX3 TX3 10, w ∈ wsX3_slump := by decide +kernel
  unfold w_X3_slump at h
  refine lv_iload_n hx hb dX3_slump_0 rfl (lv_at hl 1 rfl) ?_
  refine lv_iconst (v := 0) hx hb dX3_slump_1 (by decide) ?_
  refine lv_bipush (v := 9) hx hb dX3_slump_2 (by decide) ?_
  refine q_cSi (As := [.int p1, .int 0, .int 9]) (rest := []) ⟨hx, hb, hml, hown, hts⟩ hK (c_X3_within l D kc p1 (0 : Int32) (9 : Int32) H.size _ h) (va_cwS 3 hts gX3_slump_X3_within rfl rfl rfl (by decide +kernel) ⟨Nat.le_of_ble_eq_true rfl, Nat.le_of_ble_eq_true rfl⟩) (cut_nil _) hP hD hS hA rfl hl.1 rfl (Nat.le_of_ble_eq_true rfl) dX3_slump_4 ⟨Nat.zero_le _, Nat.zero_le _⟩ (fun r1 _ H locs h hP hD hS => ?_)
  have hP : va_P D vwCl (cLP kc a o) H := hP
  have hD : va_D A (cLP kc a o) := hD
  refine lv_if_ne (tgt := 12) hx hb dX3_slump_7 (by decide) (fun c3 => ?_) (fun c3 => ?_)
  · have h := br2 h c3
    refine lv_aload_n hx hb dX3_slump_12 rfl (lv_at hl 0 rfl) ?_
    refine va_get (D := D) (ci := 3) (v := .ref (a 1 0)) (C := RX3) (T := TX3) (N := 10) hx hb hts hi3 hown hK.1 hP 0 rfl rfl 1 (by decide) (hts (.fieldLink RX3 19 "LastPenny" "now" "LLastPenny$World;") (by decide +kernel)) (fun _ h9 => h9) rfl dX3_slump_13 ?_
    refine va_get (D := D) (ci := 2) (v := .int (o 1 0 2)) (C := RX2) (T := TX2) (N := 13) hx hb hts hi2 hown hK.1 hP 6 rfl rfl 2 (by decide) (hts (.fieldLink RX3 86 "LastPenny$World" "slumpNow" "I") (by decide +kernel)) (fun _ h9 => h9) rfl dX3_slump_16 ?_
    refine lv_topi (fun x4 ex4 => ?_)
    have h := nm_out h x4 ex4
    refine lv_istore_n (lv' := [(2, .int x4), (0, .ref (a 0 0)), (1, .int p1)]) hx hb dX3_slump_19 rfl hl (by decide) rfl (fun ls hl => ?_)
    refine lv_aload_n hx hb dX3_slump_20 rfl (lv_at hl 1 rfl) ?_
    refine va_get (D := D) (ci := 3) (v := .ref (a 1 0)) (C := RX3) (T := TX3) (N := 10) hx hb hts hi3 hown hK.1 hP 0 rfl rfl 1 (by decide) (hts (.fieldLink RX3 19 "LastPenny" "now" "LLastPenny$World;") (by decide +kernel)) (fun _ h9 => h9) rfl dX3_slump_21 ?_
    refine lv_iload_n hx hb dX3_slump_24 rfl (lv_at hl 2 rfl) ?_
    refine va_put (D := D) (ci := 2) (v := .int p1) (ty := .int) (C := RX2) (T := TX2) (N := 13) hx hb hts hi2 tyX2 tyX2_ok nmX2 hown hK.1 hP hD hS 6 rfl rfl 2 (by decide) (hts (.fieldLink RX3 86 "LastPenny$World" "slumpNow" "I") (by decide +kernel)) (fun _ h9 => h9) rfl (by decide +kernel) rfl rfl (Nat.le_of_ble_eq_true rfl) dX3_slump_25 (fun H locs hP hD hS => ?_)
    obtain ⟨o5, eo5⟩ : ∃ z, z = (va_up o 1 (va_up (o 1) 0 (upd ((o 1) 0) 2 p1))) := ⟨_, rfl⟩
    have h := nm_out h o5 eo5
    have hP : va_P D vwCl (cLP kc a o5) H := q_to hP (by subst eo5; rfl)
    have hD : va_D A (cLP kc a o5) := q_toD hD (by subst eo5; rfl)
    refine lv_iload_n hx hb dX3_slump_28 rfl (lv_at hl 0 rfl) ?_
    exact hret x4 o5 H locs ls _ h hP hD hS dX3_slump_29
  · have h := br1 h c3
    refine lv_iconst (v := -1) hx hb dX3_slump_10 (by decide) ?_
    exact hret (-1) o H locs ls _ h hP hD hS dX3_slump_11

def w_X3_hand (p1 : Int32) (o : S3) (K : Int32 → S3 → Prop) : Prop := w_X2_has p1 (o 1) (fun r2 w1 => nm ((va_up o 1 w1) : S3) (fun o4 => br (r2 = 0) (K (-1) o4) (nm ((o4 1 0 3) : Int32) (fun x6 => nm ((va_up o4 1 (va_up (o4 1) 0 (upd ((o4 1) 0) 3 p1))) : S3) (fun o7 => K x6 o7)))))
abbrev rm_X3_hand : Room := { frames := 2, cells := 0, slots := 0, locals := 43 }
set_option maxHeartbeats 4000000 in
set_option maxRecDepth 100000 in
theorem c_X3_hand (l : Launch) (D : va_G) (kc : Nat → ClassId) (a : Nat → Nat → Nat) (p1 : Int32) (o : S3) (sz : Nat) (K : Int32 → S3 → Prop) (h : w_X3_hand p1 o K) : MetI l yX3_hand wsX3_hand rm_X3_hand D kc (fun u : S3 => cLP kc a u) o [.ref (a 0 0), .int p1] sz (fun r u => K r u) := by
  refine q_ei (code := cX3_hand) (maxL := 3) (by decide) rfl (Nat.le_of_ble_eq_true rfl) ?_
  intro p e s m args below meth c Q A hx hb hml hts hown hK hA hret ls hl hP hD hS
  have hown : s.vm.findClass RX3 = some m.cls := hown
  have hl : lv_has ls 3 [(0, .ref (a 0 0)), (1, .int p1)] := hl
  have hP : va_P D vwCl (cLP kc a o) s.heap := hP
  have hD : va_D A (cLP kc a o) := hD
  have hS : va_S A s.heap s.heap [] := hS
  obtain ⟨H, eH⟩ : ∃ z, z = s.heap := ⟨_, rfl⟩
  obtain ⟨locs, eL⟩ : ∃ z : List Loc, z = [] := ⟨_, rfl⟩
  have hP := q_heap hP eH
  have hS := q_heapS hS eH eL
  refine q_start eH eL ?_
  clear eH eL
  have hi2 : ∀ w ∈ u_ws RX2 TX2 13, w ∈ wsX3_hand := by decide +kernel
  have hi3 : ∀ w ∈ u_ws RX3 TX3 10, w ∈ wsX3_hand := by decide +kernel
  unfold w_X3_hand at h
  refine lv_aload_n hx hb dX3_hand_0 rfl (lv_at hl 0 rfl) ?_
  refine va_get (D := D) (ci := 3) (v := .ref (a 1 0)) (C := RX3) (T := TX3) (N := 10) hx hb hts hi3 hown hK.1 hP 0 rfl rfl 1 (by decide) (hts (.fieldLink RX3 19 "LastPenny" "now" "LLastPenny$World;") (by decide +kernel)) (fun _ h9 => h9) rfl dX3_hand_1 ?_
  refine lv_iload_n hx hb dX3_hand_4 rfl (lv_at hl 1 rfl) ?_
  refine q_cVi (As := [.int p1]) (rest := []) ⟨hx, hb, hml, hown, hts⟩ hK (c_X2_has l D kc (a 1) p1 (o 1) H.size _ h) (cwV 1 hts gX3_hand_X2_has rfl rfl rfl (by decide +kernel) ⟨Nat.le_of_ble_eq_true rfl, Nat.le_of_ble_eq_true rfl⟩) (cut_LP_1 D kc a o) hP hD hS hA 2 0 rfl rfl rfl hl.1 rfl (Nat.le_of_ble_eq_true rfl) dX3_hand_5 ⟨Nat.zero_le _, Nat.zero_le _⟩ (fun r2 u3 H locs h hP hD hS => ?_)
  obtain ⟨w1, rfl⟩ : ∃ z, z = u3 := ⟨_, rfl⟩
  obtain ⟨o4, eo4⟩ : ∃ z, z = (va_up o 1 w1) := ⟨_, rfl⟩
  have h := nm_out h o4 eo4
  have hP : va_P D vwCl (cLP kc a o4) H := q_to hP (by subst eo4; rfl)
  have hD : va_D A (cLP kc a o4) := q_toD hD (by subst eo4; rfl)
  refine lv_if_ne (tgt := 13) hx hb dX3_hand_8 (by decide) (fun c5 => ?_) (fun c5 => ?_)
  · have h := br2 h c5
    refine lv_aload_n hx hb dX3_hand_13 rfl (lv_at hl 0 rfl) ?_
    refine va_get (D := D) (ci := 3) (v := .ref (a 1 0)) (C := RX3) (T := TX3) (N := 10) hx hb hts hi3 hown hK.1 hP 0 rfl rfl 1 (by decide) (hts (.fieldLink RX3 19 "LastPenny" "now" "LLastPenny$World;") (by decide +kernel)) (fun _ h9 => h9) rfl dX3_hand_14 ?_
    refine va_get (D := D) (ci := 2) (v := .int (o4 1 0 3)) (C := RX2) (T := TX2) (N := 13) hx hb hts hi2 hown hK.1 hP 6 rfl rfl 3 (by decide) (hts (.fieldLink RX3 128 "LastPenny$World" "holder" "I") (by decide +kernel)) (fun _ h9 => h9) rfl dX3_hand_17 ?_
    refine lv_topi (fun x6 ex6 => ?_)
    have h := nm_out h x6 ex6
    refine lv_istore_n (lv' := [(2, .int x6), (0, .ref (a 0 0)), (1, .int p1)]) hx hb dX3_hand_20 rfl hl (by decide) rfl (fun ls hl => ?_)
    refine lv_aload_n hx hb dX3_hand_21 rfl (lv_at hl 1 rfl) ?_
    refine va_get (D := D) (ci := 3) (v := .ref (a 1 0)) (C := RX3) (T := TX3) (N := 10) hx hb hts hi3 hown hK.1 hP 0 rfl rfl 1 (by decide) (hts (.fieldLink RX3 19 "LastPenny" "now" "LLastPenny$World;") (by decide +kernel)) (fun _ h9 => h9) rfl dX3_hand_22 ?_
    refine lv_iload_n hx hb dX3_hand_25 rfl (lv_at hl 2 rfl) ?_
    refine va_put (D := D) (ci := 2) (v := .int p1) (ty := .int) (C := RX2) (T := TX2) (N := 13) hx hb hts hi2 tyX2 tyX2_ok nmX2 hown hK.1 hP hD hS 6 rfl rfl 3 (by decide) (hts (.fieldLink RX3 128 "LastPenny$World" "holder" "I") (by decide +kernel)) (fun _ h9 => h9) rfl (by decide +kernel) rfl rfl (Nat.le_of_ble_eq_true rfl) dX3_hand_26 (fun H locs hP hD hS => ?_)
    obtain ⟨o7, eo7⟩ : ∃ z, z = (va_up o4 1 (va_up (o4 1) 0 (upd ((o4 1) 0) 3 p1))) := ⟨_, rfl⟩
    have h := nm_out h o7 eo7
    have hP : va_P D vwCl (cLP kc a o7) H := q_to hP (by subst eo7; rfl)
    have hD : va_D A (cLP kc a o7) := q_toD hD (by subst eo7; rfl)
    refine lv_iload_n hx hb dX3_hand_29 rfl (lv_at hl 0 rfl) ?_
    exact hret x6 o7 H locs ls _ h hP hD hS dX3_hand_30
  · have h := br1 h c5
    refine lv_iconst (v := -1) hx hb dX3_hand_11 (by decide) ?_
    exact hret (-1) o4 H locs ls _ h hP hD hS dX3_hand_12

def w_X3_give (p1 : Int32) (p2 : Int32) (p3 : Int32) (p4 : Int32) (o : S3) (K : Int32 → S3 → Prop) : Prop := w_X2_has p2 (o 1) (fun r2 w1 => nm ((va_up o 1 w1) : S3) (fun o4 => jn (fun (k5 : Int32) (o6 : S3) => w_X3_within p1 (0 : Int32) (20 : Int32) (fun r7 => br (r7 = 0) (K (-1) o6) (br (k5 = 0) (K (-1) o6) (w_X3_within p4 (1 : Int32) (20 : Int32) (fun r11 => br (r11 = 0) (K (-1) o6) (w_X2_addGift p1 p2 p3 p4 (o6 1) (fun r15 w14 => nm ((va_up o6 1 w14) : S3) (fun o17 => br (r15 = 0) (K (-3) o17) (K (o17 1 0 4) o17))))))))) (fun J32 => jn (fun (o19 : S3) => J32 0 o19) (fun J31 => br (r2 = 0) (J31 o4) (w_X2_has p3 (o4 1) (fun r22 w21 => nm ((va_up o4 1 w21) : S3) (fun o24 => br (r22 = 0) (J31 o24) (br (p2 = p3) (J31 o24) (J32 1 o24)))))))))
abbrev rm_X3_give : Room := { frames := 2, cells := 0, slots := 0, locals := 43 }
set_option maxHeartbeats 4000000 in
set_option maxRecDepth 100000 in
theorem c_X3_give (l : Launch) (D : va_G) (kc : Nat → ClassId) (a : Nat → Nat → Nat) (p1 : Int32) (p2 : Int32) (p3 : Int32) (p4 : Int32) (o : S3) (sz : Nat) (K : Int32 → S3 → Prop) (h : w_X3_give p1 p2 p3 p4 o K) : MetI l yX3_give wsX3_give rm_X3_give D kc (fun u : S3 => cLP kc a u) o [.ref (a 0 0), .int p1, .int p2, .int p3, .int p4] sz (fun r u => K r u) := by
  refine q_ei (code := cX3_give) (maxL := 6) (by decide) rfl (Nat.le_of_ble_eq_true rfl) ?_
  intro p e s m args below meth c Q A hx hb hml hts hown hK hA hret ls hl hP hD hS
  have hown : s.vm.findClass RX3 = some m.cls := hown
  have hl : lv_has ls 6 [(0, .ref (a 0 0)), (1, .int p1), (2, .int p2), (3, .int p3), (4, .int p4)] := hl
  have hP : va_P D vwCl (cLP kc a o) s.heap := hP
  have hD : va_D A (cLP kc a o) := hD
  have hS : va_S A s.heap s.heap [] := hS
  obtain ⟨H, eH⟩ : ∃ z, z = s.heap := ⟨_, rfl⟩
  obtain ⟨locs, eL⟩ : ∃ z : List Loc, z = [] := ⟨_, rfl⟩
  have hP := q_heap hP eH
  have hS := q_heapS hS eH eL
  refine q_start eH eL ?_
  clear eH eL
  have hi2 : ∀ w ∈ u_ws RX2 TX2 13, w ∈ wsX3_give := by decide +kernel
  have hi3 : ∀ w ∈ u_ws RX3 TX3 10, w ∈ wsX3_give := by decide +kernel
  unfold w_X3_give at h
  refine lv_aload_n hx hb dX3_give_0 rfl (lv_at hl 0 rfl) ?_
  refine va_get (D := D) (ci := 3) (v := .ref (a 1 0)) (C := RX3) (T := TX3) (N := 10) hx hb hts hi3 hown hK.1 hP 0 rfl rfl 1 (by decide) (hts (.fieldLink RX3 19 "LastPenny" "now" "LLastPenny$World;") (by decide +kernel)) (fun _ h9 => h9) rfl dX3_give_1 ?_
  refine lv_iload_n hx hb dX3_give_4 rfl (lv_at hl 2 rfl) ?_
  refine q_cVi (As := [.int p2]) (rest := []) ⟨hx, hb, hml, hown, hts⟩ hK (c_X2_has l D kc (a 1) p2 (o 1) H.size _ h) (cwV 1 hts gX3_give_X2_has rfl rfl rfl (by decide +kernel) ⟨Nat.le_of_ble_eq_true rfl, Nat.le_of_ble_eq_true rfl⟩) (cut_LP_1 D kc a o) hP hD hS hA 2 0 rfl rfl rfl hl.1 rfl (Nat.le_of_ble_eq_true rfl) dX3_give_5 ⟨Nat.zero_le _, Nat.zero_le _⟩ (fun r2 u3 H locs h hP hD hS => ?_)
  obtain ⟨w1, rfl⟩ : ∃ z, z = u3 := ⟨_, rfl⟩
  obtain ⟨o4, eo4⟩ : ∃ z, z = (va_up o 1 w1) := ⟨_, rfl⟩
  have h := nm_out h o4 eo4
  have hP : va_P D vwCl (cLP kc a o4) H := q_to hP (by subst eo4; rfl)
  have hD : va_D A (cLP kc a o4) := q_toD hD (by subst eo4; rfl)
  refine jn_elim h (fun J32 eJ32 h => ?_)
  have hJ_32 : ∀ (k5 : Int32) (o6 : S3) (ls : Array Slot) (H : Heap) (locs : List Loc), J32 k5 o6 → lv_has ls 6 [(0, .ref (a 0 0)), (1, .int p1), (2, .int p2), (3, .int p3), (4, .int p4)] → va_P D vwCl (cLP kc a o6) H → va_D A (cLP kc a o6) → va_S A s.heap H locs → W p l e rm_X3_give s m args below meth c H locs 0 0 Q (F0 m 32 ls [.int k5]) := by
    intro k5 o6 ls H locs h hl hP hD hS
    subst eJ32
    refine lv_istore (lv' := [(5, .int k5), (0, .ref (a 0 0)), (1, .int p1), (2, .int p2), (3, .int p3), (4, .int p4)]) hx hb dX3_give_32 hl (by decide) rfl (fun ls hl => ?_)
    refine lv_iload_n hx hb dX3_give_34 rfl (lv_at hl 2 rfl) ?_
    refine lv_iconst (v := 0) hx hb dX3_give_35 (by decide) ?_
    refine lv_bipush (v := 20) hx hb dX3_give_36 (by decide) ?_
    refine q_cSi (As := [.int p1, .int 0, .int 20]) (rest := []) ⟨hx, hb, hml, hown, hts⟩ hK (c_X3_within l D kc p1 (0 : Int32) (20 : Int32) H.size _ h) (va_cwS 3 hts gX3_give_X3_within rfl rfl rfl (by decide +kernel) ⟨Nat.le_of_ble_eq_true rfl, Nat.le_of_ble_eq_true rfl⟩) (cut_nil _) hP hD hS hA rfl hl.1 rfl (Nat.le_of_ble_eq_true rfl) dX3_give_38 ⟨Nat.zero_le _, Nat.zero_le _⟩ (fun r7 _ H locs h hP hD hS => ?_)
    have hP : va_P D vwCl (cLP kc a o6) H := hP
    have hD : va_D A (cLP kc a o6) := hD
    refine lv_if_eq (tgt := 60) hx hb dX3_give_41 (by decide) (fun c9 => ?_) (fun c9 => ?_)
    · have h := br1 h c9
      refine lv_iconst (v := -1) hx hb dX3_give_60 (by decide) ?_
      exact hret (-1) o6 H locs ls _ h hP hD hS dX3_give_61
    · have h := br2 h c9
      refine lv_iload hx hb dX3_give_44 (lv_at hl 0 rfl) ?_
      refine lv_if_eq (tgt := 60) hx hb dX3_give_46 (by decide) (fun c10 => ?_) (fun c10 => ?_)
      · have h := br1 h c10
        refine lv_iconst (v := -1) hx hb dX3_give_60 (by decide) ?_
        exact hret (-1) o6 H locs ls _ h hP hD hS dX3_give_61
      · have h := br2 h c10
        refine lv_iload hx hb dX3_give_49 (lv_at hl 5 rfl) ?_
        refine lv_iconst (v := 1) hx hb dX3_give_51 (by decide) ?_
        refine lv_bipush (v := 20) hx hb dX3_give_52 (by decide) ?_
        refine q_cSi (As := [.int p4, .int 1, .int 20]) (rest := []) ⟨hx, hb, hml, hown, hts⟩ hK (c_X3_within l D kc p4 (1 : Int32) (20 : Int32) H.size _ h) (va_cwS 3 hts gX3_give_X3_within rfl rfl rfl (by decide +kernel) ⟨Nat.le_of_ble_eq_true rfl, Nat.le_of_ble_eq_true rfl⟩) (cut_nil _) hP hD hS hA rfl hl.1 rfl (Nat.le_of_ble_eq_true rfl) dX3_give_54 ⟨Nat.zero_le _, Nat.zero_le _⟩ (fun r11 _ H locs h hP hD hS => ?_)
        have hP : va_P D vwCl (cLP kc a o6) H := hP
        have hD : va_D A (cLP kc a o6) := hD
        refine lv_if_ne (tgt := 62) hx hb dX3_give_57 (by decide) (fun c13 => ?_) (fun c13 => ?_)
        · have h := br2 h c13
          refine lv_aload_n hx hb dX3_give_62 rfl (lv_at hl 1 rfl) ?_
          refine va_get (D := D) (ci := 3) (v := .ref (a 1 0)) (C := RX3) (T := TX3) (N := 10) hx hb hts hi3 hown hK.1 hP 0 rfl rfl 1 (by decide) (hts (.fieldLink RX3 19 "LastPenny" "now" "LLastPenny$World;") (by decide +kernel)) (fun _ h9 => h9) rfl dX3_give_63 ?_
          refine lv_iload_n hx hb dX3_give_66 rfl (lv_at hl 2 rfl) ?_
          refine lv_iload_n hx hb dX3_give_67 rfl (lv_at hl 3 rfl) ?_
          refine lv_iload_n hx hb dX3_give_68 rfl (lv_at hl 4 rfl) ?_
          refine lv_iload hx hb dX3_give_69 (lv_at hl 5 rfl) ?_
          refine q_cVi (As := [.int p1, .int p2, .int p3, .int p4]) (rest := []) ⟨hx, hb, hml, hown, hts⟩ hK (c_X2_addGift l D kc (a 1) p1 p2 p3 p4 (o6 1) H.size _ h) (cwV 4 hts gX3_give_X2_addGift rfl rfl rfl (by decide +kernel) ⟨Nat.le_of_ble_eq_true rfl, Nat.le_of_ble_eq_true rfl⟩) (cut_LP_1 D kc a o6) hP hD hS hA 2 0 rfl rfl rfl hl.1 rfl (Nat.le_of_ble_eq_true rfl) dX3_give_71 ⟨Nat.zero_le _, Nat.zero_le _⟩ (fun r15 u16 H locs h hP hD hS => ?_)
          obtain ⟨w14, rfl⟩ : ∃ z, z = u16 := ⟨_, rfl⟩
          obtain ⟨o17, eo17⟩ : ∃ z, z = (va_up o6 1 w14) := ⟨_, rfl⟩
          have h := nm_out h o17 eo17
          have hP : va_P D vwCl (cLP kc a o17) H := q_to hP (by subst eo17; rfl)
          have hD : va_D A (cLP kc a o17) := q_toD hD (by subst eo17; rfl)
          refine lv_if_eq (tgt := 87) hx hb dX3_give_74 (by decide) (fun c18 => ?_) (fun c18 => ?_)
          · have h := br1 h c18
            refine lv_bipush (v := -3) hx hb dX3_give_87 (by decide) ?_
            exact hret (-3) o17 H locs ls _ h hP hD hS dX3_give_89
          · have h := br2 h c18
            refine lv_aload_n hx hb dX3_give_77 rfl (lv_at hl 1 rfl) ?_
            refine va_get (D := D) (ci := 3) (v := .ref (a 1 0)) (C := RX3) (T := TX3) (N := 10) hx hb hts hi3 hown hK.1 hP 0 rfl rfl 1 (by decide) (hts (.fieldLink RX3 19 "LastPenny" "now" "LLastPenny$World;") (by decide +kernel)) (fun _ h9 => h9) rfl dX3_give_78 ?_
            refine va_get (D := D) (ci := 2) (v := .int (o17 1 0 4)) (C := RX2) (T := TX2) (N := 13) hx hb hts hi2 hown hK.1 hP 6 rfl rfl 4 (by decide) (hts (.fieldLink RX3 99 "LastPenny$World" "gifts" "I") (by decide +kernel)) (fun _ h9 => h9) rfl dX3_give_81 ?_
            refine lv_goto (tgt := 89) hx hb dX3_give_84 (by decide) ?_
            exact hret (o17 1 0 4) o17 H locs ls _ h hP hD hS dX3_give_89
        · have h := br1 h c13
          refine lv_iconst (v := -1) hx hb dX3_give_60 (by decide) ?_
          exact hret (-1) o6 H locs ls _ h hP hD hS dX3_give_61
  refine jn_elim h (fun J31 eJ31 h => ?_)
  have hJ_31 : ∀ (o19 : S3) (ls : Array Slot) (H : Heap) (locs : List Loc), J31 o19 → lv_has ls 6 [(0, .ref (a 0 0)), (1, .int p1), (2, .int p2), (3, .int p3), (4, .int p4)] → va_P D vwCl (cLP kc a o19) H → va_D A (cLP kc a o19) → va_S A s.heap H locs → W p l e rm_X3_give s m args below meth c H locs 0 0 Q (F0 m 31 ls []) := by
    intro o19 ls H locs h hl hP hD hS
    subst eJ31
    refine lv_iconst (v := 0) hx hb dX3_give_31 (by decide) ?_
    exact hJ_32 0 o19 ls H locs h (lv_sub hl [0, 1, 2, 3, 4] rfl) hP hD hS
  refine lv_if_eq (tgt := 31) hx hb dX3_give_8 (by decide) (fun c20 => ?_) (fun c20 => ?_)
  · have h := br1 h c20
    exact hJ_31 o4 ls H locs h (lv_sub hl [0, 1, 2, 3, 4] rfl) hP hD hS
  · have h := br2 h c20
    refine lv_aload_n hx hb dX3_give_11 rfl (lv_at hl 0 rfl) ?_
    refine va_get (D := D) (ci := 3) (v := .ref (a 1 0)) (C := RX3) (T := TX3) (N := 10) hx hb hts hi3 hown hK.1 hP 0 rfl rfl 1 (by decide) (hts (.fieldLink RX3 19 "LastPenny" "now" "LLastPenny$World;") (by decide +kernel)) (fun _ h9 => h9) rfl dX3_give_12 ?_
    refine lv_iload_n hx hb dX3_give_15 rfl (lv_at hl 3 rfl) ?_
    refine q_cVi (As := [.int p3]) (rest := []) ⟨hx, hb, hml, hown, hts⟩ hK (c_X2_has l D kc (a 1) p3 (o4 1) H.size _ h) (cwV 1 hts gX3_give_X2_has rfl rfl rfl (by decide +kernel) ⟨Nat.le_of_ble_eq_true rfl, Nat.le_of_ble_eq_true rfl⟩) (cut_LP_1 D kc a o4) hP hD hS hA 2 0 rfl rfl rfl hl.1 rfl (Nat.le_of_ble_eq_true rfl) dX3_give_16 ⟨Nat.zero_le _, Nat.zero_le _⟩ (fun r22 u23 H locs h hP hD hS => ?_)
    obtain ⟨w21, rfl⟩ : ∃ z, z = u23 := ⟨_, rfl⟩
    obtain ⟨o24, eo24⟩ : ∃ z, z = (va_up o4 1 w21) := ⟨_, rfl⟩
    have h := nm_out h o24 eo24
    have hP : va_P D vwCl (cLP kc a o24) H := q_to hP (by subst eo24; rfl)
    have hD : va_D A (cLP kc a o24) := q_toD hD (by subst eo24; rfl)
    refine lv_if_eq (tgt := 31) hx hb dX3_give_19 (by decide) (fun c25 => ?_) (fun c25 => ?_)
    · have h := br1 h c25
      exact hJ_31 o24 ls H locs h (lv_sub hl [0, 1, 2, 3, 4] rfl) hP hD hS
    · have h := br2 h c25
      refine lv_iload_n hx hb dX3_give_22 rfl (lv_at hl 2 rfl) ?_
      refine lv_iload_n hx hb dX3_give_23 rfl (lv_at hl 3 rfl) ?_
      refine lv_icmp_eq (tgt := 31) hx hb dX3_give_24 (by decide) (fun c26 => ?_) (fun c26 => ?_)
      · have h := br1 h c26
        exact hJ_31 o24 ls H locs h (lv_sub hl [0, 1, 2, 3, 4] rfl) hP hD hS
      · have h := br2 h c26
        refine lv_iconst (v := 1) hx hb dX3_give_27 (by decide) ?_
        refine lv_goto (tgt := 32) hx hb dX3_give_28 (by decide) ?_
        exact hJ_32 1 o24 ls H locs h (lv_sub hl [0, 1, 2, 3, 4] rfl) hP hD hS

