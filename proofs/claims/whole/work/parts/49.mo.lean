def w_X4_isOdds (p1 : Int32) (p2 : Int32) (p3 : Int32) (p4 : Int32) (mo : S2) (lo : SL) (K : Int32 → S2 → SL → Prop) : Prop := w_X4_in (p1.toInt64) (0 : Int64) (10 : Int64) (fun r1 => br (r1 = 0) (K 0 mo lo) (w_X4_isOne p2 mo lo (fun r6 mo4 lo5 => br (r6 = 0) (K 0 mo4 lo5) (w_X4_in (p3.toInt64) (0 : Int64) (8 : Int64) (fun r9 => br (r9 = 0) (K 0 mo4 lo5) (w_X4_isPart p4 (fun r12 => br (r12 = 0) (K 0 mo4 lo5) (K 1 mo4 lo5))))))))
abbrev rm_X4_isOdds : Room := { frames := 2, cells := 0, slots := 0, locals := 46 }
set_option maxHeartbeats 4000000 in
set_option maxRecDepth 100000 in
theorem c_X4_isOdds (l : Launch) (D : va_G) (kc : Nat → ClassId) (a : Nat → Nat) (p1 : Int32) (p2 : Int32) (p3 : Int32) (p4 : Int32) (mo : S2) (lo : SL) (sz : Nat) (K : Int32 → S2 → SL → Prop) (h : w_X4_isOdds p1 p2 p3 p4 mo lo K) : MetI l yX4_isOdds wsX4_isOdds rm_X4_isOdds D kc (fun u : S2 × SL => cM kc a u.1 u.2) (mo, lo) [.ref (a 0), .int p1, .int p2, .int p3, .int p4] sz (fun r u => K r u.1 u.2) := by
  refine q_ez (code := cX4_isOdds) (maxL := 5) (by decide) rfl (Nat.le_of_ble_eq_true rfl) ?_
  intro p e s m args below meth c Q A hx hb hml hts hown hK hA hret ls hl hP hD hS
  have hown : s.vm.findClass RX4 = some m.cls := hown
  have hl : lv_has ls 5 [(0, .ref (a 0)), (1, .int p1), (2, .int p2), (3, .int p3), (4, .int p4)] := hl
  have hP : va_P D vwCl (cM kc a mo lo) s.heap := hP
  have hD : va_D A (cM kc a mo lo) := hD
  have hS : va_S A s.heap s.heap [] := hS
  obtain ⟨H, eH⟩ : ∃ z, z = s.heap := ⟨_, rfl⟩
  obtain ⟨locs, eL⟩ : ∃ z : List Loc, z = [] := ⟨_, rfl⟩
  have hP := q_heap hP eH
  have hS := q_heapS hS eH eL
  refine q_start eH eL ?_
  clear eH eL
  unfold w_X4_isOdds at h
  refine lv_iload_n hx hb dX4_isOdds_0 rfl (lv_at hl 1 rfl) ?_
  refine lv_i2l hx hb dX4_isOdds_1 rfl ?_
  refine lv_lconst (v := 0) hx hb dX4_isOdds_2 (by decide) ?_
  refine lv_ldc2 (v := 10) hx hb hown (hts (.constantLong RX4 257 (10)) (by decide +kernel)) dX4_isOdds_3 ?_
  refine q_cSi (As := [.long (p1.toInt64), .long 0, .long 10]) (rest := []) ⟨hx, hb, hml, hown, hts⟩ hK (c_X4_in l D kc (p1.toInt64) (0 : Int64) (10 : Int64) H.size _ h) (va_cwS 3 hts gX4_isOdds_X4_in rfl rfl rfl (by decide +kernel) ⟨Nat.le_of_ble_eq_true rfl, Nat.le_of_ble_eq_true rfl⟩) (cut_nil _) hP hD hS hA rfl hl.1 rfl (Nat.le_of_ble_eq_true rfl) dX4_isOdds_6 ⟨Nat.zero_le _, Nat.zero_le _⟩ (fun r1 _ H locs h hP hD hS => ?_)
  have hP : va_P D vwCl (cM kc a mo lo) H := hP
  have hD : va_D A (cM kc a mo lo) := hD
  refine lv_if_eq (tgt := 44) hx hb dX4_isOdds_9 (by decide) (fun c3 => ?_) (fun c3 => ?_)
  · have h := br1 h c3
    refine lv_iconst (v := 0) hx hb dX4_isOdds_44 (by decide) ?_
    exact hret 0 (mo, lo) H locs ls _ rfl h hP hD hS dX4_isOdds_45
  · have h := br2 h c3
    refine lv_aload_n hx hb dX4_isOdds_12 rfl (lv_at hl 0 rfl) ?_
    refine lv_iload_n hx hb dX4_isOdds_13 rfl (lv_at hl 2 rfl) ?_
    refine q_cVi (As := [.int p2]) (rest := []) ⟨hx, hb, hml, hown, hts⟩ hK (c_X4_isOne l D kc a p2 mo lo H.size _ h) (cwV 1 hts gX4_isOdds_X4_isOne rfl rfl rfl (by decide +kernel) ⟨Nat.le_of_ble_eq_true rfl, Nat.le_of_ble_eq_true rfl⟩) (cut_same (fun u : S2 × SL => cM kc a u.1 u.2) (mo, lo)) hP hD hS hA 4 0 rfl rfl rfl hl.1 rfl (Nat.le_of_ble_eq_true rfl) dX4_isOdds_14 ⟨Nat.zero_le _, Nat.zero_le _⟩ (fun r6 u7 H locs h hP hD hS => ?_)
    obtain ⟨mo4, lo5⟩ := u7
    have hP : va_P D vwCl (cM kc a mo4 lo5) H := hP
    have hD : va_D A (cM kc a mo4 lo5) := hD
    refine lv_if_eq (tgt := 44) hx hb dX4_isOdds_17 (by decide) (fun c8 => ?_) (fun c8 => ?_)
    · have h := br1 h c8
      refine lv_iconst (v := 0) hx hb dX4_isOdds_44 (by decide) ?_
      exact hret 0 (mo4, lo5) H locs ls _ rfl h hP hD hS dX4_isOdds_45
    · have h := br2 h c8
      refine lv_iload_n hx hb dX4_isOdds_20 rfl (lv_at hl 3 rfl) ?_
      refine lv_i2l hx hb dX4_isOdds_21 rfl ?_
      refine lv_lconst (v := 0) hx hb dX4_isOdds_22 (by decide) ?_
      refine lv_ldc2 (v := 8) hx hb hown (hts (.constantLong RX4 259 (8)) (by decide +kernel)) dX4_isOdds_23 ?_
      refine q_cSi (As := [.long (p3.toInt64), .long 0, .long 8]) (rest := []) ⟨hx, hb, hml, hown, hts⟩ hK (c_X4_in l D kc (p3.toInt64) (0 : Int64) (8 : Int64) H.size _ h) (va_cwS 3 hts gX4_isOdds_X4_in rfl rfl rfl (by decide +kernel) ⟨Nat.le_of_ble_eq_true rfl, Nat.le_of_ble_eq_true rfl⟩) (cut_nil _) hP hD hS hA rfl hl.1 rfl (Nat.le_of_ble_eq_true rfl) dX4_isOdds_26 ⟨Nat.zero_le _, Nat.zero_le _⟩ (fun r9 _ H locs h hP hD hS => ?_)
      have hP : va_P D vwCl (cM kc a mo4 lo5) H := hP
      have hD : va_D A (cM kc a mo4 lo5) := hD
      refine lv_if_eq (tgt := 44) hx hb dX4_isOdds_29 (by decide) (fun c11 => ?_) (fun c11 => ?_)
      · have h := br1 h c11
        refine lv_iconst (v := 0) hx hb dX4_isOdds_44 (by decide) ?_
        exact hret 0 (mo4, lo5) H locs ls _ rfl h hP hD hS dX4_isOdds_45
      · have h := br2 h c11
        refine lv_iload hx hb dX4_isOdds_32 (lv_at hl 4 rfl) ?_
        refine q_cSi (As := [.int p4]) (rest := []) ⟨hx, hb, hml, hown, hts⟩ hK (c_X4_isPart l D kc p4 H.size _ h) (va_cwS 1 hts gX4_isOdds_X4_isPart rfl rfl rfl (by decide +kernel) ⟨Nat.le_of_ble_eq_true rfl, Nat.le_of_ble_eq_true rfl⟩) (cut_nil _) hP hD hS hA rfl hl.1 rfl (Nat.le_of_ble_eq_true rfl) dX4_isOdds_34 ⟨Nat.zero_le _, Nat.zero_le _⟩ (fun r12 _ H locs h hP hD hS => ?_)
        have hP : va_P D vwCl (cM kc a mo4 lo5) H := hP
        have hD : va_D A (cM kc a mo4 lo5) := hD
        refine lv_if_eq (tgt := 44) hx hb dX4_isOdds_37 (by decide) (fun c14 => ?_) (fun c14 => ?_)
        · have h := br1 h c14
          refine lv_iconst (v := 0) hx hb dX4_isOdds_44 (by decide) ?_
          exact hret 0 (mo4, lo5) H locs ls _ rfl h hP hD hS dX4_isOdds_45
        · have h := br2 h c14
          refine lv_iconst (v := 1) hx hb dX4_isOdds_40 (by decide) ?_
          refine lv_goto (tgt := 45) hx hb dX4_isOdds_41 (by decide) ?_
          exact hret 1 (mo4, lo5) H locs ls _ rfl h hP hD hS dX4_isOdds_45

def w_X4_luck (p1 : Int32) (p2 : Int32) (p3 : Int32) (p4 : Int32) (mo : S2) (lo : SL) (K : Int64 → S2 → SL → Prop) : Prop := w_X4_isOdds p1 p2 p3 p4 mo lo (fun r3 mo1 lo2 => br (r3 = 0) (K (-1) mo1 lo2) (w_X4_findOdds p1 p2 p3 mo1 lo2 (fun mo6 lo7 => w_X4_told (lo7 19) (lo7 21) p4 (fun r9 => K r9 mo6 lo7))))
abbrev rm_X4_luck : Room := { frames := 5, cells := 0, slots := 0, locals := 116 }
set_option maxHeartbeats 4000000 in
set_option maxRecDepth 100000 in
theorem c_X4_luck (l : Launch) (D : va_G) (kc : Nat → ClassId) (a : Nat → Nat) (p1 : Int32) (p2 : Int32) (p3 : Int32) (p4 : Int32) (mo : S2) (lo : SL) (sz : Nat) (K : Int64 → S2 → SL → Prop) (h : w_X4_luck p1 p2 p3 p4 mo lo K) : MetL l yX4_luck wsX4_luck rm_X4_luck D kc (fun u : S2 × SL => cM kc a u.1 u.2) (mo, lo) [.ref (a 0), .int p1, .int p2, .int p3, .int p4] sz (fun r u => K r u.1 u.2) := by
  refine q_el (code := cX4_luck) (maxL := 5) (by decide) rfl (Nat.le_of_ble_eq_true rfl) ?_
  intro p e s m args below meth c Q A hx hb hml hts hown hK hA hret ls hl hP hD hS
  have hown : s.vm.findClass RX4 = some m.cls := hown
  have hl : lv_has ls 5 [(0, .ref (a 0)), (1, .int p1), (2, .int p2), (3, .int p3), (4, .int p4)] := hl
  have hP : va_P D vwCl (cM kc a mo lo) s.heap := hP
  have hD : va_D A (cM kc a mo lo) := hD
  have hS : va_S A s.heap s.heap [] := hS
  obtain ⟨H, eH⟩ : ∃ z, z = s.heap := ⟨_, rfl⟩
  obtain ⟨locs, eL⟩ : ∃ z : List Loc, z = [] := ⟨_, rfl⟩
  have hP := q_heap hP eH
  have hS := q_heapS hS eH eL
  refine q_start eH eL ?_
  clear eH eL
  have hi4 : ∀ w ∈ u_ws RX4 TX4 29, w ∈ wsX4_luck := by decide +kernel
  unfold w_X4_luck at h
  refine lv_aload_n hx hb dX4_luck_0 rfl (lv_at hl 0 rfl) ?_
  refine lv_iload_n hx hb dX4_luck_1 rfl (lv_at hl 1 rfl) ?_
  refine lv_iload_n hx hb dX4_luck_2 rfl (lv_at hl 2 rfl) ?_
  refine lv_iload_n hx hb dX4_luck_3 rfl (lv_at hl 3 rfl) ?_
  refine lv_iload hx hb dX4_luck_4 (lv_at hl 4 rfl) ?_
  refine q_cVi (As := [.int p1, .int p2, .int p3, .int p4]) (rest := []) ⟨hx, hb, hml, hown, hts⟩ hK (c_X4_isOdds l D kc a p1 p2 p3 p4 mo lo H.size _ h) (cwV 4 hts gX4_luck_X4_isOdds rfl rfl rfl (by decide +kernel) ⟨Nat.le_of_ble_eq_true rfl, Nat.le_of_ble_eq_true rfl⟩) (cut_same (fun u : S2 × SL => cM kc a u.1 u.2) (mo, lo)) hP hD hS hA 4 0 rfl rfl rfl hl.1 rfl (Nat.le_of_ble_eq_true rfl) dX4_luck_6 ⟨Nat.zero_le _, Nat.zero_le _⟩ (fun r3 u4 H locs h hP hD hS => ?_)
  obtain ⟨mo1, lo2⟩ := u4
  have hP : va_P D vwCl (cM kc a mo1 lo2) H := hP
  have hD : va_D A (cM kc a mo1 lo2) := hD
  refine lv_if_ne (tgt := 16) hx hb dX4_luck_9 (by decide) (fun c5 => ?_) (fun c5 => ?_)
  · have h := br2 h c5
    refine lv_aload_n hx hb dX4_luck_16 rfl (lv_at hl 0 rfl) ?_
    refine lv_iload_n hx hb dX4_luck_17 rfl (lv_at hl 1 rfl) ?_
    refine lv_iload_n hx hb dX4_luck_18 rfl (lv_at hl 2 rfl) ?_
    refine lv_iload_n hx hb dX4_luck_19 rfl (lv_at hl 3 rfl) ?_
    refine q_cVv (As := [.int p1, .int p2, .int p3]) (rest := []) ⟨hx, hb, hml, hown, hts⟩ hK (c_X4_findOdds l D kc a p1 p2 p3 mo1 lo2 H.size _ h) (cwV 3 hts gX4_luck_X4_findOdds rfl rfl rfl (by decide +kernel) ⟨Nat.le_of_ble_eq_true rfl, Nat.le_of_ble_eq_true rfl⟩) (cut_same (fun u : S2 × SL => cM kc a u.1 u.2) (mo1, lo2)) hP hD hS hA 4 0 rfl rfl rfl hl.1 rfl (Nat.le_of_ble_eq_true rfl) dX4_luck_20 ⟨Nat.zero_le _, Nat.zero_le _⟩ (fun u8 H locs h hP hD hS => ?_)
    obtain ⟨mo6, lo7⟩ := u8
    have hP : va_P D vwCl (cM kc a mo6 lo7) H := hP
    have hD : va_D A (cM kc a mo6 lo7) := hD
    refine lv_aload_n hx hb dX4_luck_23 rfl (lv_at hl 0 rfl) ?_
    refine va_get (D := D) (ci := 4) (v := .long (lo7 19)) (C := RX4) (T := TX4) (N := 29) hx hb hts hi4 hown hK.1 hP 0 rfl rfl 19 (by decide) (hts (.fieldLink RX4 247 "LastPennyModel" "coinSum" "J") (by decide +kernel)) (fun _ h9 => h9) rfl dX4_luck_24 ?_
    refine lv_aload_n hx hb dX4_luck_27 rfl (lv_at hl 0 rfl) ?_
    refine va_get (D := D) (ci := 4) (v := .long (lo7 21)) (C := RX4) (T := TX4) (N := 29) hx hb hts hi4 hown hK.1 hP 0 rfl rfl 21 (by decide) (hts (.fieldLink RX4 254 "LastPennyModel" "allWays" "J") (by decide +kernel)) (fun _ h9 => h9) rfl dX4_luck_28 ?_
    refine lv_iload hx hb dX4_luck_31 (lv_at hl 4 rfl) ?_
    refine q_cSl (As := [.long (lo7 19), .long (lo7 21), .int p4]) (rest := []) ⟨hx, hb, hml, hown, hts⟩ hK (c_X4_told l D kc (lo7 19) (lo7 21) p4 H.size _ h) (va_cwS 3 hts gX4_luck_X4_told rfl rfl rfl (by decide +kernel) ⟨Nat.le_of_ble_eq_true rfl, Nat.le_of_ble_eq_true rfl⟩) (cut_nil _) hP hD hS hA rfl hl.1 rfl (Nat.le_of_ble_eq_true rfl) dX4_luck_33 ⟨Nat.zero_le _, Nat.zero_le _⟩ (fun r9 _ H locs h hP hD hS => ?_)
    have hP : va_P D vwCl (cM kc a mo6 lo7) H := hP
    have hD : va_D A (cM kc a mo6 lo7) := hD
    exact hret r9 (mo6, lo7) H locs ls _ h hP hD hS dX4_luck_36
  · have h := br1 h c5
    refine lv_ldc2 (v := -1) hx hb hown (hts (.constantLong RX4 235 (-1)) (by decide +kernel)) dX4_luck_12 ?_
    exact hret (-1) (mo1, lo2) H locs ls _ h hP hD hS dX4_luck_15

def w_X4_mean (p1 : Int32) (p2 : Int32) (p3 : Int32) (p4 : Int32) (mo : S2) (lo : SL) (K : Int64 → S2 → SL → Prop) : Prop := w_X4_isOdds p1 p2 p3 p4 mo lo (fun r3 mo1 lo2 => br (r3 = 0) (K (-1) mo1 lo2) (w_X4_findOdds p1 p2 p3 mo1 lo2 (fun mo6 lo7 => w_X4_told (lo7 20) (lo7 21) p4 (fun r9 => K r9 mo6 lo7))))
abbrev rm_X4_mean : Room := { frames := 5, cells := 0, slots := 0, locals := 116 }
set_option maxHeartbeats 4000000 in
set_option maxRecDepth 100000 in
theorem c_X4_mean (l : Launch) (D : va_G) (kc : Nat → ClassId) (a : Nat → Nat) (p1 : Int32) (p2 : Int32) (p3 : Int32) (p4 : Int32) (mo : S2) (lo : SL) (sz : Nat) (K : Int64 → S2 → SL → Prop) (h : w_X4_mean p1 p2 p3 p4 mo lo K) : MetL l yX4_mean wsX4_mean rm_X4_mean D kc (fun u : S2 × SL => cM kc a u.1 u.2) (mo, lo) [.ref (a 0), .int p1, .int p2, .int p3, .int p4] sz (fun r u => K r u.1 u.2) := by
  refine q_el (code := cX4_mean) (maxL := 5) (by decide) rfl (Nat.le_of_ble_eq_true rfl) ?_
  intro p e s m args below meth c Q A hx hb hml hts hown hK hA hret ls hl hP hD hS
  have hown : s.vm.findClass RX4 = some m.cls := hown
  have hl : lv_has ls 5 [(0, .ref (a 0)), (1, .int p1), (2, .int p2), (3, .int p3), (4, .int p4)] := hl
  have hP : va_P D vwCl (cM kc a mo lo) s.heap := hP
  have hD : va_D A (cM kc a mo lo) := hD
  have hS : va_S A s.heap s.heap [] := hS
  obtain ⟨H, eH⟩ : ∃ z, z = s.heap := ⟨_, rfl⟩
  obtain ⟨locs, eL⟩ : ∃ z : List Loc, z = [] := ⟨_, rfl⟩
  have hP := q_heap hP eH
  have hS := q_heapS hS eH eL
  refine q_start eH eL ?_
  clear eH eL
  have hi4 : ∀ w ∈ u_ws RX4 TX4 29, w ∈ wsX4_mean := by decide +kernel
  unfold w_X4_mean at h
  refine lv_aload_n hx hb dX4_mean_0 rfl (lv_at hl 0 rfl) ?_
  refine lv_iload_n hx hb dX4_mean_1 rfl (lv_at hl 1 rfl) ?_
  refine lv_iload_n hx hb dX4_mean_2 rfl (lv_at hl 2 rfl) ?_
  refine lv_iload_n hx hb dX4_mean_3 rfl (lv_at hl 3 rfl) ?_
  refine lv_iload hx hb dX4_mean_4 (lv_at hl 4 rfl) ?_
  refine q_cVi (As := [.int p1, .int p2, .int p3, .int p4]) (rest := []) ⟨hx, hb, hml, hown, hts⟩ hK (c_X4_isOdds l D kc a p1 p2 p3 p4 mo lo H.size _ h) (cwV 4 hts gX4_mean_X4_isOdds rfl rfl rfl (by decide +kernel) ⟨Nat.le_of_ble_eq_true rfl, Nat.le_of_ble_eq_true rfl⟩) (cut_same (fun u : S2 × SL => cM kc a u.1 u.2) (mo, lo)) hP hD hS hA 4 0 rfl rfl rfl hl.1 rfl (Nat.le_of_ble_eq_true rfl) dX4_mean_6 ⟨Nat.zero_le _, Nat.zero_le _⟩ (fun r3 u4 H locs h hP hD hS => ?_)
  obtain ⟨mo1, lo2⟩ := u4
  have hP : va_P D vwCl (cM kc a mo1 lo2) H := hP
  have hD : va_D A (cM kc a mo1 lo2) := hD
  refine lv_if_ne (tgt := 16) hx hb dX4_mean_9 (by decide) (fun c5 => ?_) (fun c5 => ?_)
  · have h := br2 h c5
    refine lv_aload_n hx hb dX4_mean_16 rfl (lv_at hl 0 rfl) ?_
    refine lv_iload_n hx hb dX4_mean_17 rfl (lv_at hl 1 rfl) ?_
    refine lv_iload_n hx hb dX4_mean_18 rfl (lv_at hl 2 rfl) ?_
    refine lv_iload_n hx hb dX4_mean_19 rfl (lv_at hl 3 rfl) ?_
    refine q_cVv (As := [.int p1, .int p2, .int p3]) (rest := []) ⟨hx, hb, hml, hown, hts⟩ hK (c_X4_findOdds l D kc a p1 p2 p3 mo1 lo2 H.size _ h) (cwV 3 hts gX4_mean_X4_findOdds rfl rfl rfl (by decide +kernel) ⟨Nat.le_of_ble_eq_true rfl, Nat.le_of_ble_eq_true rfl⟩) (cut_same (fun u : S2 × SL => cM kc a u.1 u.2) (mo1, lo2)) hP hD hS hA 4 0 rfl rfl rfl hl.1 rfl (Nat.le_of_ble_eq_true rfl) dX4_mean_20 ⟨Nat.zero_le _, Nat.zero_le _⟩ (fun u8 H locs h hP hD hS => ?_)
    obtain ⟨mo6, lo7⟩ := u8
    have hP : va_P D vwCl (cM kc a mo6 lo7) H := hP
    have hD : va_D A (cM kc a mo6 lo7) := hD
    refine lv_aload_n hx hb dX4_mean_23 rfl (lv_at hl 0 rfl) ?_
    refine va_get (D := D) (ci := 4) (v := .long (lo7 20)) (C := RX4) (T := TX4) (N := 29) hx hb hts hi4 hown hK.1 hP 0 rfl rfl 20 (by decide) (hts (.fieldLink RX4 251 "LastPennyModel" "meansSum" "J") (by decide +kernel)) (fun _ h9 => h9) rfl dX4_mean_24 ?_
    refine lv_aload_n hx hb dX4_mean_27 rfl (lv_at hl 0 rfl) ?_
    refine va_get (D := D) (ci := 4) (v := .long (lo7 21)) (C := RX4) (T := TX4) (N := 29) hx hb hts hi4 hown hK.1 hP 0 rfl rfl 21 (by decide) (hts (.fieldLink RX4 254 "LastPennyModel" "allWays" "J") (by decide +kernel)) (fun _ h9 => h9) rfl dX4_mean_28 ?_
    refine lv_iload hx hb dX4_mean_31 (lv_at hl 4 rfl) ?_
    refine q_cSl (As := [.long (lo7 20), .long (lo7 21), .int p4]) (rest := []) ⟨hx, hb, hml, hown, hts⟩ hK (c_X4_told l D kc (lo7 20) (lo7 21) p4 H.size _ h) (va_cwS 3 hts gX4_mean_X4_told rfl rfl rfl (by decide +kernel) ⟨Nat.le_of_ble_eq_true rfl, Nat.le_of_ble_eq_true rfl⟩) (cut_nil _) hP hD hS hA rfl hl.1 rfl (Nat.le_of_ble_eq_true rfl) dX4_mean_33 ⟨Nat.zero_le _, Nat.zero_le _⟩ (fun r9 _ H locs h hP hD hS => ?_)
    have hP : va_P D vwCl (cM kc a mo6 lo7) H := hP
    have hD : va_D A (cM kc a mo6 lo7) := hD
    exact hret r9 (mo6, lo7) H locs ls _ h hP hD hS dX4_mean_36
  · have h := br1 h c5
    refine lv_ldc2 (v := -1) hx hb hown (hts (.constantLong RX4 235 (-1)) (by decide +kernel)) dX4_mean_12 ?_
    exact hret (-1) (mo1, lo2) H locs ls _ h hP hD hS dX4_mean_15

def w_X4_see (p1 : Int32) (p2 : Int32) (mo : S2) (lo : SL) (K : Int32 → S2 → SL → Prop) : Prop := w_X4_in (p1.toInt64) (0 : Int64) (20 : Int64) (fun r1 => br (r1 = 0) (K (-1) mo lo) (w_X4_isOne p2 mo lo (fun r6 mo4 lo5 => br (r6 = 0) (K (-1) mo4 lo5) (br ((mo4 1 (44 : Int32).toNatClampNeg) = 6) (K (-3) mo4 lo5) (nm ((45 + (2 * (mo4 1 (44 : Int32).toNatClampNeg))) : Int32) (fun x10 => vp_in x10 171 ∧ (nm ((va_up mo4 1 (upd (mo4 1) x10.toNatClampNeg p1)) : S2) (fun mo12 => vp_in (x10 + 1) 171 ∧ (nm ((va_up mo12 1 (upd (mo12 1) (x10 + 1).toNatClampNeg p2)) : S2) (fun mo14 => nm ((va_up mo14 1 (upd (mo14 1) (44 : Int32).toNatClampNeg ((mo14 1 (44 : Int32).toNatClampNeg) + 1))) : S2) (fun mo15 => K (mo15 1 (44 : Int32).toNatClampNeg) mo15 lo5)))))))))))
abbrev rm_X4_see : Room := { frames := 2, cells := 0, slots := 0, locals := 46 }
set_option maxHeartbeats 4000000 in
set_option maxRecDepth 100000 in
theorem c_X4_see (l : Launch) (D : va_G) (kc : Nat → ClassId) (a : Nat → Nat) (p1 : Int32) (p2 : Int32) (mo : S2) (lo : SL) (sz : Nat) (K : Int32 → S2 → SL → Prop) (h : w_X4_see p1 p2 mo lo K) : MetI l yX4_see wsX4_see rm_X4_see D kc (fun u : S2 × SL => cM kc a u.1 u.2) (mo, lo) [.ref (a 0), .int p1, .int p2] sz (fun r u => K r u.1 u.2) := by
  refine q_ei (code := cX4_see) (maxL := 4) (by decide) rfl (Nat.le_of_ble_eq_true rfl) ?_
  intro p e s m args below meth c Q A hx hb hml hts hown hK hA hret ls hl hP hD hS
  have hown : s.vm.findClass RX4 = some m.cls := hown
  have hl : lv_has ls 4 [(0, .ref (a 0)), (1, .int p1), (2, .int p2)] := hl
  have hP : va_P D vwCl (cM kc a mo lo) s.heap := hP
  have hD : va_D A (cM kc a mo lo) := hD
  have hS : va_S A s.heap s.heap [] := hS
  obtain ⟨H, eH⟩ : ∃ z, z = s.heap := ⟨_, rfl⟩
  obtain ⟨locs, eL⟩ : ∃ z : List Loc, z = [] := ⟨_, rfl⟩
  have hP := q_heap hP eH
  have hS := q_heapS hS eH eL
  refine q_start eH eL ?_
  clear eH eL
  have hi4 : ∀ w ∈ u_ws RX4 TX4 29, w ∈ wsX4_see := by decide +kernel
  unfold w_X4_see at h
  refine lv_iload_n hx hb dX4_see_0 rfl (lv_at hl 1 rfl) ?_
  refine lv_i2l hx hb dX4_see_1 rfl ?_
  refine lv_lconst (v := 0) hx hb dX4_see_2 (by decide) ?_
  refine lv_ldc2 (v := 20) hx hb hown (hts (.constantLong RX4 205 (20)) (by decide +kernel)) dX4_see_3 ?_
  refine q_cSi (As := [.long (p1.toInt64), .long 0, .long 20]) (rest := []) ⟨hx, hb, hml, hown, hts⟩ hK (c_X4_in l D kc (p1.toInt64) (0 : Int64) (20 : Int64) H.size _ h) (va_cwS 3 hts gX4_see_X4_in rfl rfl rfl (by decide +kernel) ⟨Nat.le_of_ble_eq_true rfl, Nat.le_of_ble_eq_true rfl⟩) (cut_nil _) hP hD hS hA rfl hl.1 rfl (Nat.le_of_ble_eq_true rfl) dX4_see_6 ⟨Nat.zero_le _, Nat.zero_le _⟩ (fun r1 _ H locs h hP hD hS => ?_)
  have hP : va_P D vwCl (cM kc a mo lo) H := hP
  have hD : va_D A (cM kc a mo lo) := hD
  refine lv_if_eq (tgt := 20) hx hb dX4_see_9 (by decide) (fun c3 => ?_) (fun c3 => ?_)
  · have h := br1 h c3
    refine lv_iconst (v := -1) hx hb dX4_see_20 (by decide) ?_
    exact hret (-1) (mo, lo) H locs ls _ h hP hD hS dX4_see_21
  · have h := br2 h c3
    refine lv_aload_n hx hb dX4_see_12 rfl (lv_at hl 0 rfl) ?_
    refine lv_iload_n hx hb dX4_see_13 rfl (lv_at hl 2 rfl) ?_
    refine q_cVi (As := [.int p2]) (rest := []) ⟨hx, hb, hml, hown, hts⟩ hK (c_X4_isOne l D kc a p2 mo lo H.size _ h) (cwV 1 hts gX4_see_X4_isOne rfl rfl rfl (by decide +kernel) ⟨Nat.le_of_ble_eq_true rfl, Nat.le_of_ble_eq_true rfl⟩) (cut_same (fun u : S2 × SL => cM kc a u.1 u.2) (mo, lo)) hP hD hS hA 4 0 rfl rfl rfl hl.1 rfl (Nat.le_of_ble_eq_true rfl) dX4_see_14 ⟨Nat.zero_le _, Nat.zero_le _⟩ (fun r6 u7 H locs h hP hD hS => ?_)
    obtain ⟨mo4, lo5⟩ := u7
    have hP : va_P D vwCl (cM kc a mo4 lo5) H := hP
    have hD : va_D A (cM kc a mo4 lo5) := hD
    refine lv_if_ne (tgt := 22) hx hb dX4_see_17 (by decide) (fun c8 => ?_) (fun c8 => ?_)
    · have h := br2 h c8
      refine lv_aload_n hx hb dX4_see_22 rfl (lv_at hl 0 rfl) ?_
      refine va_get (D := D) (ci := 4) (v := .ref (a 1)) (C := RX4) (T := TX4) (N := 29) hx hb hts hi4 hown hK.1 hP 0 rfl rfl 0 (by decide) (hts (.fieldLink RX4 7 "LastPennyModel" "st" "[I") (by decide +kernel)) (fun _ h9 => h9) rfl dX4_see_23 ?_
      refine lv_bipush (v := 44) hx hb dX4_see_26 (by decide) ?_
      refine va_iald hx hb hK.1 hP 1 0 rfl rfl (by unfold vp_in; decide) dX4_see_28 ?_
      refine lv_bipush (v := 6) hx hb dX4_see_29 (by decide) ?_
      refine lv_icmp_ne (tgt := 37) hx hb dX4_see_31 (by decide) (fun c9 => ?_) (fun c9 => ?_)
      · have h := br2 h c9
        refine lv_bipush (v := 45) hx hb dX4_see_37 (by decide) ?_
        refine lv_iconst (v := 2) hx hb dX4_see_39 (by decide) ?_
        refine lv_aload_n hx hb dX4_see_40 rfl (lv_at hl 0 rfl) ?_
        refine va_get (D := D) (ci := 4) (v := .ref (a 1)) (C := RX4) (T := TX4) (N := 29) hx hb hts hi4 hown hK.1 hP 0 rfl rfl 0 (by decide) (hts (.fieldLink RX4 7 "LastPennyModel" "st" "[I") (by decide +kernel)) (fun _ h9 => h9) rfl dX4_see_41 ?_
        refine lv_bipush (v := 44) hx hb dX4_see_44 (by decide) ?_
        refine va_iald hx hb hK.1 hP 1 0 rfl rfl (by unfold vp_in; decide) dX4_see_46 ?_
        refine lv_imul hx hb dX4_see_47 ?_
        refine lv_iadd hx hb dX4_see_48 ?_
        refine lv_topi (fun x10 ex10 => ?_)
        have h := nm_out h x10 ex10
        refine lv_istore_n (lv' := [(3, .int x10), (0, .ref (a 0)), (1, .int p1), (2, .int p2)]) hx hb dX4_see_49 rfl hl (by decide) rfl (fun ls hl => ?_)
        refine lv_aload_n hx hb dX4_see_50 rfl (lv_at hl 1 rfl) ?_
        refine va_get (D := D) (ci := 4) (v := .ref (a 1)) (C := RX4) (T := TX4) (N := 29) hx hb hts hi4 hown hK.1 hP 0 rfl rfl 0 (by decide) (hts (.fieldLink RX4 7 "LastPennyModel" "st" "[I") (by decide +kernel)) (fun _ h9 => h9) rfl dX4_see_51 ?_
        refine lv_iload_n hx hb dX4_see_54 rfl (lv_at hl 0 rfl) ?_
        refine lv_iload_n hx hb dX4_see_55 rfl (lv_at hl 2 rfl) ?_
        obtain ⟨hi_11, h⟩ := h
        refine va_iast hx hb hK.1 hP hD hS 1 0 rfl rfl hi_11 dX4_see_56 (fun H locs hP hD hS => ?_)
        obtain ⟨mo12, emo12⟩ : ∃ z, z = (va_up mo4 1 (upd (mo4 1) x10.toNatClampNeg p1)) := ⟨_, rfl⟩
        have h := nm_out h mo12 emo12
        have hP : va_P D vwCl (cM kc a mo12 lo5) H := q_to hP (by subst emo12; rfl)
        have hD : va_D A (cM kc a mo12 lo5) := q_toD hD (by subst emo12; rfl)
        refine lv_aload_n hx hb dX4_see_57 rfl (lv_at hl 1 rfl) ?_
        refine va_get (D := D) (ci := 4) (v := .ref (a 1)) (C := RX4) (T := TX4) (N := 29) hx hb hts hi4 hown hK.1 hP 0 rfl rfl 0 (by decide) (hts (.fieldLink RX4 7 "LastPennyModel" "st" "[I") (by decide +kernel)) (fun _ h9 => h9) rfl dX4_see_58 ?_
        refine lv_iload_n hx hb dX4_see_61 rfl (lv_at hl 0 rfl) ?_
        refine lv_iconst (v := 1) hx hb dX4_see_62 (by decide) ?_
        refine lv_iadd hx hb dX4_see_63 ?_
        refine lv_iload_n hx hb dX4_see_64 rfl (lv_at hl 3 rfl) ?_
        obtain ⟨hi_13, h⟩ := h
        refine va_iast hx hb hK.1 hP hD hS 1 0 rfl rfl hi_13 dX4_see_65 (fun H locs hP hD hS => ?_)
        obtain ⟨mo14, emo14⟩ : ∃ z, z = (va_up mo12 1 (upd (mo12 1) (x10 + 1).toNatClampNeg p2)) := ⟨_, rfl⟩
        have h := nm_out h mo14 emo14
        have hP : va_P D vwCl (cM kc a mo14 lo5) H := q_to hP (by subst emo14; rfl)
        have hD : va_D A (cM kc a mo14 lo5) := q_toD hD (by subst emo14; rfl)
        refine lv_aload_n hx hb dX4_see_66 rfl (lv_at hl 1 rfl) ?_
        refine va_get (D := D) (ci := 4) (v := .ref (a 1)) (C := RX4) (T := TX4) (N := 29) hx hb hts hi4 hown hK.1 hP 0 rfl rfl 0 (by decide) (hts (.fieldLink RX4 7 "LastPennyModel" "st" "[I") (by decide +kernel)) (fun _ h9 => h9) rfl dX4_see_67 ?_
        refine lv_bipush (v := 44) hx hb dX4_see_70 (by decide) ?_
        refine lv_dup2_11 hx hb dX4_see_72 rfl rfl ?_
        refine va_iald hx hb hK.1 hP 1 0 rfl rfl (by unfold vp_in; decide) dX4_see_73 ?_
        refine lv_iconst (v := 1) hx hb dX4_see_74 (by decide) ?_
        refine lv_iadd hx hb dX4_see_75 ?_
        refine va_iast hx hb hK.1 hP hD hS 1 0 rfl rfl (by unfold vp_in; decide) dX4_see_76 (fun H locs hP hD hS => ?_)
        obtain ⟨mo15, emo15⟩ : ∃ z, z = (va_up mo14 1 (upd (mo14 1) (44 : Int32).toNatClampNeg ((mo14 1 (44 : Int32).toNatClampNeg) + 1))) := ⟨_, rfl⟩
        have h := nm_out h mo15 emo15
        have hP : va_P D vwCl (cM kc a mo15 lo5) H := q_to hP (by subst emo15; rfl)
        have hD : va_D A (cM kc a mo15 lo5) := q_toD hD (by subst emo15; rfl)
        refine lv_aload_n hx hb dX4_see_77 rfl (lv_at hl 1 rfl) ?_
        refine va_get (D := D) (ci := 4) (v := .ref (a 1)) (C := RX4) (T := TX4) (N := 29) hx hb hts hi4 hown hK.1 hP 0 rfl rfl 0 (by decide) (hts (.fieldLink RX4 7 "LastPennyModel" "st" "[I") (by decide +kernel)) (fun _ h9 => h9) rfl dX4_see_78 ?_
        refine lv_bipush (v := 44) hx hb dX4_see_81 (by decide) ?_
        refine va_iald hx hb hK.1 hP 1 0 rfl rfl (by unfold vp_in; decide) dX4_see_83 ?_
        exact hret (mo15 1 (44 : Int32).toNatClampNeg) (mo15, lo5) H locs ls _ h hP hD hS dX4_see_84
      · have h := br1 h c9
        refine lv_bipush (v := -3) hx hb dX4_see_34 (by decide) ?_
        exact hret (-3) (mo4, lo5) H locs ls _ h hP hD hS dX4_see_36
    · have h := br1 h c8
      refine lv_iconst (v := -1) hx hb dX4_see_20 (by decide) ?_
      exact hret (-1) (mo4, lo5) H locs ls _ h hP hD hS dX4_see_21

def w_X4_forget (p1 : Int32) (mo : S2) (lo : SL) (K : Int32 → S2 → SL → Prop) : Prop := w_X4_in (p1.toInt64) (0 : Int64) ((mo 1 (44 : Int32).toNatClampNeg).toInt64) (fun r1 => br (r1 = 0) (K (-1) mo lo) (w_X4_becomes (44 : Int32) p1 mo lo (fun r6 mo4 lo5 => K r6 mo4 lo5)))
abbrev rm_X4_forget : Room := { frames := 1, cells := 0, slots := 0, locals := 25 }
set_option maxHeartbeats 4000000 in
set_option maxRecDepth 100000 in
theorem c_X4_forget (l : Launch) (D : va_G) (kc : Nat → ClassId) (a : Nat → Nat) (p1 : Int32) (mo : S2) (lo : SL) (sz : Nat) (K : Int32 → S2 → SL → Prop) (h : w_X4_forget p1 mo lo K) : MetI l yX4_forget wsX4_forget rm_X4_forget D kc (fun u : S2 × SL => cM kc a u.1 u.2) (mo, lo) [.ref (a 0), .int p1] sz (fun r u => K r u.1 u.2) := by
  refine q_ei (code := cX4_forget) (maxL := 2) (by decide) rfl (Nat.le_of_ble_eq_true rfl) ?_
  intro p e s m args below meth c Q A hx hb hml hts hown hK hA hret ls hl hP hD hS
  have hown : s.vm.findClass RX4 = some m.cls := hown
  have hl : lv_has ls 2 [(0, .ref (a 0)), (1, .int p1)] := hl
  have hP : va_P D vwCl (cM kc a mo lo) s.heap := hP
  have hD : va_D A (cM kc a mo lo) := hD
  have hS : va_S A s.heap s.heap [] := hS
  obtain ⟨H, eH⟩ : ∃ z, z = s.heap := ⟨_, rfl⟩
  obtain ⟨locs, eL⟩ : ∃ z : List Loc, z = [] := ⟨_, rfl⟩
  have hP := q_heap hP eH
  have hS := q_heapS hS eH eL
  refine q_start eH eL ?_
  clear eH eL
  have hi4 : ∀ w ∈ u_ws RX4 TX4 29, w ∈ wsX4_forget := by decide +kernel
  unfold w_X4_forget at h
  refine lv_iload_n hx hb dX4_forget_0 rfl (lv_at hl 1 rfl) ?_
  refine lv_i2l hx hb dX4_forget_1 rfl ?_
  refine lv_lconst (v := 0) hx hb dX4_forget_2 (by decide) ?_
  refine lv_aload_n hx hb dX4_forget_3 rfl (lv_at hl 0 rfl) ?_
  refine va_get (D := D) (ci := 4) (v := .ref (a 1)) (C := RX4) (T := TX4) (N := 29) hx hb hts hi4 hown hK.1 hP 0 rfl rfl 0 (by decide) (hts (.fieldLink RX4 7 "LastPennyModel" "st" "[I") (by decide +kernel)) (fun _ h9 => h9) rfl dX4_forget_4 ?_
  refine lv_bipush (v := 44) hx hb dX4_forget_7 (by decide) ?_
  refine va_iald hx hb hK.1 hP 1 0 rfl rfl (by unfold vp_in; decide) dX4_forget_9 ?_
  refine lv_i2l hx hb dX4_forget_10 rfl ?_
  refine q_cSi (As := [.long (p1.toInt64), .long 0, .long ((mo 1 (44 : Int32).toNatClampNeg).toInt64)]) (rest := []) ⟨hx, hb, hml, hown, hts⟩ hK (c_X4_in l D kc (p1.toInt64) (0 : Int64) ((mo 1 (44 : Int32).toNatClampNeg).toInt64) H.size _ h) (va_cwS 3 hts gX4_forget_X4_in rfl rfl rfl (by decide +kernel) ⟨Nat.le_of_ble_eq_true rfl, Nat.le_of_ble_eq_true rfl⟩) (cut_nil _) hP hD hS hA rfl hl.1 rfl (Nat.le_of_ble_eq_true rfl) dX4_forget_11 ⟨Nat.zero_le _, Nat.zero_le _⟩ (fun r1 _ H locs h hP hD hS => ?_)
  have hP : va_P D vwCl (cM kc a mo lo) H := hP
  have hD : va_D A (cM kc a mo lo) := hD
  refine lv_if_eq (tgt := 27) hx hb dX4_forget_14 (by decide) (fun c3 => ?_) (fun c3 => ?_)
  · have h := br1 h c3
    refine lv_iconst (v := -1) hx hb dX4_forget_27 (by decide) ?_
    exact hret (-1) (mo, lo) H locs ls _ h hP hD hS dX4_forget_28
  · have h := br2 h c3
    refine lv_aload_n hx hb dX4_forget_17 rfl (lv_at hl 0 rfl) ?_
    refine lv_bipush (v := 44) hx hb dX4_forget_18 (by decide) ?_
    refine lv_iload_n hx hb dX4_forget_20 rfl (lv_at hl 1 rfl) ?_
    refine q_cVi (As := [.int 44, .int p1]) (rest := []) ⟨hx, hb, hml, hown, hts⟩ hK (c_X4_becomes l D kc a (44 : Int32) p1 mo lo H.size _ h) (cwV 2 hts gX4_forget_X4_becomes rfl rfl rfl (by decide +kernel) ⟨Nat.le_of_ble_eq_true rfl, Nat.le_of_ble_eq_true rfl⟩) (cut_same (fun u : S2 × SL => cM kc a u.1 u.2) (mo, lo)) hP hD hS hA 4 0 rfl rfl rfl hl.1 rfl (Nat.le_of_ble_eq_true rfl) dX4_forget_21 ⟨Nat.zero_le _, Nat.zero_le _⟩ (fun r6 u7 H locs h hP hD hS => ?_)
    obtain ⟨mo4, lo5⟩ := u7
    have hP : va_P D vwCl (cM kc a mo4 lo5) H := hP
    have hD : va_D A (cM kc a mo4 lo5) := hD
    refine lv_goto (tgt := 28) hx hb dX4_forget_24 (by decide) ?_
    exact hret r6 (mo4, lo5) H locs ls _ h hP hD hS dX4_forget_28

def w_X4_isSoWith (p1 : Int32) (p2 : Int32) (p3 : Int32) (mo : S2) (lo : SL) (K : Int32 → S2 → SL → Prop) : Prop := w_X4_starts mo lo (fun mo1 lo2 => w_X4_becomesOf p1 p2 p3 mo1 lo2 (fun mo4 lo5 => lfp3 (fun G14 (i7 : Int32) (mo8 : S2) (lo9 : SL) => br (20 < i7) (lfp2 (fun G51 (i11 : Int32) (i12 : Int32) => br ((mo8 1 (44 : Int32).toNatClampNeg) ≤ i12) ((i11 = 0 ∨ i11 = 1) ∧ K i11 mo8 lo9) (jn (fun (k15 : Int32) => nm (i12 + 1 : Int32) (fun x16 => G51 k15 x16)) (fun J107 => jn (fun (_ : Unit) => J107 0) (fun J106 => br (i11 = 0) (J106 ()) (vp_in (45 + (2 * i12)) 171 ∧ (vp_in (mo8 1 (45 + (2 * i12)).toNatClampNeg) 21 ∧ (vp_in ((45 + (2 * i12)) + 1) 171 ∧ (br ((mo8 7 (mo8 1 (45 + (2 * i12)).toNatClampNeg).toNatClampNeg) = (mo8 1 ((45 + (2 * i12)) + 1).toNatClampNeg)) (J107 1) (J106 ()))))))))) 1 0) (vp_in i7 21 ∧ (nm ((va_up mo8 7 (upd (mo8 7) i7.toNatClampNeg (mo8 2 (22 : Int32).toNatClampNeg))) : S2) (fun mo23 => w_X4_quarterGoes mo23 lo9 (fun mo24 lo25 => nm (i7 + 1 : Int32) (fun x27 => G14 x27 mo24 lo25)))))) 0 mo4 lo5))
abbrev rm_X4_isSoWith : Room := { frames := 4, cells := 0, slots := 0, locals := 88 }
set_option maxHeartbeats 4000000 in
set_option maxRecDepth 100000 in
theorem c_X4_isSoWith (l : Launch) (D : va_G) (kc : Nat → ClassId) (a : Nat → Nat) (p1 : Int32) (p2 : Int32) (p3 : Int32) (mo : S2) (lo : SL) (sz : Nat) (K : Int32 → S2 → SL → Prop) (h : w_X4_isSoWith p1 p2 p3 mo lo K) : MetI l yX4_isSoWith wsX4_isSoWith rm_X4_isSoWith D kc (fun u : S2 × SL => cM kc a u.1 u.2) (mo, lo) [.ref (a 0), .int p1, .int p2, .int p3] sz (fun r u => K r u.1 u.2) := by
  refine q_ez (code := cX4_isSoWith) (maxL := 6) (by decide) rfl (Nat.le_of_ble_eq_true rfl) ?_
  intro p e s m args below meth c Q A hx hb hml hts hown hK hA hret ls hl hP hD hS
  have hown : s.vm.findClass RX4 = some m.cls := hown
  have hl : lv_has ls 6 [(0, .ref (a 0)), (1, .int p1), (2, .int p2), (3, .int p3)] := hl
  have hP : va_P D vwCl (cM kc a mo lo) s.heap := hP
  have hD : va_D A (cM kc a mo lo) := hD
  have hS : va_S A s.heap s.heap [] := hS
  obtain ⟨H, eH⟩ : ∃ z, z = s.heap := ⟨_, rfl⟩
  obtain ⟨locs, eL⟩ : ∃ z : List Loc, z = [] := ⟨_, rfl⟩
  have hP := q_heap hP eH
  have hS := q_heapS hS eH eL
  refine q_start eH eL ?_
  clear eH eL
  have hi4 : ∀ w ∈ u_ws RX4 TX4 29, w ∈ wsX4_isSoWith := by decide +kernel
  unfold w_X4_isSoWith at h
  refine lv_aload_n hx hb dX4_isSoWith_0 rfl (lv_at hl 0 rfl) ?_
  refine q_cVv (As := []) (rest := []) ⟨hx, hb, hml, hown, hts⟩ hK (c_X4_starts l D kc a mo lo H.size _ h) (cwV 0 hts gX4_isSoWith_X4_starts rfl rfl rfl (by decide +kernel) ⟨Nat.le_of_ble_eq_true rfl, Nat.le_of_ble_eq_true rfl⟩) (cut_same (fun u : S2 × SL => cM kc a u.1 u.2) (mo, lo)) hP hD hS hA 4 0 rfl rfl rfl hl.1 rfl (Nat.le_of_ble_eq_true rfl) dX4_isSoWith_1 ⟨Nat.zero_le _, Nat.zero_le _⟩ (fun u3 H locs h hP hD hS => ?_)
  obtain ⟨mo1, lo2⟩ := u3
  have hP : va_P D vwCl (cM kc a mo1 lo2) H := hP
  have hD : va_D A (cM kc a mo1 lo2) := hD
  refine lv_aload_n hx hb dX4_isSoWith_4 rfl (lv_at hl 0 rfl) ?_
  refine lv_iload_n hx hb dX4_isSoWith_5 rfl (lv_at hl 1 rfl) ?_
  refine lv_iload_n hx hb dX4_isSoWith_6 rfl (lv_at hl 2 rfl) ?_
  refine lv_iload_n hx hb dX4_isSoWith_7 rfl (lv_at hl 3 rfl) ?_
  refine q_cVv (As := [.int p1, .int p2, .int p3]) (rest := []) ⟨hx, hb, hml, hown, hts⟩ hK (c_X4_becomesOf l D kc a p1 p2 p3 mo1 lo2 H.size _ h) (cwV 3 hts gX4_isSoWith_X4_becomesOf rfl rfl rfl (by decide +kernel) ⟨Nat.le_of_ble_eq_true rfl, Nat.le_of_ble_eq_true rfl⟩) (cut_same (fun u : S2 × SL => cM kc a u.1 u.2) (mo1, lo2)) hP hD hS hA 4 0 rfl rfl rfl hl.1 rfl (Nat.le_of_ble_eq_true rfl) dX4_isSoWith_8 ⟨Nat.zero_le _, Nat.zero_le _⟩ (fun u6 H locs h hP hD hS => ?_)
  obtain ⟨mo4, lo5⟩ := u6
  have hP : va_P D vwCl (cM kc a mo4 lo5) H := hP
  have hD : va_D A (cM kc a mo4 lo5) := hD
  refine lv_iconst (v := 0) hx hb dX4_isSoWith_11 (by decide) ?_
  refine lv_istore (lv' := [(4, .int 0), (0, .ref (a 0)), (1, .int p1), (2, .int p2), (3, .int p3)]) hx hb dX4_isSoWith_12 hl (by decide) rfl (fun ls hl => ?_)
  refine h (fun (i7 : Int32) (mo8 : S2) (lo9 : SL) => ∀ (ls : Array Slot) (H : Heap) (locs : List Loc), lv_has ls 6 [(0, .ref (a 0)), (4, .int i7)] → va_P D vwCl (cM kc a mo8 lo9) H → va_D A (cM kc a mo8 lo9) → va_S A s.heap H locs → W p l e rm_X4_isSoWith s m args below meth c H locs 0 0 Q (F0 m 14 ls [])) ?_ ls H locs (lv_sub hl [1, 0] rfl) hP hD hS
  intro i7 mo8 lo9 h ls H locs hl hP hD hS
  refine lv_iload hx hb dX4_isSoWith_14 (lv_at hl 1 rfl) ?_
  refine lv_bipush (v := 20) hx hb dX4_isSoWith_16 (by decide) ?_
  refine lv_icmp_gt (tgt := 45) hx hb dX4_isSoWith_18 (by decide) (fun c10 => ?_) (fun c10 => ?_)
  · have h := br1 h c10
    refine lv_iconst (v := 1) hx hb dX4_isSoWith_45 (by decide) ?_
    refine lv_istore (lv' := [(4, .int 1), (0, .ref (a 0))]) hx hb dX4_isSoWith_46 hl (by decide) rfl (fun ls hl => ?_)
    refine lv_iconst (v := 0) hx hb dX4_isSoWith_48 (by decide) ?_
    refine lv_istore (lv' := [(5, .int 0), (4, .int 1), (0, .ref (a 0))]) hx hb dX4_isSoWith_49 hl (by decide) rfl (fun ls hl => ?_)
    refine h (fun (i11 : Int32) (i12 : Int32) => ∀ (ls : Array Slot), lv_has ls 6 [(0, .ref (a 0)), (4, .int i11), (5, .int i12)] → W p l e rm_X4_isSoWith s m args below meth c H locs 0 0 Q (F0 m 51 ls [])) ?_ ls (lv_sub hl [2, 1, 0] rfl)
    intro i11 i12 h ls hl
    refine lv_iload hx hb dX4_isSoWith_51 (lv_at hl 2 rfl) ?_
    refine lv_aload_n hx hb dX4_isSoWith_53 rfl (lv_at hl 0 rfl) ?_
    refine va_get (D := D) (ci := 4) (v := .ref (a 1)) (C := RX4) (T := TX4) (N := 29) hx hb hts hi4 hown hK.1 hP 0 rfl rfl 0 (by decide) (hts (.fieldLink RX4 7 "LastPennyModel" "st" "[I") (by decide +kernel)) (fun _ h9 => h9) rfl dX4_isSoWith_54 ?_
    refine lv_bipush (v := 44) hx hb dX4_isSoWith_57 (by decide) ?_
    refine va_iald hx hb hK.1 hP 1 0 rfl rfl (by unfold vp_in; decide) dX4_isSoWith_59 ?_
    refine lv_icmp_ge (tgt := 115) hx hb dX4_isSoWith_60 (by decide) (fun c13 => ?_) (fun c13 => ?_)
    · have h := br1 h c13
      refine lv_iload hx hb dX4_isSoWith_115 (lv_at hl 1 rfl) ?_
      obtain ⟨hz14, h⟩ := h
      exact hret i11 (mo8, lo9) H locs ls _ (q_nar hz14) h hP hD hS dX4_isSoWith_117
    · have h := br2 h c13
      refine lv_iload hx hb dX4_isSoWith_63 (lv_at hl 1 rfl) ?_
      refine jn_elim h (fun J107 eJ107 h => ?_)
      have hJ_107 : ∀ (k15 : Int32) (ls : Array Slot), J107 k15 → lv_has ls 6 [(0, .ref (a 0)), (5, .int i12)] → W p l e rm_X4_isSoWith s m args below meth c H locs 0 0 Q (F0 m 107 ls [.int k15]) := by
        intro k15 ls h hl
        subst eJ107
        refine lv_istore (lv' := [(4, .int k15), (0, .ref (a 0)), (5, .int i12)]) hx hb dX4_isSoWith_107 hl (by decide) rfl (fun ls hl => ?_)
        obtain ⟨x16, ex16⟩ : ∃ z : Int32, z = i12 + 1 := ⟨_, rfl⟩
        have h := nm_out h x16 ex16
        refine lv_iinc (v := x16) (lv' := [(5, .int x16), (4, .int k15), (0, .ref (a 0))]) hx hb dX4_isSoWith_109 hl (k := 2) rfl (by rw [ex16]; rfl) (by decide) rfl (fun ls hl => ?_)
        refine lv_goto (tgt := 51) hx hb dX4_isSoWith_112 (by decide) ?_
        exact h ls (lv_sub hl [2, 1, 0] rfl)
      refine jn_elim h (fun J106 eJ106 h => ?_)
      have hJ_106 : ∀  (ls : Array Slot), J106 () → lv_has ls 6 [(0, .ref (a 0)), (5, .int i12)] → W p l e rm_X4_isSoWith s m args below meth c H locs 0 0 Q (F0 m 106 ls []) := by
        intro  ls h hl
        subst eJ106
        refine lv_iconst (v := 0) hx hb dX4_isSoWith_106 (by decide) ?_
        exact hJ_107 0 ls h (lv_sub hl [0, 1] rfl)
      refine lv_if_eq (tgt := 106) hx hb dX4_isSoWith_65 (by decide) (fun c17 => ?_) (fun c17 => ?_)
      · have h := br1 h c17
        exact hJ_106 ls h (lv_sub hl [0, 2] rfl)
      · have h := br2 h c17
        refine lv_aload_n hx hb dX4_isSoWith_68 rfl (lv_at hl 0 rfl) ?_
        refine va_get (D := D) (ci := 4) (v := .ref (a 7)) (C := RX4) (T := TX4) (N := 29) hx hb hts hi4 hown hK.1 hP 0 rfl rfl 22 (by decide) (hts (.fieldLink RX4 29 "LastPennyModel" "held" "[I") (by decide +kernel)) (fun _ h9 => h9) rfl dX4_isSoWith_69 ?_
        refine lv_aload_n hx hb dX4_isSoWith_72 rfl (lv_at hl 0 rfl) ?_
        refine va_get (D := D) (ci := 4) (v := .ref (a 1)) (C := RX4) (T := TX4) (N := 29) hx hb hts hi4 hown hK.1 hP 0 rfl rfl 0 (by decide) (hts (.fieldLink RX4 7 "LastPennyModel" "st" "[I") (by decide +kernel)) (fun _ h9 => h9) rfl dX4_isSoWith_73 ?_
        refine lv_bipush (v := 45) hx hb dX4_isSoWith_76 (by decide) ?_
        refine lv_iconst (v := 2) hx hb dX4_isSoWith_78 (by decide) ?_
        refine lv_iload hx hb dX4_isSoWith_79 (lv_at hl 2 rfl) ?_
        refine lv_imul hx hb dX4_isSoWith_81 ?_
        refine lv_iadd hx hb dX4_isSoWith_82 ?_
        obtain ⟨hi_18, h⟩ := h
        refine va_iald hx hb hK.1 hP 1 0 rfl rfl hi_18 dX4_isSoWith_83 ?_
        obtain ⟨hi_19, h⟩ := h
        refine va_iald hx hb hK.1 hP 7 0 rfl rfl hi_19 dX4_isSoWith_84 ?_
        refine lv_aload_n hx hb dX4_isSoWith_85 rfl (lv_at hl 0 rfl) ?_
        refine va_get (D := D) (ci := 4) (v := .ref (a 1)) (C := RX4) (T := TX4) (N := 29) hx hb hts hi4 hown hK.1 hP 0 rfl rfl 0 (by decide) (hts (.fieldLink RX4 7 "LastPennyModel" "st" "[I") (by decide +kernel)) (fun _ h9 => h9) rfl dX4_isSoWith_86 ?_
        refine lv_bipush (v := 45) hx hb dX4_isSoWith_89 (by decide) ?_
        refine lv_iconst (v := 2) hx hb dX4_isSoWith_91 (by decide) ?_
        refine lv_iload hx hb dX4_isSoWith_92 (lv_at hl 2 rfl) ?_
        refine lv_imul hx hb dX4_isSoWith_94 ?_
        refine lv_iadd hx hb dX4_isSoWith_95 ?_
        refine lv_iconst (v := 1) hx hb dX4_isSoWith_96 (by decide) ?_
        refine lv_iadd hx hb dX4_isSoWith_97 ?_
        obtain ⟨hi_20, h⟩ := h
        refine va_iald hx hb hK.1 hP 1 0 rfl rfl hi_20 dX4_isSoWith_98 ?_
        refine lv_icmp_ne (tgt := 106) hx hb dX4_isSoWith_99 (by decide) (fun c21 => ?_) (fun c21 => ?_)
        · have h := br2 h c21
          exact hJ_106 ls h (lv_sub hl [0, 2] rfl)
        · have h := br1 h c21
          refine lv_iconst (v := 1) hx hb dX4_isSoWith_102 (by decide) ?_
          refine lv_goto (tgt := 107) hx hb dX4_isSoWith_103 (by decide) ?_
          exact hJ_107 1 ls h (lv_sub hl [0, 2] rfl)
  · have h := br2 h c10
    refine lv_aload_n hx hb dX4_isSoWith_21 rfl (lv_at hl 0 rfl) ?_
    refine va_get (D := D) (ci := 4) (v := .ref (a 7)) (C := RX4) (T := TX4) (N := 29) hx hb hts hi4 hown hK.1 hP 0 rfl rfl 22 (by decide) (hts (.fieldLink RX4 29 "LastPennyModel" "held" "[I") (by decide +kernel)) (fun _ h9 => h9) rfl dX4_isSoWith_22 ?_
    refine lv_iload hx hb dX4_isSoWith_25 (lv_at hl 1 rfl) ?_
    refine lv_aload_n hx hb dX4_isSoWith_27 rfl (lv_at hl 0 rfl) ?_
    refine va_get (D := D) (ci := 4) (v := .ref (a 2)) (C := RX4) (T := TX4) (N := 29) hx hb hts hi4 hown hK.1 hP 0 rfl rfl 1 (by decide) (hts (.fieldLink RX4 13 "LastPennyModel" "now" "[I") (by decide +kernel)) (fun _ h9 => h9) rfl dX4_isSoWith_28 ?_
    refine lv_bipush (v := 22) hx hb dX4_isSoWith_31 (by decide) ?_
    refine va_iald hx hb hK.1 hP 2 0 rfl rfl (by unfold vp_in; decide) dX4_isSoWith_33 ?_
    obtain ⟨hi_22, h⟩ := h
    refine va_iast hx hb hK.1 hP hD hS 7 0 rfl rfl hi_22 dX4_isSoWith_34 (fun H locs hP hD hS => ?_)
    obtain ⟨mo23, emo23⟩ : ∃ z, z = (va_up mo8 7 (upd (mo8 7) i7.toNatClampNeg (mo8 2 (22 : Int32).toNatClampNeg))) := ⟨_, rfl⟩
    have h := nm_out h mo23 emo23
    have hP : va_P D vwCl (cM kc a mo23 lo9) H := q_to hP (by subst emo23; rfl)
    have hD : va_D A (cM kc a mo23 lo9) := q_toD hD (by subst emo23; rfl)
    refine lv_aload_n hx hb dX4_isSoWith_35 rfl (lv_at hl 0 rfl) ?_
    refine q_cVv (As := []) (rest := []) ⟨hx, hb, hml, hown, hts⟩ hK (c_X4_quarterGoes l D kc a mo23 lo9 H.size _ h) (cwV 0 hts gX4_isSoWith_X4_quarterGoes rfl rfl rfl (by decide +kernel) ⟨Nat.le_of_ble_eq_true rfl, Nat.le_of_ble_eq_true rfl⟩) (cut_same (fun u : S2 × SL => cM kc a u.1 u.2) (mo23, lo9)) hP hD hS hA 4 0 rfl rfl rfl hl.1 rfl (Nat.le_of_ble_eq_true rfl) dX4_isSoWith_36 ⟨Nat.zero_le _, Nat.zero_le _⟩ (fun u26 H locs h hP hD hS => ?_)
    obtain ⟨mo24, lo25⟩ := u26
    have hP : va_P D vwCl (cM kc a mo24 lo25) H := hP
    have hD : va_D A (cM kc a mo24 lo25) := hD
    obtain ⟨x27, ex27⟩ : ∃ z : Int32, z = i7 + 1 := ⟨_, rfl⟩
    have h := nm_out h x27 ex27
    refine lv_iinc (v := x27) (lv' := [(4, .int x27), (0, .ref (a 0))]) hx hb dX4_isSoWith_39 hl (k := 1) rfl (by rw [ex27]; rfl) (by decide) rfl (fun ls hl => ?_)
    refine lv_goto (tgt := 14) hx hb dX4_isSoWith_42 (by decide) ?_
    exact h ls H locs (lv_sub hl [1, 0] rfl) hP hD hS

def w_X4_kinds (p1 : Int32) (mo : S2) (lo : SL) (K : Int32 → S2 → SL → Prop) : Prop := w_X4_isOne p1 mo lo (fun r3 mo1 lo2 => br (r3 = 0) (K (-1) mo1 lo2) (lfp4 (fun G14 (i6 : Int32) (i7 : Int32) (mo8 : S2) (lo9 : SL) => br (4 ≤ i7) (K i6 mo8 lo9) (w_X4_isSoWith p1 (0 : Int32) i7 mo8 lo9 (fun r13 mo11 lo12 => w_X4_flag r13 (fun r15 => nm ((i6 ||| (r15 <<< (i7 &&& 31))) : Int32) (fun x17 => nm (i7 + 1 : Int32) (fun x18 => G14 x17 x18 mo11 lo12)))))) 0 0 mo1 lo2))
abbrev rm_X4_kinds : Room := { frames := 5, cells := 0, slots := 0, locals := 113 }
set_option maxHeartbeats 4000000 in
set_option maxRecDepth 100000 in
theorem c_X4_kinds (l : Launch) (D : va_G) (kc : Nat → ClassId) (a : Nat → Nat) (p1 : Int32) (mo : S2) (lo : SL) (sz : Nat) (K : Int32 → S2 → SL → Prop) (h : w_X4_kinds p1 mo lo K) : MetI l yX4_kinds wsX4_kinds rm_X4_kinds D kc (fun u : S2 × SL => cM kc a u.1 u.2) (mo, lo) [.ref (a 0), .int p1] sz (fun r u => K r u.1 u.2) := by
  refine q_ei (code := cX4_kinds) (maxL := 4) (by decide) rfl (Nat.le_of_ble_eq_true rfl) ?_
  intro p e s m args below meth c Q A hx hb hml hts hown hK hA hret ls hl hP hD hS
  have hown : s.vm.findClass RX4 = some m.cls := hown
  have hl : lv_has ls 4 [(0, .ref (a 0)), (1, .int p1)] := hl
  have hP : va_P D vwCl (cM kc a mo lo) s.heap := hP
  have hD : va_D A (cM kc a mo lo) := hD
  have hS : va_S A s.heap s.heap [] := hS
  obtain ⟨H, eH⟩ : ∃ z, z = s.heap := ⟨_, rfl⟩
  obtain ⟨locs, eL⟩ : ∃ z : List Loc, z = [] := ⟨_, rfl⟩
  have hP := q_heap hP eH
  have hS := q_heapS hS eH eL
  refine q_start eH eL ?_
  clear eH eL
  unfold w_X4_kinds at h
  refine lv_aload_n hx hb dX4_kinds_0 rfl (lv_at hl 0 rfl) ?_
  refine lv_iload_n hx hb dX4_kinds_1 rfl (lv_at hl 1 rfl) ?_
  refine q_cVi (As := [.int p1]) (rest := []) ⟨hx, hb, hml, hown, hts⟩ hK (c_X4_isOne l D kc a p1 mo lo H.size _ h) (cwV 1 hts gX4_kinds_X4_isOne rfl rfl rfl (by decide +kernel) ⟨Nat.le_of_ble_eq_true rfl, Nat.le_of_ble_eq_true rfl⟩) (cut_same (fun u : S2 × SL => cM kc a u.1 u.2) (mo, lo)) hP hD hS hA 4 0 rfl rfl rfl hl.1 rfl (Nat.le_of_ble_eq_true rfl) dX4_kinds_2 ⟨Nat.zero_le _, Nat.zero_le _⟩ (fun r3 u4 H locs h hP hD hS => ?_)
  obtain ⟨mo1, lo2⟩ := u4
  have hP : va_P D vwCl (cM kc a mo1 lo2) H := hP
  have hD : va_D A (cM kc a mo1 lo2) := hD
  refine lv_if_ne (tgt := 10) hx hb dX4_kinds_5 (by decide) (fun c5 => ?_) (fun c5 => ?_)
  · have h := br2 h c5
    refine lv_iconst (v := 0) hx hb dX4_kinds_10 (by decide) ?_
    refine lv_istore_n (lv' := [(2, .int 0), (0, .ref (a 0)), (1, .int p1)]) hx hb dX4_kinds_11 rfl hl (by decide) rfl (fun ls hl => ?_)
    refine lv_iconst (v := 0) hx hb dX4_kinds_12 (by decide) ?_
    refine lv_istore_n (lv' := [(3, .int 0), (2, .int 0), (0, .ref (a 0)), (1, .int p1)]) hx hb dX4_kinds_13 rfl hl (by decide) rfl (fun ls hl => ?_)
    refine h (fun (i6 : Int32) (i7 : Int32) (mo8 : S2) (lo9 : SL) => ∀ (ls : Array Slot) (H : Heap) (locs : List Loc), lv_has ls 4 [(0, .ref (a 0)), (1, .int p1), (2, .int i6), (3, .int i7)] → va_P D vwCl (cM kc a mo8 lo9) H → va_D A (cM kc a mo8 lo9) → va_S A s.heap H locs → W p l e rm_X4_kinds s m args below meth c H locs 0 0 Q (F0 m 14 ls [])) ?_ ls H locs (lv_sub hl [2, 3, 1, 0] rfl) hP hD hS
    intro i6 i7 mo8 lo9 h ls H locs hl hP hD hS
    refine lv_iload_n hx hb dX4_kinds_14 rfl (lv_at hl 3 rfl) ?_
    refine lv_iconst (v := 4) hx hb dX4_kinds_15 (by decide) ?_
    refine lv_icmp_ge (tgt := 40) hx hb dX4_kinds_16 (by decide) (fun c10 => ?_) (fun c10 => ?_)
    · have h := br1 h c10
      refine lv_iload_n hx hb dX4_kinds_40 rfl (lv_at hl 2 rfl) ?_
      exact hret i6 (mo8, lo9) H locs ls _ h hP hD hS dX4_kinds_41
    · have h := br2 h c10
      refine lv_iload_n hx hb dX4_kinds_19 rfl (lv_at hl 2 rfl) ?_
      refine lv_aload_n hx hb dX4_kinds_20 rfl (lv_at hl 0 rfl) ?_
      refine lv_iload_n hx hb dX4_kinds_21 rfl (lv_at hl 1 rfl) ?_
      refine lv_iconst (v := 0) hx hb dX4_kinds_22 (by decide) ?_
      refine lv_iload_n hx hb dX4_kinds_23 rfl (lv_at hl 3 rfl) ?_
      refine q_cVi (As := [.int p1, .int 0, .int i7]) (rest := [.int i6]) ⟨hx, hb, hml, hown, hts⟩ hK (c_X4_isSoWith l D kc a p1 (0 : Int32) i7 mo8 lo9 H.size _ h) (cwV 3 hts gX4_kinds_X4_isSoWith rfl rfl rfl (by decide +kernel) ⟨Nat.le_of_ble_eq_true rfl, Nat.le_of_ble_eq_true rfl⟩) (cut_same (fun u : S2 × SL => cM kc a u.1 u.2) (mo8, lo9)) hP hD hS hA 4 0 rfl rfl rfl hl.1 rfl (Nat.le_of_ble_eq_true rfl) dX4_kinds_24 ⟨Nat.zero_le _, Nat.zero_le _⟩ (fun r13 u14 H locs h hP hD hS => ?_)
      obtain ⟨mo11, lo12⟩ := u14
      have hP : va_P D vwCl (cM kc a mo11 lo12) H := hP
      have hD : va_D A (cM kc a mo11 lo12) := hD
      refine q_cSi (As := [.int r13]) (rest := [.int i6]) ⟨hx, hb, hml, hown, hts⟩ hK (c_X4_flag l D kc r13 H.size _ h) (va_cwS 1 hts gX4_kinds_X4_flag rfl rfl rfl (by decide +kernel) ⟨Nat.le_of_ble_eq_true rfl, Nat.le_of_ble_eq_true rfl⟩) (cut_nil _) hP hD hS hA rfl hl.1 rfl (Nat.le_of_ble_eq_true rfl) dX4_kinds_27 ⟨Nat.zero_le _, Nat.zero_le _⟩ (fun r15 _ H locs h hP hD hS => ?_)
      have hP : va_P D vwCl (cM kc a mo11 lo12) H := hP
      have hD : va_D A (cM kc a mo11 lo12) := hD
      refine lv_iload_n hx hb dX4_kinds_30 rfl (lv_at hl 3 rfl) ?_
      refine lv_ishl hx hb dX4_kinds_31 ?_
      refine lv_ior hx hb dX4_kinds_32 ?_
      refine lv_topi (fun x17 ex17 => ?_)
      have h := nm_out h x17 ex17
      refine lv_istore_n (lv' := [(2, .int x17), (0, .ref (a 0)), (1, .int p1), (3, .int i7)]) hx hb dX4_kinds_33 rfl hl (by decide) rfl (fun ls hl => ?_)
      obtain ⟨x18, ex18⟩ : ∃ z : Int32, z = i7 + 1 := ⟨_, rfl⟩
      have h := nm_out h x18 ex18
      refine lv_iinc (v := x18) (lv' := [(3, .int x18), (2, .int x17), (0, .ref (a 0)), (1, .int p1)]) hx hb dX4_kinds_34 hl (k := 3) rfl (by rw [ex18]; rfl) (by decide) rfl (fun ls hl => ?_)
      refine lv_goto (tgt := 14) hx hb dX4_kinds_37 (by decide) ?_
      exact h ls H locs (lv_sub hl [2, 3, 1, 0] rfl) hP hD hS
  · have h := br1 h c5
    refine lv_iconst (v := -1) hx hb dX4_kinds_8 (by decide) ?_
    exact hret (-1) (mo1, lo2) H locs ls _ h hP hD hS dX4_kinds_9

def w_X4_trades (p1 : Int32) (mo : S2) (lo : SL) (K : Int32 → S2 → SL → Prop) : Prop := w_X4_isOne p1 mo lo (fun r3 mo1 lo2 => br (r3 = 0) (K (-1) mo1 lo2) (lfp4 (fun G14 (i6 : Int32) (i7 : Int32) (mo8 : S2) (lo9 : SL) => br (20 < i7) (K i6 mo8 lo9) (w_X4_isSoWith p1 (2 : Int32) i7 mo8 lo9 (fun r13 mo11 lo12 => w_X4_flag r13 (fun r15 => nm ((i6 ||| (r15 <<< (i7 &&& 31))) : Int32) (fun x17 => nm (i7 + 1 : Int32) (fun x18 => G14 x17 x18 mo11 lo12)))))) 0 0 mo1 lo2))
abbrev rm_X4_trades : Room := { frames := 5, cells := 0, slots := 0, locals := 113 }
set_option maxHeartbeats 4000000 in
set_option maxRecDepth 100000 in
theorem c_X4_trades (l : Launch) (D : va_G) (kc : Nat → ClassId) (a : Nat → Nat) (p1 : Int32) (mo : S2) (lo : SL) (sz : Nat) (K : Int32 → S2 → SL → Prop) (h : w_X4_trades p1 mo lo K) : MetI l yX4_trades wsX4_trades rm_X4_trades D kc (fun u : S2 × SL => cM kc a u.1 u.2) (mo, lo) [.ref (a 0), .int p1] sz (fun r u => K r u.1 u.2) := by
  refine q_ei (code := cX4_trades) (maxL := 4) (by decide) rfl (Nat.le_of_ble_eq_true rfl) ?_
  intro p e s m args below meth c Q A hx hb hml hts hown hK hA hret ls hl hP hD hS
  have hown : s.vm.findClass RX4 = some m.cls := hown
  have hl : lv_has ls 4 [(0, .ref (a 0)), (1, .int p1)] := hl
  have hP : va_P D vwCl (cM kc a mo lo) s.heap := hP
  have hD : va_D A (cM kc a mo lo) := hD
  have hS : va_S A s.heap s.heap [] := hS
  obtain ⟨H, eH⟩ : ∃ z, z = s.heap := ⟨_, rfl⟩
  obtain ⟨locs, eL⟩ : ∃ z : List Loc, z = [] := ⟨_, rfl⟩
  have hP := q_heap hP eH
  have hS := q_heapS hS eH eL
  refine q_start eH eL ?_
  clear eH eL
  unfold w_X4_trades at h
  refine lv_aload_n hx hb dX4_trades_0 rfl (lv_at hl 0 rfl) ?_
  refine lv_iload_n hx hb dX4_trades_1 rfl (lv_at hl 1 rfl) ?_
  refine q_cVi (As := [.int p1]) (rest := []) ⟨hx, hb, hml, hown, hts⟩ hK (c_X4_isOne l D kc a p1 mo lo H.size _ h) (cwV 1 hts gX4_trades_X4_isOne rfl rfl rfl (by decide +kernel) ⟨Nat.le_of_ble_eq_true rfl, Nat.le_of_ble_eq_true rfl⟩) (cut_same (fun u : S2 × SL => cM kc a u.1 u.2) (mo, lo)) hP hD hS hA 4 0 rfl rfl rfl hl.1 rfl (Nat.le_of_ble_eq_true rfl) dX4_trades_2 ⟨Nat.zero_le _, Nat.zero_le _⟩ (fun r3 u4 H locs h hP hD hS => ?_)
  obtain ⟨mo1, lo2⟩ := u4
  have hP : va_P D vwCl (cM kc a mo1 lo2) H := hP
  have hD : va_D A (cM kc a mo1 lo2) := hD
  refine lv_if_ne (tgt := 10) hx hb dX4_trades_5 (by decide) (fun c5 => ?_) (fun c5 => ?_)
  · have h := br2 h c5
    refine lv_iconst (v := 0) hx hb dX4_trades_10 (by decide) ?_
    refine lv_istore_n (lv' := [(2, .int 0), (0, .ref (a 0)), (1, .int p1)]) hx hb dX4_trades_11 rfl hl (by decide) rfl (fun ls hl => ?_)
    refine lv_iconst (v := 0) hx hb dX4_trades_12 (by decide) ?_
    refine lv_istore_n (lv' := [(3, .int 0), (2, .int 0), (0, .ref (a 0)), (1, .int p1)]) hx hb dX4_trades_13 rfl hl (by decide) rfl (fun ls hl => ?_)
    refine h (fun (i6 : Int32) (i7 : Int32) (mo8 : S2) (lo9 : SL) => ∀ (ls : Array Slot) (H : Heap) (locs : List Loc), lv_has ls 4 [(0, .ref (a 0)), (1, .int p1), (2, .int i6), (3, .int i7)] → va_P D vwCl (cM kc a mo8 lo9) H → va_D A (cM kc a mo8 lo9) → va_S A s.heap H locs → W p l e rm_X4_trades s m args below meth c H locs 0 0 Q (F0 m 14 ls [])) ?_ ls H locs (lv_sub hl [2, 3, 1, 0] rfl) hP hD hS
    intro i6 i7 mo8 lo9 h ls H locs hl hP hD hS
    refine lv_iload_n hx hb dX4_trades_14 rfl (lv_at hl 3 rfl) ?_
    refine lv_bipush (v := 20) hx hb dX4_trades_15 (by decide) ?_
    refine lv_icmp_gt (tgt := 41) hx hb dX4_trades_17 (by decide) (fun c10 => ?_) (fun c10 => ?_)
    · have h := br1 h c10
      refine lv_iload_n hx hb dX4_trades_41 rfl (lv_at hl 2 rfl) ?_
      exact hret i6 (mo8, lo9) H locs ls _ h hP hD hS dX4_trades_42
    · have h := br2 h c10
      refine lv_iload_n hx hb dX4_trades_20 rfl (lv_at hl 2 rfl) ?_
      refine lv_aload_n hx hb dX4_trades_21 rfl (lv_at hl 0 rfl) ?_
      refine lv_iload_n hx hb dX4_trades_22 rfl (lv_at hl 1 rfl) ?_
      refine lv_iconst (v := 2) hx hb dX4_trades_23 (by decide) ?_
      refine lv_iload_n hx hb dX4_trades_24 rfl (lv_at hl 3 rfl) ?_
      refine q_cVi (As := [.int p1, .int 2, .int i7]) (rest := [.int i6]) ⟨hx, hb, hml, hown, hts⟩ hK (c_X4_isSoWith l D kc a p1 (2 : Int32) i7 mo8 lo9 H.size _ h) (cwV 3 hts gX4_trades_X4_isSoWith rfl rfl rfl (by decide +kernel) ⟨Nat.le_of_ble_eq_true rfl, Nat.le_of_ble_eq_true rfl⟩) (cut_same (fun u : S2 × SL => cM kc a u.1 u.2) (mo8, lo9)) hP hD hS hA 4 0 rfl rfl rfl hl.1 rfl (Nat.le_of_ble_eq_true rfl) dX4_trades_25 ⟨Nat.zero_le _, Nat.zero_le _⟩ (fun r13 u14 H locs h hP hD hS => ?_)
      obtain ⟨mo11, lo12⟩ := u14
      have hP : va_P D vwCl (cM kc a mo11 lo12) H := hP
      have hD : va_D A (cM kc a mo11 lo12) := hD
      refine q_cSi (As := [.int r13]) (rest := [.int i6]) ⟨hx, hb, hml, hown, hts⟩ hK (c_X4_flag l D kc r13 H.size _ h) (va_cwS 1 hts gX4_trades_X4_flag rfl rfl rfl (by decide +kernel) ⟨Nat.le_of_ble_eq_true rfl, Nat.le_of_ble_eq_true rfl⟩) (cut_nil _) hP hD hS hA rfl hl.1 rfl (Nat.le_of_ble_eq_true rfl) dX4_trades_28 ⟨Nat.zero_le _, Nat.zero_le _⟩ (fun r15 _ H locs h hP hD hS => ?_)
      have hP : va_P D vwCl (cM kc a mo11 lo12) H := hP
      have hD : va_D A (cM kc a mo11 lo12) := hD
      refine lv_iload_n hx hb dX4_trades_31 rfl (lv_at hl 3 rfl) ?_
      refine lv_ishl hx hb dX4_trades_32 ?_
      refine lv_ior hx hb dX4_trades_33 ?_
      refine lv_topi (fun x17 ex17 => ?_)
      have h := nm_out h x17 ex17
      refine lv_istore_n (lv' := [(2, .int x17), (0, .ref (a 0)), (1, .int p1), (3, .int i7)]) hx hb dX4_trades_34 rfl hl (by decide) rfl (fun ls hl => ?_)
      obtain ⟨x18, ex18⟩ : ∃ z : Int32, z = i7 + 1 := ⟨_, rfl⟩
      have h := nm_out h x18 ex18
      refine lv_iinc (v := x18) (lv' := [(3, .int x18), (2, .int x17), (0, .ref (a 0)), (1, .int p1)]) hx hb dX4_trades_35 hl (k := 3) rfl (by rw [ex18]; rfl) (by decide) rfl (fun ls hl => ?_)
      refine lv_goto (tgt := 14) hx hb dX4_trades_38 (by decide) ?_
      exact h ls H locs (lv_sub hl [2, 3, 1, 0] rfl) hP hD hS
  · have h := br1 h c5
    refine lv_iconst (v := -1) hx hb dX4_trades_8 (by decide) ?_
    exact hret (-1) (mo1, lo2) H locs ls _ h hP hD hS dX4_trades_9

