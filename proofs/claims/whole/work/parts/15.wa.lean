def w_X1_tellSlump (t : S2) (w : S2) (K : S2 → S2 → Prop) : Prop := jn (fun (t1 : S2) (w2 : S2) => nm ((va_up t1 0 (upd (t1 0) 7 1)) : S2) (fun t3 => w_X1_takeNumber (0 : Int32) (9 : Int32) t3 (fun r5 t4 => nm ((va_up w2 0 (upd (w2 0) 2 r5)) : S2) (fun w7 => K t4 w7)))) (fun J16 => br ((t 0 7) = 0) (J16 t w) (w_X1_refuse (4 : Int32) (t 0 6) t (fun t9 => J16 t9 w)))
abbrev rm_X1_tellSlump : Room := { frames := 3, cells := 0, slots := 0, locals := 69 }
set_option maxHeartbeats 4000000 in
set_option maxRecDepth 100000 in
theorem c_X1_tellSlump (l : Launch) (D : va_G) (kc : Nat → ClassId) (a : Nat → Nat) (b : Nat → Nat) (t : S2) (w : S2) (sz : Nat) (K : S2 → S2 → Prop) (h : w_X1_tellSlump t w K) : MetV l yX1_tellSlump wsX1_tellSlump rm_X1_tellSlump D kc (fun u : S2 × S2 => cT kc a u.1 ++ cWl kc b u.2) (t, w) [.ref (a 0), .ref (b 0)] sz (fun u => K u.1 u.2) := by
  refine q_ev (code := cX1_tellSlump) (maxL := 2) (by decide) rfl (Nat.le_of_ble_eq_true rfl) ?_
  intro p e s m args below meth c Q A hx hb hml hts hown hK hA hret ls hl hP hD hS
  have hown : s.vm.findClass RX1 = some m.cls := hown
  have hl : lv_has ls 2 [(0, .ref (a 0)), (1, .ref (b 0))] := hl
  have hP : va_P D vwCl (cT kc a t ++ cWl kc b w) s.heap := hP
  have hD : va_D A (cT kc a t ++ cWl kc b w) := hD
  have hS : va_S A s.heap s.heap [] := hS
  obtain ⟨H, eH⟩ : ∃ z, z = s.heap := ⟨_, rfl⟩
  obtain ⟨locs, eL⟩ : ∃ z : List Loc, z = [] := ⟨_, rfl⟩
  have hP := q_heap hP eH
  have hS := q_heapS hS eH eL
  refine q_start eH eL ?_
  clear eH eL
  have hi1 : ∀ w ∈ u_ws RX1 TX1 9, w ∈ wsX1_tellSlump := by decide +kernel
  have hi2 : ∀ w ∈ u_ws RX2 TX2 13, w ∈ wsX1_tellSlump := by decide +kernel
  unfold w_X1_tellSlump at h
  refine lv_aload_n hx hb dX1_tellSlump_0 rfl (lv_at hl 0 rfl) ?_
  refine va_get (D := D) (ci := 1) (v := .int (t 0 7)) (C := RX1) (T := TX1) (N := 9) hx hb hts hi1 hown hK.1 hP 0 rfl rfl 7 (by decide) (hts (.fieldLink RX1 28 "LastPenny$Tape" "slumpTold" "Z") (by decide +kernel)) (fun _ h9 => h9) rfl dX1_tellSlump_1 ?_
  refine jn_elim h (fun J16 eJ16 h => ?_)
  have hJ_16 : ∀ (t1 : S2) (w2 : S2) (ls : Array Slot) (H : Heap) (locs : List Loc), J16 t1 w2 → lv_has ls 2 [(0, .ref (a 0)), (1, .ref (b 0))] → va_P D vwCl (cT kc a t1 ++ cWl kc b w2) H → va_D A (cT kc a t1 ++ cWl kc b w2) → va_S A s.heap H locs → W p l e rm_X1_tellSlump s m args below meth c H locs 0 0 Q (F0 m 16 ls []) := by
    intro t1 w2 ls H locs h hl hP hD hS
    subst eJ16
    refine lv_aload_n hx hb dX1_tellSlump_16 rfl (lv_at hl 0 rfl) ?_
    refine lv_iconst (v := 1) hx hb dX1_tellSlump_17 (by decide) ?_
    refine va_put (D := D) (ci := 1) (v := .int 1) (ty := .boolean) (C := RX1) (T := TX1) (N := 9) hx hb hts hi1 tyX1 tyX1_ok nmX1 hown hK.1 hP hD hS 0 rfl rfl 7 (by decide) (hts (.fieldLink RX1 28 "LastPenny$Tape" "slumpTold" "Z") (by decide +kernel)) (fun _ h9 => h9) rfl (by decide +kernel) rfl rfl (Nat.le_of_ble_eq_true rfl) dX1_tellSlump_18 (fun H locs hP hD hS => ?_)
    obtain ⟨t3, et3⟩ : ∃ z, z = (va_up t1 0 (upd (t1 0) 7 1)) := ⟨_, rfl⟩
    have h := nm_out h t3 et3
    have hP : va_P D vwCl (cT kc a t3 ++ cWl kc b w2) H := q_to hP (by subst et3; rfl)
    have hD : va_D A (cT kc a t3 ++ cWl kc b w2) := q_toD hD (by subst et3; rfl)
    refine lv_aload_n hx hb dX1_tellSlump_21 rfl (lv_at hl 1 rfl) ?_
    refine lv_aload_n hx hb dX1_tellSlump_22 rfl (lv_at hl 0 rfl) ?_
    refine lv_iconst (v := 0) hx hb dX1_tellSlump_23 (by decide) ?_
    refine lv_bipush (v := 9) hx hb dX1_tellSlump_24 (by decide) ?_
    refine q_cVi (As := [.int 0, .int 9]) (rest := [.ref (b 0)]) ⟨hx, hb, hml, hown, hts⟩ hK (c_X1_takeNumber l D kc a (0 : Int32) (9 : Int32) t3 H.size _ h) (cwV 2 hts gX1_tellSlump_X1_takeNumber rfl rfl rfl (by decide +kernel) ⟨Nat.le_of_ble_eq_true rfl, Nat.le_of_ble_eq_true rfl⟩) (cut_TW_T D kc a b t3 w2) hP hD hS hA 1 0 rfl rfl rfl hl.1 rfl (Nat.le_of_ble_eq_true rfl) dX1_tellSlump_26 ⟨Nat.zero_le _, Nat.zero_le _⟩ (fun r5 u6 H locs h hP hD hS => ?_)
    obtain ⟨t4, rfl⟩ : ∃ z, z = u6 := ⟨_, rfl⟩
    have hP : va_P D vwCl (cT kc a t4 ++ cWl kc b w2) H := hP
    have hD : va_D A (cT kc a t4 ++ cWl kc b w2) := hD
    refine va_put (D := D) (ci := 2) (v := .int r5) (ty := .int) (C := RX2) (T := TX2) (N := 13) hx hb hts hi2 tyX2 tyX2_ok nmX2 hown hK.1 hP hD hS 2 rfl rfl 2 (by decide) (hts (.fieldLink RX1 89 "LastPenny$World" "slumpNow" "I") (by decide +kernel)) (fun _ h9 => h9) rfl (by decide +kernel) rfl rfl (Nat.le_of_ble_eq_true rfl) dX1_tellSlump_29 (fun H locs hP hD hS => ?_)
    obtain ⟨w7, ew7⟩ : ∃ z, z = (va_up w2 0 (upd (w2 0) 2 r5)) := ⟨_, rfl⟩
    have h := nm_out h w7 ew7
    have hP : va_P D vwCl (cT kc a t4 ++ cWl kc b w7) H := q_to hP (by subst ew7; rfl)
    have hD : va_D A (cT kc a t4 ++ cWl kc b w7) := q_toD hD (by subst ew7; rfl)
    exact hret (t4, w7) H locs ls _ h hP hD hS dX1_tellSlump_32
  refine lv_if_eq (tgt := 16) hx hb dX1_tellSlump_4 (by decide) (fun c8 => ?_) (fun c8 => ?_)
  · have h := br1 h c8
    exact hJ_16 t w ls H locs h (lv_sub hl [0, 1] rfl) hP hD hS
  · have h := br2 h c8
    refine lv_aload_n hx hb dX1_tellSlump_7 rfl (lv_at hl 0 rfl) ?_
    refine lv_iconst (v := 4) hx hb dX1_tellSlump_8 (by decide) ?_
    refine lv_aload_n hx hb dX1_tellSlump_9 rfl (lv_at hl 0 rfl) ?_
    refine va_get (D := D) (ci := 1) (v := .int (t 0 6)) (C := RX1) (T := TX1) (N := 9) hx hb hts hi1 hown hK.1 hP 0 rfl rfl 6 (by decide) (hts (.fieldLink RX1 59 "LastPenny$Tape" "start" "I") (by decide +kernel)) (fun _ h9 => h9) rfl dX1_tellSlump_10 ?_
    refine q_cVv (As := [.int 4, .int (t 0 6)]) (rest := []) ⟨hx, hb, hml, hown, hts⟩ hK (c_X1_refuse l D kc a (4 : Int32) (t 0 6) t H.size _ h) (cwV 2 hts gX1_tellSlump_X1_refuse rfl rfl rfl (by decide +kernel) ⟨Nat.le_of_ble_eq_true rfl, Nat.le_of_ble_eq_true rfl⟩) (cut_TW_T D kc a b t w) hP hD hS hA 1 0 rfl rfl rfl hl.1 rfl (Nat.le_of_ble_eq_true rfl) dX1_tellSlump_13 ⟨Nat.zero_le _, Nat.zero_le _⟩ (fun u10 H locs h hP hD hS => ?_)
    obtain ⟨t9, rfl⟩ : ∃ z, z = u10 := ⟨_, rfl⟩
    have hP : va_P D vwCl (cT kc a t9 ++ cWl kc b w) H := hP
    have hD : va_D A (cT kc a t9 ++ cWl kc b w) := hD
    exact hJ_16 t9 w ls H locs h (lv_sub hl [0, 1] rfl) hP hD hS

def w_X1_tellCoin (t : S2) (w : S2) (K : S2 → S2 → Prop) : Prop := jn (fun (t1 : S2) (w2 : S2) => nm ((va_up t1 0 (upd (t1 0) 8 1)) : S2) (fun t3 => w_X1_takeNumber (0 : Int32) (4 : Int32) t3 (fun r5 t4 => nm ((va_up w2 0 (upd (w2 0) 3 r5)) : S2) (fun w7 => K t4 w7)))) (fun J16 => br ((t 0 8) = 0) (J16 t w) (w_X1_refuse (4 : Int32) (t 0 6) t (fun t9 => J16 t9 w)))
abbrev rm_X1_tellCoin : Room := { frames := 3, cells := 0, slots := 0, locals := 69 }
set_option maxHeartbeats 4000000 in
set_option maxRecDepth 100000 in
theorem c_X1_tellCoin (l : Launch) (D : va_G) (kc : Nat → ClassId) (a : Nat → Nat) (b : Nat → Nat) (t : S2) (w : S2) (sz : Nat) (K : S2 → S2 → Prop) (h : w_X1_tellCoin t w K) : MetV l yX1_tellCoin wsX1_tellCoin rm_X1_tellCoin D kc (fun u : S2 × S2 => cT kc a u.1 ++ cWl kc b u.2) (t, w) [.ref (a 0), .ref (b 0)] sz (fun u => K u.1 u.2) := by
  refine q_ev (code := cX1_tellCoin) (maxL := 2) (by decide) rfl (Nat.le_of_ble_eq_true rfl) ?_
  intro p e s m args below meth c Q A hx hb hml hts hown hK hA hret ls hl hP hD hS
  have hown : s.vm.findClass RX1 = some m.cls := hown
  have hl : lv_has ls 2 [(0, .ref (a 0)), (1, .ref (b 0))] := hl
  have hP : va_P D vwCl (cT kc a t ++ cWl kc b w) s.heap := hP
  have hD : va_D A (cT kc a t ++ cWl kc b w) := hD
  have hS : va_S A s.heap s.heap [] := hS
  obtain ⟨H, eH⟩ : ∃ z, z = s.heap := ⟨_, rfl⟩
  obtain ⟨locs, eL⟩ : ∃ z : List Loc, z = [] := ⟨_, rfl⟩
  have hP := q_heap hP eH
  have hS := q_heapS hS eH eL
  refine q_start eH eL ?_
  clear eH eL
  have hi1 : ∀ w ∈ u_ws RX1 TX1 9, w ∈ wsX1_tellCoin := by decide +kernel
  have hi2 : ∀ w ∈ u_ws RX2 TX2 13, w ∈ wsX1_tellCoin := by decide +kernel
  unfold w_X1_tellCoin at h
  refine lv_aload_n hx hb dX1_tellCoin_0 rfl (lv_at hl 0 rfl) ?_
  refine va_get (D := D) (ci := 1) (v := .int (t 0 8)) (C := RX1) (T := TX1) (N := 9) hx hb hts hi1 hown hK.1 hP 0 rfl rfl 8 (by decide) (hts (.fieldLink RX1 32 "LastPenny$Tape" "coinTold" "Z") (by decide +kernel)) (fun _ h9 => h9) rfl dX1_tellCoin_1 ?_
  refine jn_elim h (fun J16 eJ16 h => ?_)
  have hJ_16 : ∀ (t1 : S2) (w2 : S2) (ls : Array Slot) (H : Heap) (locs : List Loc), J16 t1 w2 → lv_has ls 2 [(0, .ref (a 0)), (1, .ref (b 0))] → va_P D vwCl (cT kc a t1 ++ cWl kc b w2) H → va_D A (cT kc a t1 ++ cWl kc b w2) → va_S A s.heap H locs → W p l e rm_X1_tellCoin s m args below meth c H locs 0 0 Q (F0 m 16 ls []) := by
    intro t1 w2 ls H locs h hl hP hD hS
    subst eJ16
    refine lv_aload_n hx hb dX1_tellCoin_16 rfl (lv_at hl 0 rfl) ?_
    refine lv_iconst (v := 1) hx hb dX1_tellCoin_17 (by decide) ?_
    refine va_put (D := D) (ci := 1) (v := .int 1) (ty := .boolean) (C := RX1) (T := TX1) (N := 9) hx hb hts hi1 tyX1 tyX1_ok nmX1 hown hK.1 hP hD hS 0 rfl rfl 8 (by decide) (hts (.fieldLink RX1 32 "LastPenny$Tape" "coinTold" "Z") (by decide +kernel)) (fun _ h9 => h9) rfl (by decide +kernel) rfl rfl (Nat.le_of_ble_eq_true rfl) dX1_tellCoin_18 (fun H locs hP hD hS => ?_)
    obtain ⟨t3, et3⟩ : ∃ z, z = (va_up t1 0 (upd (t1 0) 8 1)) := ⟨_, rfl⟩
    have h := nm_out h t3 et3
    have hP : va_P D vwCl (cT kc a t3 ++ cWl kc b w2) H := q_to hP (by subst et3; rfl)
    have hD : va_D A (cT kc a t3 ++ cWl kc b w2) := q_toD hD (by subst et3; rfl)
    refine lv_aload_n hx hb dX1_tellCoin_21 rfl (lv_at hl 1 rfl) ?_
    refine lv_aload_n hx hb dX1_tellCoin_22 rfl (lv_at hl 0 rfl) ?_
    refine lv_iconst (v := 0) hx hb dX1_tellCoin_23 (by decide) ?_
    refine lv_iconst (v := 4) hx hb dX1_tellCoin_24 (by decide) ?_
    refine q_cVi (As := [.int 0, .int 4]) (rest := [.ref (b 0)]) ⟨hx, hb, hml, hown, hts⟩ hK (c_X1_takeNumber l D kc a (0 : Int32) (4 : Int32) t3 H.size _ h) (cwV 2 hts gX1_tellCoin_X1_takeNumber rfl rfl rfl (by decide +kernel) ⟨Nat.le_of_ble_eq_true rfl, Nat.le_of_ble_eq_true rfl⟩) (cut_TW_T D kc a b t3 w2) hP hD hS hA 1 0 rfl rfl rfl hl.1 rfl (Nat.le_of_ble_eq_true rfl) dX1_tellCoin_25 ⟨Nat.zero_le _, Nat.zero_le _⟩ (fun r5 u6 H locs h hP hD hS => ?_)
    obtain ⟨t4, rfl⟩ : ∃ z, z = u6 := ⟨_, rfl⟩
    have hP : va_P D vwCl (cT kc a t4 ++ cWl kc b w2) H := hP
    have hD : va_D A (cT kc a t4 ++ cWl kc b w2) := hD
    refine va_put (D := D) (ci := 2) (v := .int r5) (ty := .int) (C := RX2) (T := TX2) (N := 13) hx hb hts hi2 tyX2 tyX2_ok nmX2 hown hK.1 hP hD hS 2 rfl rfl 3 (by decide) (hts (.fieldLink RX1 92 "LastPenny$World" "holder" "I") (by decide +kernel)) (fun _ h9 => h9) rfl (by decide +kernel) rfl rfl (Nat.le_of_ble_eq_true rfl) dX1_tellCoin_28 (fun H locs hP hD hS => ?_)
    obtain ⟨w7, ew7⟩ : ∃ z, z = (va_up w2 0 (upd (w2 0) 3 r5)) := ⟨_, rfl⟩
    have h := nm_out h w7 ew7
    have hP : va_P D vwCl (cT kc a t4 ++ cWl kc b w7) H := q_to hP (by subst ew7; rfl)
    have hD : va_D A (cT kc a t4 ++ cWl kc b w7) := q_toD hD (by subst ew7; rfl)
    exact hret (t4, w7) H locs ls _ h hP hD hS dX1_tellCoin_31
  refine lv_if_eq (tgt := 16) hx hb dX1_tellCoin_4 (by decide) (fun c8 => ?_) (fun c8 => ?_)
  · have h := br1 h c8
    exact hJ_16 t w ls H locs h (lv_sub hl [0, 1] rfl) hP hD hS
  · have h := br2 h c8
    refine lv_aload_n hx hb dX1_tellCoin_7 rfl (lv_at hl 0 rfl) ?_
    refine lv_iconst (v := 4) hx hb dX1_tellCoin_8 (by decide) ?_
    refine lv_aload_n hx hb dX1_tellCoin_9 rfl (lv_at hl 0 rfl) ?_
    refine va_get (D := D) (ci := 1) (v := .int (t 0 6)) (C := RX1) (T := TX1) (N := 9) hx hb hts hi1 hown hK.1 hP 0 rfl rfl 6 (by decide) (hts (.fieldLink RX1 59 "LastPenny$Tape" "start" "I") (by decide +kernel)) (fun _ h9 => h9) rfl dX1_tellCoin_10 ?_
    refine q_cVv (As := [.int 4, .int (t 0 6)]) (rest := []) ⟨hx, hb, hml, hown, hts⟩ hK (c_X1_refuse l D kc a (4 : Int32) (t 0 6) t H.size _ h) (cwV 2 hts gX1_tellCoin_X1_refuse rfl rfl rfl (by decide +kernel) ⟨Nat.le_of_ble_eq_true rfl, Nat.le_of_ble_eq_true rfl⟩) (cut_TW_T D kc a b t w) hP hD hS hA 1 0 rfl rfl rfl hl.1 rfl (Nat.le_of_ble_eq_true rfl) dX1_tellCoin_13 ⟨Nat.zero_le _, Nat.zero_le _⟩ (fun u10 H locs h hP hD hS => ?_)
    obtain ⟨t9, rfl⟩ : ∃ z, z = u10 := ⟨_, rfl⟩
    have hP : va_P D vwCl (cT kc a t9 ++ cWl kc b w) H := hP
    have hD : va_D A (cT kc a t9 ++ cWl kc b w) := hD
    exact hJ_16 t9 w ls H locs h (lv_sub hl [0, 1] rfl) hP hD hS

def w_X2_addGift (p1 : Int32) (p2 : Int32) (p3 : Int32) (p4 : Int32) (w : S2) (K : Int32 → S2 → Prop) : Prop := br ((w 0 4) < 4) (nm (((w 0 4) * 4) : Int32) (fun x2 => vp_in x2 16 ∧ (nm ((va_up w 5 (upd (w 5) x2.toNatClampNeg p1)) : S2) (fun w4 => vp_in (x2 + 1) 16 ∧ (nm ((va_up w4 5 (upd (w4 5) (x2 + 1).toNatClampNeg p2)) : S2) (fun w6 => vp_in (x2 + 2) 16 ∧ (nm ((va_up w6 5 (upd (w6 5) (x2 + 2).toNatClampNeg p3)) : S2) (fun w8 => vp_in (x2 + 3) 16 ∧ (nm ((va_up w8 5 (upd (w8 5) (x2 + 3).toNatClampNeg p4)) : S2) (fun w10 => nm ((va_up w10 0 (upd (w10 0) 4 ((w10 0 4) + 1))) : S2) (fun w11 => K 1 w11))))))))))) (K 0 w)
abbrev rm_X2_addGift : Room := { frames := 0, cells := 0, slots := 0, locals := 0 }
set_option maxHeartbeats 4000000 in
set_option maxRecDepth 100000 in
theorem c_X2_addGift (l : Launch) (D : va_G) (kc : Nat → ClassId) (a : Nat → Nat) (p1 : Int32) (p2 : Int32) (p3 : Int32) (p4 : Int32) (w : S2) (sz : Nat) (K : Int32 → S2 → Prop) (h : w_X2_addGift p1 p2 p3 p4 w K) : MetI l yX2_addGift wsX2_addGift rm_X2_addGift D kc (fun u : S2 => cWl kc a u) w [.ref (a 0), .int p1, .int p2, .int p3, .int p4] sz (fun r u => K r u) := by
  refine q_ez (code := cX2_addGift) (maxL := 6) (by decide) rfl (Nat.le_of_ble_eq_true rfl) ?_
  intro p e s m args below meth c Q A hx hb hml hts hown hK hA hret ls hl hP hD hS
  have hown : s.vm.findClass RX2 = some m.cls := hown
  have hl : lv_has ls 6 [(0, .ref (a 0)), (1, .int p1), (2, .int p2), (3, .int p3), (4, .int p4)] := hl
  have hP : va_P D vwCl (cWl kc a w) s.heap := hP
  have hD : va_D A (cWl kc a w) := hD
  have hS : va_S A s.heap s.heap [] := hS
  obtain ⟨H, eH⟩ : ∃ z, z = s.heap := ⟨_, rfl⟩
  obtain ⟨locs, eL⟩ : ∃ z : List Loc, z = [] := ⟨_, rfl⟩
  have hP := q_heap hP eH
  have hS := q_heapS hS eH eL
  refine q_start eH eL ?_
  clear eH eL
  have hi2 : ∀ w ∈ u_ws RX2 TX2 13, w ∈ wsX2_addGift := by decide +kernel
  unfold w_X2_addGift at h
  refine lv_aload_n hx hb dX2_addGift_0 rfl (lv_at hl 0 rfl) ?_
  refine va_get (D := D) (ci := 2) (v := .int (w 0 4)) (C := RX2) (T := TX2) (N := 13) hx hb hts hi2 hown hK.1 hP 0 rfl rfl 4 (by decide) (hts (.fieldLink RX2 46 "LastPenny$World" "gifts" "I") (by decide +kernel)) (fun _ h9 => h9) rfl dX2_addGift_1 ?_
  refine lv_iconst (v := 4) hx hb dX2_addGift_4 (by decide) ?_
  refine lv_icmp_lt (tgt := 10) hx hb dX2_addGift_5 (by decide) (fun c1 => ?_) (fun c1 => ?_)
  · have h := br1 h c1
    refine lv_aload_n hx hb dX2_addGift_10 rfl (lv_at hl 0 rfl) ?_
    refine va_get (D := D) (ci := 2) (v := .int (w 0 4)) (C := RX2) (T := TX2) (N := 13) hx hb hts hi2 hown hK.1 hP 0 rfl rfl 4 (by decide) (hts (.fieldLink RX2 46 "LastPenny$World" "gifts" "I") (by decide +kernel)) (fun _ h9 => h9) rfl dX2_addGift_11 ?_
    refine lv_iconst (v := 4) hx hb dX2_addGift_14 (by decide) ?_
    refine lv_imul hx hb dX2_addGift_15 ?_
    refine lv_topi (fun x2 ex2 => ?_)
    have h := nm_out h x2 ex2
    refine lv_istore (lv' := [(5, .int x2), (0, .ref (a 0)), (1, .int p1), (2, .int p2), (3, .int p3), (4, .int p4)]) hx hb dX2_addGift_16 hl (by decide) rfl (fun ls hl => ?_)
    refine lv_aload_n hx hb dX2_addGift_18 rfl (lv_at hl 1 rfl) ?_
    refine va_get (D := D) (ci := 2) (v := .ref (a 5)) (C := RX2) (T := TX2) (N := 13) hx hb hts hi2 hown hK.1 hP 0 rfl rfl 10 (by decide) (hts (.fieldLink RX2 24 "LastPenny$World" "giftCells" "[I") (by decide +kernel)) (fun _ h9 => h9) rfl dX2_addGift_19 ?_
    refine lv_iload hx hb dX2_addGift_22 (lv_at hl 0 rfl) ?_
    refine lv_iload_n hx hb dX2_addGift_24 rfl (lv_at hl 2 rfl) ?_
    obtain ⟨hi_3, h⟩ := h
    refine va_iast hx hb hK.1 hP hD hS 5 0 rfl rfl hi_3 dX2_addGift_25 (fun H locs hP hD hS => ?_)
    obtain ⟨w4, ew4⟩ : ∃ z, z = (va_up w 5 (upd (w 5) x2.toNatClampNeg p1)) := ⟨_, rfl⟩
    have h := nm_out h w4 ew4
    have hP : va_P D vwCl (cWl kc a w4) H := q_to hP (by subst ew4; rfl)
    have hD : va_D A (cWl kc a w4) := q_toD hD (by subst ew4; rfl)
    refine lv_aload_n hx hb dX2_addGift_26 rfl (lv_at hl 1 rfl) ?_
    refine va_get (D := D) (ci := 2) (v := .ref (a 5)) (C := RX2) (T := TX2) (N := 13) hx hb hts hi2 hown hK.1 hP 0 rfl rfl 10 (by decide) (hts (.fieldLink RX2 24 "LastPenny$World" "giftCells" "[I") (by decide +kernel)) (fun _ h9 => h9) rfl dX2_addGift_27 ?_
    refine lv_iload hx hb dX2_addGift_30 (lv_at hl 0 rfl) ?_
    refine lv_iconst (v := 1) hx hb dX2_addGift_32 (by decide) ?_
    refine lv_iadd hx hb dX2_addGift_33 ?_
    refine lv_iload_n hx hb dX2_addGift_34 rfl (lv_at hl 3 rfl) ?_
    obtain ⟨hi_5, h⟩ := h
    refine va_iast hx hb hK.1 hP hD hS 5 0 rfl rfl hi_5 dX2_addGift_35 (fun H locs hP hD hS => ?_)
    obtain ⟨w6, ew6⟩ : ∃ z, z = (va_up w4 5 (upd (w4 5) (x2 + 1).toNatClampNeg p2)) := ⟨_, rfl⟩
    have h := nm_out h w6 ew6
    have hP : va_P D vwCl (cWl kc a w6) H := q_to hP (by subst ew6; rfl)
    have hD : va_D A (cWl kc a w6) := q_toD hD (by subst ew6; rfl)
    refine lv_aload_n hx hb dX2_addGift_36 rfl (lv_at hl 1 rfl) ?_
    refine va_get (D := D) (ci := 2) (v := .ref (a 5)) (C := RX2) (T := TX2) (N := 13) hx hb hts hi2 hown hK.1 hP 0 rfl rfl 10 (by decide) (hts (.fieldLink RX2 24 "LastPenny$World" "giftCells" "[I") (by decide +kernel)) (fun _ h9 => h9) rfl dX2_addGift_37 ?_
    refine lv_iload hx hb dX2_addGift_40 (lv_at hl 0 rfl) ?_
    refine lv_iconst (v := 2) hx hb dX2_addGift_42 (by decide) ?_
    refine lv_iadd hx hb dX2_addGift_43 ?_
    refine lv_iload_n hx hb dX2_addGift_44 rfl (lv_at hl 4 rfl) ?_
    obtain ⟨hi_7, h⟩ := h
    refine va_iast hx hb hK.1 hP hD hS 5 0 rfl rfl hi_7 dX2_addGift_45 (fun H locs hP hD hS => ?_)
    obtain ⟨w8, ew8⟩ : ∃ z, z = (va_up w6 5 (upd (w6 5) (x2 + 2).toNatClampNeg p3)) := ⟨_, rfl⟩
    have h := nm_out h w8 ew8
    have hP : va_P D vwCl (cWl kc a w8) H := q_to hP (by subst ew8; rfl)
    have hD : va_D A (cWl kc a w8) := q_toD hD (by subst ew8; rfl)
    refine lv_aload_n hx hb dX2_addGift_46 rfl (lv_at hl 1 rfl) ?_
    refine va_get (D := D) (ci := 2) (v := .ref (a 5)) (C := RX2) (T := TX2) (N := 13) hx hb hts hi2 hown hK.1 hP 0 rfl rfl 10 (by decide) (hts (.fieldLink RX2 24 "LastPenny$World" "giftCells" "[I") (by decide +kernel)) (fun _ h9 => h9) rfl dX2_addGift_47 ?_
    refine lv_iload hx hb dX2_addGift_50 (lv_at hl 0 rfl) ?_
    refine lv_iconst (v := 3) hx hb dX2_addGift_52 (by decide) ?_
    refine lv_iadd hx hb dX2_addGift_53 ?_
    refine lv_iload hx hb dX2_addGift_54 (lv_at hl 5 rfl) ?_
    obtain ⟨hi_9, h⟩ := h
    refine va_iast hx hb hK.1 hP hD hS 5 0 rfl rfl hi_9 dX2_addGift_56 (fun H locs hP hD hS => ?_)
    obtain ⟨w10, ew10⟩ : ∃ z, z = (va_up w8 5 (upd (w8 5) (x2 + 3).toNatClampNeg p4)) := ⟨_, rfl⟩
    have h := nm_out h w10 ew10
    have hP : va_P D vwCl (cWl kc a w10) H := q_to hP (by subst ew10; rfl)
    have hD : va_D A (cWl kc a w10) := q_toD hD (by subst ew10; rfl)
    refine lv_aload_n hx hb dX2_addGift_57 rfl (lv_at hl 1 rfl) ?_
    refine lv_dup hx hb dX2_addGift_58 rfl ?_
    refine va_get (D := D) (ci := 2) (v := .int (w10 0 4)) (C := RX2) (T := TX2) (N := 13) hx hb hts hi2 hown hK.1 hP 0 rfl rfl 4 (by decide) (hts (.fieldLink RX2 46 "LastPenny$World" "gifts" "I") (by decide +kernel)) (fun _ h9 => h9) rfl dX2_addGift_59 ?_
    refine lv_iconst (v := 1) hx hb dX2_addGift_62 (by decide) ?_
    refine lv_iadd hx hb dX2_addGift_63 ?_
    refine va_put (D := D) (ci := 2) (v := .int ((w10 0 4) + 1)) (ty := .int) (C := RX2) (T := TX2) (N := 13) hx hb hts hi2 tyX2 tyX2_ok nmX2 hown hK.1 hP hD hS 0 rfl rfl 4 (by decide) (hts (.fieldLink RX2 46 "LastPenny$World" "gifts" "I") (by decide +kernel)) (fun _ h9 => h9) rfl (by decide +kernel) rfl rfl (Nat.le_of_ble_eq_true rfl) dX2_addGift_64 (fun H locs hP hD hS => ?_)
    obtain ⟨w11, ew11⟩ : ∃ z, z = (va_up w10 0 (upd (w10 0) 4 ((w10 0 4) + 1))) := ⟨_, rfl⟩
    have h := nm_out h w11 ew11
    have hP : va_P D vwCl (cWl kc a w11) H := q_to hP (by subst ew11; rfl)
    have hD : va_D A (cWl kc a w11) := q_toD hD (by subst ew11; rfl)
    refine lv_iconst (v := 1) hx hb dX2_addGift_67 (by decide) ?_
    exact hret 1 w11 H locs ls _ rfl h hP hD hS dX2_addGift_68
  · have h := br2 h c1
    refine lv_iconst (v := 0) hx hb dX2_addGift_8 (by decide) ?_
    exact hret 0 w H locs ls _ rfl h hP hD hS dX2_addGift_9

def w_X1_tellGift (t : S2) (w : S2) (K : S2 → S2 → Prop) : Prop := jn (fun (t1 : S2) (w2 : S2) => w_X1_takeNumber (0 : Int32) (20 : Int32) t1 (fun r4 t3 => w_X1_takeNumber (0 : Int32) (4 : Int32) t3 (fun r7 t6 => w_X1_takeNumber (0 : Int32) (4 : Int32) t6 (fun r10 t9 => jn (fun (t12 : S2) (w13 : S2) => w_X1_takeNumber (1 : Int32) (20 : Int32) t12 (fun r15 t14 => w_X2_addGift r4 r7 r10 r15 w13 (fun r18 w17 => K t14 w17))) (fun J55 => br (r7 = r10) (w_X1_refuse (3 : Int32) (t9 0 6) t9 (fun t21 => J55 t21 w2)) (J55 t9 w2)))))) (fun J17 => br ((w 0 4) < 4) (J17 t w) (w_X1_refuse (5 : Int32) (t 0 6) t (fun t24 => J17 t24 w)))
abbrev rm_X1_tellGift : Room := { frames := 3, cells := 0, slots := 0, locals := 69 }
set_option maxHeartbeats 4000000 in
set_option maxRecDepth 100000 in
theorem c_X1_tellGift (l : Launch) (D : va_G) (kc : Nat → ClassId) (a : Nat → Nat) (b : Nat → Nat) (t : S2) (w : S2) (sz : Nat) (K : S2 → S2 → Prop) (h : w_X1_tellGift t w K) : MetV l yX1_tellGift wsX1_tellGift rm_X1_tellGift D kc (fun u : S2 × S2 => cT kc a u.1 ++ cWl kc b u.2) (t, w) [.ref (a 0), .ref (b 0)] sz (fun u => K u.1 u.2) := by
  refine q_ev (code := cX1_tellGift) (maxL := 5) (by decide) rfl (Nat.le_of_ble_eq_true rfl) ?_
  intro p e s m args below meth c Q A hx hb hml hts hown hK hA hret ls hl hP hD hS
  have hown : s.vm.findClass RX1 = some m.cls := hown
  have hl : lv_has ls 5 [(0, .ref (a 0)), (1, .ref (b 0))] := hl
  have hP : va_P D vwCl (cT kc a t ++ cWl kc b w) s.heap := hP
  have hD : va_D A (cT kc a t ++ cWl kc b w) := hD
  have hS : va_S A s.heap s.heap [] := hS
  obtain ⟨H, eH⟩ : ∃ z, z = s.heap := ⟨_, rfl⟩
  obtain ⟨locs, eL⟩ : ∃ z : List Loc, z = [] := ⟨_, rfl⟩
  have hP := q_heap hP eH
  have hS := q_heapS hS eH eL
  refine q_start eH eL ?_
  clear eH eL
  have hi1 : ∀ w ∈ u_ws RX1 TX1 9, w ∈ wsX1_tellGift := by decide +kernel
  have hi2 : ∀ w ∈ u_ws RX2 TX2 13, w ∈ wsX1_tellGift := by decide +kernel
  unfold w_X1_tellGift at h
  refine lv_aload_n hx hb dX1_tellGift_0 rfl (lv_at hl 1 rfl) ?_
  refine va_get (D := D) (ci := 2) (v := .int (w 0 4)) (C := RX2) (T := TX2) (N := 13) hx hb hts hi2 hown hK.1 hP 2 rfl rfl 4 (by decide) (hts (.fieldLink RX1 95 "LastPenny$World" "gifts" "I") (by decide +kernel)) (fun _ h9 => h9) rfl dX1_tellGift_1 ?_
  refine lv_iconst (v := 4) hx hb dX1_tellGift_4 (by decide) ?_
  refine jn_elim h (fun J17 eJ17 h => ?_)
  have hJ_17 : ∀ (t1 : S2) (w2 : S2) (ls : Array Slot) (H : Heap) (locs : List Loc), J17 t1 w2 → lv_has ls 5 [(0, .ref (a 0)), (1, .ref (b 0))] → va_P D vwCl (cT kc a t1 ++ cWl kc b w2) H → va_D A (cT kc a t1 ++ cWl kc b w2) → va_S A s.heap H locs → W p l e rm_X1_tellGift s m args below meth c H locs 0 0 Q (F0 m 17 ls []) := by
    intro t1 w2 ls H locs h hl hP hD hS
    subst eJ17
    refine lv_aload_n hx hb dX1_tellGift_17 rfl (lv_at hl 0 rfl) ?_
    refine lv_iconst (v := 0) hx hb dX1_tellGift_18 (by decide) ?_
    refine lv_bipush (v := 20) hx hb dX1_tellGift_19 (by decide) ?_
    refine q_cVi (As := [.int 0, .int 20]) (rest := []) ⟨hx, hb, hml, hown, hts⟩ hK (c_X1_takeNumber l D kc a (0 : Int32) (20 : Int32) t1 H.size _ h) (cwV 2 hts gX1_tellGift_X1_takeNumber rfl rfl rfl (by decide +kernel) ⟨Nat.le_of_ble_eq_true rfl, Nat.le_of_ble_eq_true rfl⟩) (cut_TW_T D kc a b t1 w2) hP hD hS hA 1 0 rfl rfl rfl hl.1 rfl (Nat.le_of_ble_eq_true rfl) dX1_tellGift_21 ⟨Nat.zero_le _, Nat.zero_le _⟩ (fun r4 u5 H locs h hP hD hS => ?_)
    obtain ⟨t3, rfl⟩ : ∃ z, z = u5 := ⟨_, rfl⟩
    have hP : va_P D vwCl (cT kc a t3 ++ cWl kc b w2) H := hP
    have hD : va_D A (cT kc a t3 ++ cWl kc b w2) := hD
    refine lv_istore_n (lv' := [(2, .int r4), (0, .ref (a 0)), (1, .ref (b 0))]) hx hb dX1_tellGift_24 rfl hl (by decide) rfl (fun ls hl => ?_)
    refine lv_aload_n hx hb dX1_tellGift_25 rfl (lv_at hl 1 rfl) ?_
    refine lv_iconst (v := 0) hx hb dX1_tellGift_26 (by decide) ?_
    refine lv_iconst (v := 4) hx hb dX1_tellGift_27 (by decide) ?_
    refine q_cVi (As := [.int 0, .int 4]) (rest := []) ⟨hx, hb, hml, hown, hts⟩ hK (c_X1_takeNumber l D kc a (0 : Int32) (4 : Int32) t3 H.size _ h) (cwV 2 hts gX1_tellGift_X1_takeNumber rfl rfl rfl (by decide +kernel) ⟨Nat.le_of_ble_eq_true rfl, Nat.le_of_ble_eq_true rfl⟩) (cut_TW_T D kc a b t3 w2) hP hD hS hA 1 0 rfl rfl rfl hl.1 rfl (Nat.le_of_ble_eq_true rfl) dX1_tellGift_28 ⟨Nat.zero_le _, Nat.zero_le _⟩ (fun r7 u8 H locs h hP hD hS => ?_)
    obtain ⟨t6, rfl⟩ : ∃ z, z = u8 := ⟨_, rfl⟩
    have hP : va_P D vwCl (cT kc a t6 ++ cWl kc b w2) H := hP
    have hD : va_D A (cT kc a t6 ++ cWl kc b w2) := hD
    refine lv_istore_n (lv' := [(3, .int r7), (2, .int r4), (0, .ref (a 0)), (1, .ref (b 0))]) hx hb dX1_tellGift_31 rfl hl (by decide) rfl (fun ls hl => ?_)
    refine lv_aload_n hx hb dX1_tellGift_32 rfl (lv_at hl 2 rfl) ?_
    refine lv_iconst (v := 0) hx hb dX1_tellGift_33 (by decide) ?_
    refine lv_iconst (v := 4) hx hb dX1_tellGift_34 (by decide) ?_
    refine q_cVi (As := [.int 0, .int 4]) (rest := []) ⟨hx, hb, hml, hown, hts⟩ hK (c_X1_takeNumber l D kc a (0 : Int32) (4 : Int32) t6 H.size _ h) (cwV 2 hts gX1_tellGift_X1_takeNumber rfl rfl rfl (by decide +kernel) ⟨Nat.le_of_ble_eq_true rfl, Nat.le_of_ble_eq_true rfl⟩) (cut_TW_T D kc a b t6 w2) hP hD hS hA 1 0 rfl rfl rfl hl.1 rfl (Nat.le_of_ble_eq_true rfl) dX1_tellGift_35 ⟨Nat.zero_le _, Nat.zero_le _⟩ (fun r10 u11 H locs h hP hD hS => ?_)
    obtain ⟨t9, rfl⟩ : ∃ z, z = u11 := ⟨_, rfl⟩
    have hP : va_P D vwCl (cT kc a t9 ++ cWl kc b w2) H := hP
    have hD : va_D A (cT kc a t9 ++ cWl kc b w2) := hD
    refine lv_istore (lv' := [(4, .int r10), (3, .int r7), (2, .int r4), (0, .ref (a 0)), (1, .ref (b 0))]) hx hb dX1_tellGift_38 hl (by decide) rfl (fun ls hl => ?_)
    refine lv_iload_n hx hb dX1_tellGift_40 rfl (lv_at hl 1 rfl) ?_
    refine lv_iload hx hb dX1_tellGift_41 (lv_at hl 0 rfl) ?_
    refine jn_elim h (fun J55 eJ55 h => ?_)
    have hJ_55 : ∀ (t12 : S2) (w13 : S2) (ls : Array Slot) (H : Heap) (locs : List Loc), J55 t12 w13 → lv_has ls 5 [(0, .ref (a 0)), (1, .ref (b 0)), (2, .int r4), (3, .int r7), (4, .int r10)] → va_P D vwCl (cT kc a t12 ++ cWl kc b w13) H → va_D A (cT kc a t12 ++ cWl kc b w13) → va_S A s.heap H locs → W p l e rm_X1_tellGift s m args below meth c H locs 0 0 Q (F0 m 55 ls []) := by
      intro t12 w13 ls H locs h hl hP hD hS
      subst eJ55
      refine lv_aload_n hx hb dX1_tellGift_55 rfl (lv_at hl 1 rfl) ?_
      refine lv_iload_n hx hb dX1_tellGift_56 rfl (lv_at hl 2 rfl) ?_
      refine lv_iload_n hx hb dX1_tellGift_57 rfl (lv_at hl 3 rfl) ?_
      refine lv_iload hx hb dX1_tellGift_58 (lv_at hl 4 rfl) ?_
      refine lv_aload_n hx hb dX1_tellGift_60 rfl (lv_at hl 0 rfl) ?_
      refine lv_iconst (v := 1) hx hb dX1_tellGift_61 (by decide) ?_
      refine lv_bipush (v := 20) hx hb dX1_tellGift_62 (by decide) ?_
      refine q_cVi (As := [.int 1, .int 20]) (rest := [.int r10, .int r7, .int r4, .ref (b 0)]) ⟨hx, hb, hml, hown, hts⟩ hK (c_X1_takeNumber l D kc a (1 : Int32) (20 : Int32) t12 H.size _ h) (cwV 2 hts gX1_tellGift_X1_takeNumber rfl rfl rfl (by decide +kernel) ⟨Nat.le_of_ble_eq_true rfl, Nat.le_of_ble_eq_true rfl⟩) (cut_TW_T D kc a b t12 w13) hP hD hS hA 1 0 rfl rfl rfl hl.1 rfl (Nat.le_of_ble_eq_true rfl) dX1_tellGift_64 ⟨Nat.zero_le _, Nat.zero_le _⟩ (fun r15 u16 H locs h hP hD hS => ?_)
      obtain ⟨t14, rfl⟩ : ∃ z, z = u16 := ⟨_, rfl⟩
      have hP : va_P D vwCl (cT kc a t14 ++ cWl kc b w13) H := hP
      have hD : va_D A (cT kc a t14 ++ cWl kc b w13) := hD
      refine q_cVi (As := [.int r4, .int r7, .int r10, .int r15]) (rest := []) ⟨hx, hb, hml, hown, hts⟩ hK (c_X2_addGift l D kc b r4 r7 r10 r15 w13 H.size _ h) (cwV 4 hts gX1_tellGift_X2_addGift rfl rfl rfl (by decide +kernel) ⟨Nat.le_of_ble_eq_true rfl, Nat.le_of_ble_eq_true rfl⟩) (cut_TW_W D kc a b t14 w13) hP hD hS hA 2 0 rfl rfl rfl hl.1 rfl (Nat.le_of_ble_eq_true rfl) dX1_tellGift_67 ⟨Nat.zero_le _, Nat.zero_le _⟩ (fun r18 u19 H locs h hP hD hS => ?_)
      obtain ⟨w17, rfl⟩ : ∃ z, z = u19 := ⟨_, rfl⟩
      have hP : va_P D vwCl (cT kc a t14 ++ cWl kc b w17) H := hP
      have hD : va_D A (cT kc a t14 ++ cWl kc b w17) := hD
      refine lv_pop hx hb dX1_tellGift_70 rfl ?_
      exact hret (t14, w17) H locs ls _ h hP hD hS dX1_tellGift_71
    refine lv_icmp_ne (tgt := 55) hx hb dX1_tellGift_43 (by decide) (fun c20 => ?_) (fun c20 => ?_)
    · have h := br2 h c20
      exact hJ_55 t9 w2 ls H locs h (lv_sub hl [3, 4, 2, 1, 0] rfl) hP hD hS
    · have h := br1 h c20
      refine lv_aload_n hx hb dX1_tellGift_46 rfl (lv_at hl 3 rfl) ?_
      refine lv_iconst (v := 3) hx hb dX1_tellGift_47 (by decide) ?_
      refine lv_aload_n hx hb dX1_tellGift_48 rfl (lv_at hl 3 rfl) ?_
      refine va_get (D := D) (ci := 1) (v := .int (t9 0 6)) (C := RX1) (T := TX1) (N := 9) hx hb hts hi1 hown hK.1 hP 0 rfl rfl 6 (by decide) (hts (.fieldLink RX1 59 "LastPenny$Tape" "start" "I") (by decide +kernel)) (fun _ h9 => h9) rfl dX1_tellGift_49 ?_
      refine q_cVv (As := [.int 3, .int (t9 0 6)]) (rest := []) ⟨hx, hb, hml, hown, hts⟩ hK (c_X1_refuse l D kc a (3 : Int32) (t9 0 6) t9 H.size _ h) (cwV 2 hts gX1_tellGift_X1_refuse rfl rfl rfl (by decide +kernel) ⟨Nat.le_of_ble_eq_true rfl, Nat.le_of_ble_eq_true rfl⟩) (cut_TW_T D kc a b t9 w2) hP hD hS hA 1 0 rfl rfl rfl hl.1 rfl (Nat.le_of_ble_eq_true rfl) dX1_tellGift_52 ⟨Nat.zero_le _, Nat.zero_le _⟩ (fun u22 H locs h hP hD hS => ?_)
      obtain ⟨t21, rfl⟩ : ∃ z, z = u22 := ⟨_, rfl⟩
      have hP : va_P D vwCl (cT kc a t21 ++ cWl kc b w2) H := hP
      have hD : va_D A (cT kc a t21 ++ cWl kc b w2) := hD
      exact hJ_55 t21 w2 ls H locs h (lv_sub hl [3, 4, 2, 1, 0] rfl) hP hD hS
  refine lv_icmp_lt (tgt := 17) hx hb dX1_tellGift_5 (by decide) (fun c23 => ?_) (fun c23 => ?_)
  · have h := br1 h c23
    exact hJ_17 t w ls H locs h (lv_sub hl [0, 1] rfl) hP hD hS
  · have h := br2 h c23
    refine lv_aload_n hx hb dX1_tellGift_8 rfl (lv_at hl 0 rfl) ?_
    refine lv_iconst (v := 5) hx hb dX1_tellGift_9 (by decide) ?_
    refine lv_aload_n hx hb dX1_tellGift_10 rfl (lv_at hl 0 rfl) ?_
    refine va_get (D := D) (ci := 1) (v := .int (t 0 6)) (C := RX1) (T := TX1) (N := 9) hx hb hts hi1 hown hK.1 hP 0 rfl rfl 6 (by decide) (hts (.fieldLink RX1 59 "LastPenny$Tape" "start" "I") (by decide +kernel)) (fun _ h9 => h9) rfl dX1_tellGift_11 ?_
    refine q_cVv (As := [.int 5, .int (t 0 6)]) (rest := []) ⟨hx, hb, hml, hown, hts⟩ hK (c_X1_refuse l D kc a (5 : Int32) (t 0 6) t H.size _ h) (cwV 2 hts gX1_tellGift_X1_refuse rfl rfl rfl (by decide +kernel) ⟨Nat.le_of_ble_eq_true rfl, Nat.le_of_ble_eq_true rfl⟩) (cut_TW_T D kc a b t w) hP hD hS hA 1 0 rfl rfl rfl hl.1 rfl (Nat.le_of_ble_eq_true rfl) dX1_tellGift_14 ⟨Nat.zero_le _, Nat.zero_le _⟩ (fun u25 H locs h hP hD hS => ?_)
    obtain ⟨t24, rfl⟩ : ∃ z, z = u25 := ⟨_, rfl⟩
    have hP : va_P D vwCl (cT kc a t24 ++ cWl kc b w) H := hP
    have hD : va_D A (cT kc a t24 ++ cWl kc b w) := hD
    exact hJ_17 t24 w ls H locs h (lv_sub hl [0, 1] rfl) hP hD hS

def w_X2_addOne (p1 : Int32) (p2 : Int32) (p3 : Int32) (w : S2) (K : S2 → Prop) : Prop := br (5 ≤ (w 0 0)) (K w) (vp_in (w 0 0) 5 ∧ (nm ((va_up w 1 (upd (w 1) (w 0 0).toNatClampNeg p1)) : S2) (fun w3 => vp_in (w3 0 0) 5 ∧ (nm ((va_up w3 2 (upd (w3 2) (w3 0 0).toNatClampNeg p2)) : S2) (fun w5 => vp_in (w5 0 0) 5 ∧ (nm ((va_up w5 3 (upd (w5 3) (w5 0 0).toNatClampNeg p3)) : S2) (fun w7 => vp_in (w7 0 0) 5 ∧ (nm ((va_up w7 4 (upd (w7 4) (w7 0 0).toNatClampNeg 0)) : S2) (fun w9 => nm ((va_up w9 0 (upd (w9 0) 0 ((w9 0 0) + 1))) : S2) (fun w10 => K w10))))))))))
abbrev rm_X2_addOne : Room := { frames := 0, cells := 0, slots := 0, locals := 0 }
set_option maxHeartbeats 4000000 in
set_option maxRecDepth 100000 in
theorem c_X2_addOne (l : Launch) (D : va_G) (kc : Nat → ClassId) (a : Nat → Nat) (p1 : Int32) (p2 : Int32) (p3 : Int32) (w : S2) (sz : Nat) (K : S2 → Prop) (h : w_X2_addOne p1 p2 p3 w K) : MetV l yX2_addOne wsX2_addOne rm_X2_addOne D kc (fun u : S2 => cWl kc a u) w [.ref (a 0), .int p1, .int p2, .int p3] sz (fun u => K u) := by
  refine q_ev (code := cX2_addOne) (maxL := 4) (by decide) rfl (Nat.le_of_ble_eq_true rfl) ?_
  intro p e s m args below meth c Q A hx hb hml hts hown hK hA hret ls hl hP hD hS
  have hown : s.vm.findClass RX2 = some m.cls := hown
  have hl : lv_has ls 4 [(0, .ref (a 0)), (1, .int p1), (2, .int p2), (3, .int p3)] := hl
  have hP : va_P D vwCl (cWl kc a w) s.heap := hP
  have hD : va_D A (cWl kc a w) := hD
  have hS : va_S A s.heap s.heap [] := hS
  obtain ⟨H, eH⟩ : ∃ z, z = s.heap := ⟨_, rfl⟩
  obtain ⟨locs, eL⟩ : ∃ z : List Loc, z = [] := ⟨_, rfl⟩
  have hP := q_heap hP eH
  have hS := q_heapS hS eH eL
  refine q_start eH eL ?_
  clear eH eL
  have hi2 : ∀ w ∈ u_ws RX2 TX2 13, w ∈ wsX2_addOne := by decide +kernel
  unfold w_X2_addOne at h
  refine lv_aload_n hx hb dX2_addOne_0 rfl (lv_at hl 0 rfl) ?_
  refine va_get (D := D) (ci := 2) (v := .int (w 0 0)) (C := RX2) (T := TX2) (N := 13) hx hb hts hi2 hown hK.1 hP 0 rfl rfl 0 (by decide) (hts (.fieldLink RX2 33 "LastPenny$World" "people" "I") (by decide +kernel)) (fun _ h9 => h9) rfl dX2_addOne_1 ?_
  refine lv_iconst (v := 5) hx hb dX2_addOne_4 (by decide) ?_
  refine lv_icmp_ge (tgt := 58) hx hb dX2_addOne_5 (by decide) (fun c1 => ?_) (fun c1 => ?_)
  · have h := br1 h c1
    exact hret w H locs ls _ h hP hD hS dX2_addOne_58
  · have h := br2 h c1
    refine lv_aload_n hx hb dX2_addOne_8 rfl (lv_at hl 0 rfl) ?_
    refine va_get (D := D) (ci := 2) (v := .ref (a 1)) (C := RX2) (T := TX2) (N := 13) hx hb hts hi2 hown hK.1 hP 0 rfl rfl 6 (by decide) (hts (.fieldLink RX2 9 "LastPenny$World" "kindOf" "[I") (by decide +kernel)) (fun _ h9 => h9) rfl dX2_addOne_9 ?_
    refine lv_aload_n hx hb dX2_addOne_12 rfl (lv_at hl 0 rfl) ?_
    refine va_get (D := D) (ci := 2) (v := .int (w 0 0)) (C := RX2) (T := TX2) (N := 13) hx hb hts hi2 hown hK.1 hP 0 rfl rfl 0 (by decide) (hts (.fieldLink RX2 33 "LastPenny$World" "people" "I") (by decide +kernel)) (fun _ h9 => h9) rfl dX2_addOne_13 ?_
    refine lv_iload_n hx hb dX2_addOne_16 rfl (lv_at hl 1 rfl) ?_
    obtain ⟨hi_2, h⟩ := h
    refine va_iast hx hb hK.1 hP hD hS 1 0 rfl rfl hi_2 dX2_addOne_17 (fun H locs hP hD hS => ?_)
    obtain ⟨w3, ew3⟩ : ∃ z, z = (va_up w 1 (upd (w 1) (w 0 0).toNatClampNeg p1)) := ⟨_, rfl⟩
    have h := nm_out h w3 ew3
    have hP : va_P D vwCl (cWl kc a w3) H := q_to hP (by subst ew3; rfl)
    have hD : va_D A (cWl kc a w3) := q_toD hD (by subst ew3; rfl)
    refine lv_aload_n hx hb dX2_addOne_18 rfl (lv_at hl 0 rfl) ?_
    refine va_get (D := D) (ci := 2) (v := .ref (a 2)) (C := RX2) (T := TX2) (N := 13) hx hb hts hi2 hown hK.1 hP 0 rfl rfl 7 (by decide) (hts (.fieldLink RX2 15 "LastPenny$World" "meansOf" "[I") (by decide +kernel)) (fun _ h9 => h9) rfl dX2_addOne_19 ?_
    refine lv_aload_n hx hb dX2_addOne_22 rfl (lv_at hl 0 rfl) ?_
    refine va_get (D := D) (ci := 2) (v := .int (w3 0 0)) (C := RX2) (T := TX2) (N := 13) hx hb hts hi2 hown hK.1 hP 0 rfl rfl 0 (by decide) (hts (.fieldLink RX2 33 "LastPenny$World" "people" "I") (by decide +kernel)) (fun _ h9 => h9) rfl dX2_addOne_23 ?_
    refine lv_iload_n hx hb dX2_addOne_26 rfl (lv_at hl 2 rfl) ?_
    obtain ⟨hi_4, h⟩ := h
    refine va_iast hx hb hK.1 hP hD hS 2 0 rfl rfl hi_4 dX2_addOne_27 (fun H locs hP hD hS => ?_)
    obtain ⟨w5, ew5⟩ : ∃ z, z = (va_up w3 2 (upd (w3 2) (w3 0 0).toNatClampNeg p2)) := ⟨_, rfl⟩
    have h := nm_out h w5 ew5
    have hP : va_P D vwCl (cWl kc a w5) H := q_to hP (by subst ew5; rfl)
    have hD : va_D A (cWl kc a w5) := q_toD hD (by subst ew5; rfl)
    refine lv_aload_n hx hb dX2_addOne_28 rfl (lv_at hl 0 rfl) ?_
    refine va_get (D := D) (ci := 2) (v := .ref (a 3)) (C := RX2) (T := TX2) (N := 13) hx hb hts hi2 hown hK.1 hP 0 rfl rfl 8 (by decide) (hts (.fieldLink RX2 18 "LastPenny$World" "tradeOf" "[I") (by decide +kernel)) (fun _ h9 => h9) rfl dX2_addOne_29 ?_
    refine lv_aload_n hx hb dX2_addOne_32 rfl (lv_at hl 0 rfl) ?_
    refine va_get (D := D) (ci := 2) (v := .int (w5 0 0)) (C := RX2) (T := TX2) (N := 13) hx hb hts hi2 hown hK.1 hP 0 rfl rfl 0 (by decide) (hts (.fieldLink RX2 33 "LastPenny$World" "people" "I") (by decide +kernel)) (fun _ h9 => h9) rfl dX2_addOne_33 ?_
    refine lv_iload_n hx hb dX2_addOne_36 rfl (lv_at hl 3 rfl) ?_
    obtain ⟨hi_6, h⟩ := h
    refine va_iast hx hb hK.1 hP hD hS 3 0 rfl rfl hi_6 dX2_addOne_37 (fun H locs hP hD hS => ?_)
    obtain ⟨w7, ew7⟩ : ∃ z, z = (va_up w5 3 (upd (w5 3) (w5 0 0).toNatClampNeg p3)) := ⟨_, rfl⟩
    have h := nm_out h w7 ew7
    have hP : va_P D vwCl (cWl kc a w7) H := q_to hP (by subst ew7; rfl)
    have hD : va_D A (cWl kc a w7) := q_toD hD (by subst ew7; rfl)
    refine lv_aload_n hx hb dX2_addOne_38 rfl (lv_at hl 0 rfl) ?_
    refine va_get (D := D) (ci := 2) (v := .ref (a 4)) (C := RX2) (T := TX2) (N := 13) hx hb hts hi2 hown hK.1 hP 0 rfl rfl 9 (by decide) (hts (.fieldLink RX2 21 "LastPenny$World" "keptOf" "[I") (by decide +kernel)) (fun _ h9 => h9) rfl dX2_addOne_39 ?_
    refine lv_aload_n hx hb dX2_addOne_42 rfl (lv_at hl 0 rfl) ?_
    refine va_get (D := D) (ci := 2) (v := .int (w7 0 0)) (C := RX2) (T := TX2) (N := 13) hx hb hts hi2 hown hK.1 hP 0 rfl rfl 0 (by decide) (hts (.fieldLink RX2 33 "LastPenny$World" "people" "I") (by decide +kernel)) (fun _ h9 => h9) rfl dX2_addOne_43 ?_
    refine lv_iconst (v := 0) hx hb dX2_addOne_46 (by decide) ?_
    obtain ⟨hi_8, h⟩ := h
    refine va_iast hx hb hK.1 hP hD hS 4 0 rfl rfl hi_8 dX2_addOne_47 (fun H locs hP hD hS => ?_)
    obtain ⟨w9, ew9⟩ : ∃ z, z = (va_up w7 4 (upd (w7 4) (w7 0 0).toNatClampNeg 0)) := ⟨_, rfl⟩
    have h := nm_out h w9 ew9
    have hP : va_P D vwCl (cWl kc a w9) H := q_to hP (by subst ew9; rfl)
    have hD : va_D A (cWl kc a w9) := q_toD hD (by subst ew9; rfl)
    refine lv_aload_n hx hb dX2_addOne_48 rfl (lv_at hl 0 rfl) ?_
    refine lv_dup hx hb dX2_addOne_49 rfl ?_
    refine va_get (D := D) (ci := 2) (v := .int (w9 0 0)) (C := RX2) (T := TX2) (N := 13) hx hb hts hi2 hown hK.1 hP 0 rfl rfl 0 (by decide) (hts (.fieldLink RX2 33 "LastPenny$World" "people" "I") (by decide +kernel)) (fun _ h9 => h9) rfl dX2_addOne_50 ?_
    refine lv_iconst (v := 1) hx hb dX2_addOne_53 (by decide) ?_
    refine lv_iadd hx hb dX2_addOne_54 ?_
    refine va_put (D := D) (ci := 2) (v := .int ((w9 0 0) + 1)) (ty := .int) (C := RX2) (T := TX2) (N := 13) hx hb hts hi2 tyX2 tyX2_ok nmX2 hown hK.1 hP hD hS 0 rfl rfl 0 (by decide) (hts (.fieldLink RX2 33 "LastPenny$World" "people" "I") (by decide +kernel)) (fun _ h9 => h9) rfl (by decide +kernel) rfl rfl (Nat.le_of_ble_eq_true rfl) dX2_addOne_55 (fun H locs hP hD hS => ?_)
    obtain ⟨w10, ew10⟩ : ∃ z, z = (va_up w9 0 (upd (w9 0) 0 ((w9 0 0) + 1))) := ⟨_, rfl⟩
    have h := nm_out h w10 ew10
    have hP : va_P D vwCl (cWl kc a w10) H := q_to hP (by subst ew10; rfl)
    have hD : va_D A (cWl kc a w10) := q_toD hD (by subst ew10; rfl)
    exact hret w10 H locs ls _ h hP hD hS dX2_addOne_58

def w_X1_tellOne (p2 : Int32) (t : S2) (w : S2) (K : S2 → S2 → Prop) : Prop := jn (fun (t1 : S2) (w2 : S2) => w_X1_takeNumber (0 : Int32) (99 : Int32) t1 (fun r4 t3 => w_X1_takeNumber (0 : Int32) (20 : Int32) t3 (fun r7 t6 => w_X2_addOne p2 r4 r7 w2 (fun w9 => K t6 w9)))) (fun J17 => br ((w 0 0) < 5) (J17 t w) (w_X1_refuse (5 : Int32) (t 0 6) t (fun t12 => J17 t12 w)))
abbrev rm_X1_tellOne : Room := { frames := 3, cells := 0, slots := 0, locals := 69 }
set_option maxHeartbeats 4000000 in
set_option maxRecDepth 100000 in
theorem c_X1_tellOne (l : Launch) (D : va_G) (kc : Nat → ClassId) (a : Nat → Nat) (b : Nat → Nat) (p2 : Int32) (t : S2) (w : S2) (sz : Nat) (K : S2 → S2 → Prop) (h : w_X1_tellOne p2 t w K) : MetV l yX1_tellOne wsX1_tellOne rm_X1_tellOne D kc (fun u : S2 × S2 => cT kc a u.1 ++ cWl kc b u.2) (t, w) [.ref (a 0), .ref (b 0), .int p2] sz (fun u => K u.1 u.2) := by
  refine q_ev (code := cX1_tellOne) (maxL := 5) (by decide) rfl (Nat.le_of_ble_eq_true rfl) ?_
  intro p e s m args below meth c Q A hx hb hml hts hown hK hA hret ls hl hP hD hS
  have hown : s.vm.findClass RX1 = some m.cls := hown
  have hl : lv_has ls 5 [(0, .ref (a 0)), (1, .ref (b 0)), (2, .int p2)] := hl
  have hP : va_P D vwCl (cT kc a t ++ cWl kc b w) s.heap := hP
  have hD : va_D A (cT kc a t ++ cWl kc b w) := hD
  have hS : va_S A s.heap s.heap [] := hS
  obtain ⟨H, eH⟩ : ∃ z, z = s.heap := ⟨_, rfl⟩
  obtain ⟨locs, eL⟩ : ∃ z : List Loc, z = [] := ⟨_, rfl⟩
  have hP := q_heap hP eH
  have hS := q_heapS hS eH eL
  refine q_start eH eL ?_
  clear eH eL
  have hi1 : ∀ w ∈ u_ws RX1 TX1 9, w ∈ wsX1_tellOne := by decide +kernel
  have hi2 : ∀ w ∈ u_ws RX2 TX2 13, w ∈ wsX1_tellOne := by decide +kernel
  unfold w_X1_tellOne at h
  refine lv_aload_n hx hb dX1_tellOne_0 rfl (lv_at hl 1 rfl) ?_
  refine va_get (D := D) (ci := 2) (v := .int (w 0 0)) (C := RX2) (T := TX2) (N := 13) hx hb hts hi2 hown hK.1 hP 2 rfl rfl 0 (by decide) (hts (.fieldLink RX1 78 "LastPenny$World" "people" "I") (by decide +kernel)) (fun _ h9 => h9) rfl dX1_tellOne_1 ?_
  refine lv_iconst (v := 5) hx hb dX1_tellOne_4 (by decide) ?_
  refine jn_elim h (fun J17 eJ17 h => ?_)
  have hJ_17 : ∀ (t1 : S2) (w2 : S2) (ls : Array Slot) (H : Heap) (locs : List Loc), J17 t1 w2 → lv_has ls 5 [(0, .ref (a 0)), (1, .ref (b 0)), (2, .int p2)] → va_P D vwCl (cT kc a t1 ++ cWl kc b w2) H → va_D A (cT kc a t1 ++ cWl kc b w2) → va_S A s.heap H locs → W p l e rm_X1_tellOne s m args below meth c H locs 0 0 Q (F0 m 17 ls []) := by
    intro t1 w2 ls H locs h hl hP hD hS
    subst eJ17
    refine lv_aload_n hx hb dX1_tellOne_17 rfl (lv_at hl 0 rfl) ?_
    refine lv_iconst (v := 0) hx hb dX1_tellOne_18 (by decide) ?_
    refine lv_bipush (v := 99) hx hb dX1_tellOne_19 (by decide) ?_
    refine q_cVi (As := [.int 0, .int 99]) (rest := []) ⟨hx, hb, hml, hown, hts⟩ hK (c_X1_takeNumber l D kc a (0 : Int32) (99 : Int32) t1 H.size _ h) (cwV 2 hts gX1_tellOne_X1_takeNumber rfl rfl rfl (by decide +kernel) ⟨Nat.le_of_ble_eq_true rfl, Nat.le_of_ble_eq_true rfl⟩) (cut_TW_T D kc a b t1 w2) hP hD hS hA 1 0 rfl rfl rfl hl.1 rfl (Nat.le_of_ble_eq_true rfl) dX1_tellOne_21 ⟨Nat.zero_le _, Nat.zero_le _⟩ (fun r4 u5 H locs h hP hD hS => ?_)
    obtain ⟨t3, rfl⟩ : ∃ z, z = u5 := ⟨_, rfl⟩
    have hP : va_P D vwCl (cT kc a t3 ++ cWl kc b w2) H := hP
    have hD : va_D A (cT kc a t3 ++ cWl kc b w2) := hD
    refine lv_istore_n (lv' := [(3, .int r4), (0, .ref (a 0)), (1, .ref (b 0)), (2, .int p2)]) hx hb dX1_tellOne_24 rfl hl (by decide) rfl (fun ls hl => ?_)
    refine lv_aload_n hx hb dX1_tellOne_25 rfl (lv_at hl 1 rfl) ?_
    refine lv_iconst (v := 0) hx hb dX1_tellOne_26 (by decide) ?_
    refine lv_bipush (v := 20) hx hb dX1_tellOne_27 (by decide) ?_
    refine q_cVi (As := [.int 0, .int 20]) (rest := []) ⟨hx, hb, hml, hown, hts⟩ hK (c_X1_takeNumber l D kc a (0 : Int32) (20 : Int32) t3 H.size _ h) (cwV 2 hts gX1_tellOne_X1_takeNumber rfl rfl rfl (by decide +kernel) ⟨Nat.le_of_ble_eq_true rfl, Nat.le_of_ble_eq_true rfl⟩) (cut_TW_T D kc a b t3 w2) hP hD hS hA 1 0 rfl rfl rfl hl.1 rfl (Nat.le_of_ble_eq_true rfl) dX1_tellOne_29 ⟨Nat.zero_le _, Nat.zero_le _⟩ (fun r7 u8 H locs h hP hD hS => ?_)
    obtain ⟨t6, rfl⟩ : ∃ z, z = u8 := ⟨_, rfl⟩
    have hP : va_P D vwCl (cT kc a t6 ++ cWl kc b w2) H := hP
    have hD : va_D A (cT kc a t6 ++ cWl kc b w2) := hD
    refine lv_istore (lv' := [(4, .int r7), (3, .int r4), (0, .ref (a 0)), (1, .ref (b 0)), (2, .int p2)]) hx hb dX1_tellOne_32 hl (by decide) rfl (fun ls hl => ?_)
    refine lv_aload_n hx hb dX1_tellOne_34 rfl (lv_at hl 3 rfl) ?_
    refine lv_iload_n hx hb dX1_tellOne_35 rfl (lv_at hl 4 rfl) ?_
    refine lv_iload_n hx hb dX1_tellOne_36 rfl (lv_at hl 1 rfl) ?_
    refine lv_iload hx hb dX1_tellOne_37 (lv_at hl 0 rfl) ?_
    refine q_cVv (As := [.int p2, .int r4, .int r7]) (rest := []) ⟨hx, hb, hml, hown, hts⟩ hK (c_X2_addOne l D kc b p2 r4 r7 w2 H.size _ h) (cwV 3 hts gX1_tellOne_X2_addOne rfl rfl rfl (by decide +kernel) ⟨Nat.le_of_ble_eq_true rfl, Nat.le_of_ble_eq_true rfl⟩) (cut_TW_W D kc a b t6 w2) hP hD hS hA 2 0 rfl rfl rfl hl.1 rfl (Nat.le_of_ble_eq_true rfl) dX1_tellOne_39 ⟨Nat.zero_le _, Nat.zero_le _⟩ (fun u10 H locs h hP hD hS => ?_)
    obtain ⟨w9, rfl⟩ : ∃ z, z = u10 := ⟨_, rfl⟩
    have hP : va_P D vwCl (cT kc a t6 ++ cWl kc b w9) H := hP
    have hD : va_D A (cT kc a t6 ++ cWl kc b w9) := hD
    exact hret (t6, w9) H locs ls _ h hP hD hS dX1_tellOne_42
  refine lv_icmp_lt (tgt := 17) hx hb dX1_tellOne_5 (by decide) (fun c11 => ?_) (fun c11 => ?_)
  · have h := br1 h c11
    exact hJ_17 t w ls H locs h (lv_sub hl [0, 1, 2] rfl) hP hD hS
  · have h := br2 h c11
    refine lv_aload_n hx hb dX1_tellOne_8 rfl (lv_at hl 0 rfl) ?_
    refine lv_iconst (v := 5) hx hb dX1_tellOne_9 (by decide) ?_
    refine lv_aload_n hx hb dX1_tellOne_10 rfl (lv_at hl 0 rfl) ?_
    refine va_get (D := D) (ci := 1) (v := .int (t 0 6)) (C := RX1) (T := TX1) (N := 9) hx hb hts hi1 hown hK.1 hP 0 rfl rfl 6 (by decide) (hts (.fieldLink RX1 59 "LastPenny$Tape" "start" "I") (by decide +kernel)) (fun _ h9 => h9) rfl dX1_tellOne_11 ?_
    refine q_cVv (As := [.int 5, .int (t 0 6)]) (rest := []) ⟨hx, hb, hml, hown, hts⟩ hK (c_X1_refuse l D kc a (5 : Int32) (t 0 6) t H.size _ h) (cwV 2 hts gX1_tellOne_X1_refuse rfl rfl rfl (by decide +kernel) ⟨Nat.le_of_ble_eq_true rfl, Nat.le_of_ble_eq_true rfl⟩) (cut_TW_T D kc a b t w) hP hD hS hA 1 0 rfl rfl rfl hl.1 rfl (Nat.le_of_ble_eq_true rfl) dX1_tellOne_14 ⟨Nat.zero_le _, Nat.zero_le _⟩ (fun u13 H locs h hP hD hS => ?_)
    obtain ⟨t12, rfl⟩ : ∃ z, z = u13 := ⟨_, rfl⟩
    have hP : va_P D vwCl (cT kc a t12 ++ cWl kc b w) H := hP
    have hD : va_D A (cT kc a t12 ++ cWl kc b w) := hD
    exact hJ_17 t12 w ls H locs h (lv_sub hl [0, 1, 2] rfl) hP hD hS

def w_X1_takeStop (t : S2) (K : S2 → Prop) : Prop := w_X1_next t (fun t1 => br ((t1 0 5) = 3) (K t1) (w_X1_refuse (2 : Int32) (t1 0 6) t1 (fun t4 => K t4)))
abbrev rm_X1_takeStop : Room := { frames := 2, cells := 0, slots := 0, locals := 46 }
set_option maxHeartbeats 4000000 in
set_option maxRecDepth 100000 in
theorem c_X1_takeStop (l : Launch) (D : va_G) (kc : Nat → ClassId) (a : Nat → Nat) (t : S2) (sz : Nat) (K : S2 → Prop) (h : w_X1_takeStop t K) : MetV l yX1_takeStop wsX1_takeStop rm_X1_takeStop D kc (fun u : S2 => cT kc a u) t [.ref (a 0)] sz (fun u => K u) := by
  refine q_ev (code := cX1_takeStop) (maxL := 1) (by decide) rfl (Nat.le_of_ble_eq_true rfl) ?_
  intro p e s m args below meth c Q A hx hb hml hts hown hK hA hret ls hl hP hD hS
  have hown : s.vm.findClass RX1 = some m.cls := hown
  have hl : lv_has ls 1 [(0, .ref (a 0))] := hl
  have hP : va_P D vwCl (cT kc a t) s.heap := hP
  have hD : va_D A (cT kc a t) := hD
  have hS : va_S A s.heap s.heap [] := hS
  obtain ⟨H, eH⟩ : ∃ z, z = s.heap := ⟨_, rfl⟩
  obtain ⟨locs, eL⟩ : ∃ z : List Loc, z = [] := ⟨_, rfl⟩
  have hP := q_heap hP eH
  have hS := q_heapS hS eH eL
  refine q_start eH eL ?_
  clear eH eL
  have hi1 : ∀ w ∈ u_ws RX1 TX1 9, w ∈ wsX1_takeStop := by decide +kernel
  unfold w_X1_takeStop at h
  refine lv_aload_n hx hb dX1_takeStop_0 rfl (lv_at hl 0 rfl) ?_
  refine q_cVv (As := []) (rest := []) ⟨hx, hb, hml, hown, hts⟩ hK (c_X1_next l D kc a t H.size _ h) (cwV 0 hts gX1_takeStop_X1_next rfl rfl rfl (by decide +kernel) ⟨Nat.le_of_ble_eq_true rfl, Nat.le_of_ble_eq_true rfl⟩) (cut_same (fun u : S2 => cT kc a u) t) hP hD hS hA 1 0 rfl rfl rfl hl.1 rfl (Nat.le_of_ble_eq_true rfl) dX1_takeStop_1 ⟨Nat.zero_le _, Nat.zero_le _⟩ (fun u2 H locs h hP hD hS => ?_)
  obtain ⟨t1, rfl⟩ : ∃ z, z = u2 := ⟨_, rfl⟩
  have hP : va_P D vwCl (cT kc a t1) H := hP
  have hD : va_D A (cT kc a t1) := hD
  refine lv_aload_n hx hb dX1_takeStop_4 rfl (lv_at hl 0 rfl) ?_
  refine va_get (D := D) (ci := 1) (v := .int (t1 0 5)) (C := RX1) (T := TX1) (N := 9) hx hb hts hi1 hown hK.1 hP 0 rfl rfl 5 (by decide) (hts (.fieldLink RX1 38 "LastPenny$Tape" "token" "I") (by decide +kernel)) (fun _ h9 => h9) rfl dX1_takeStop_5 ?_
  refine lv_iconst (v := 3) hx hb dX1_takeStop_8 (by decide) ?_
  refine lv_icmp_eq (tgt := 21) hx hb dX1_takeStop_9 (by decide) (fun c3 => ?_) (fun c3 => ?_)
  · have h := br1 h c3
    exact hret t1 H locs ls _ h hP hD hS dX1_takeStop_21
  · have h := br2 h c3
    refine lv_aload_n hx hb dX1_takeStop_12 rfl (lv_at hl 0 rfl) ?_
    refine lv_iconst (v := 2) hx hb dX1_takeStop_13 (by decide) ?_
    refine lv_aload_n hx hb dX1_takeStop_14 rfl (lv_at hl 0 rfl) ?_
    refine va_get (D := D) (ci := 1) (v := .int (t1 0 6)) (C := RX1) (T := TX1) (N := 9) hx hb hts hi1 hown hK.1 hP 0 rfl rfl 6 (by decide) (hts (.fieldLink RX1 59 "LastPenny$Tape" "start" "I") (by decide +kernel)) (fun _ h9 => h9) rfl dX1_takeStop_15 ?_
    refine q_cVv (As := [.int 2, .int (t1 0 6)]) (rest := []) ⟨hx, hb, hml, hown, hts⟩ hK (c_X1_refuse l D kc a (2 : Int32) (t1 0 6) t1 H.size _ h) (cwV 2 hts gX1_takeStop_X1_refuse rfl rfl rfl (by decide +kernel) ⟨Nat.le_of_ble_eq_true rfl, Nat.le_of_ble_eq_true rfl⟩) (cut_same (fun u : S2 => cT kc a u) t1) hP hD hS hA 1 0 rfl rfl rfl hl.1 rfl (Nat.le_of_ble_eq_true rfl) dX1_takeStop_18 ⟨Nat.zero_le _, Nat.zero_le _⟩ (fun u5 H locs h hP hD hS => ?_)
    obtain ⟨t4, rfl⟩ : ∃ z, z = u5 := ⟨_, rfl⟩
    have hP : va_P D vwCl (cT kc a t4) H := hP
    have hD : va_D A (cT kc a t4) := hD
    exact hret t4 H locs ls _ h hP hD hS dX1_takeStop_21

def w_X2_has (p1 : Int32) (w : S2) (K : Int32 → S2 → Prop) : Prop := w_X3_within p1 (0 : Int32) ((w 0 0) - 1) (fun r1 => (r1 = 0 ∨ r1 = 1) ∧ K r1 w)
abbrev rm_X2_has : Room := { frames := 1, cells := 0, slots := 0, locals := 22 }
set_option maxHeartbeats 4000000 in
set_option maxRecDepth 100000 in
theorem c_X2_has (l : Launch) (D : va_G) (kc : Nat → ClassId) (a : Nat → Nat) (p1 : Int32) (w : S2) (sz : Nat) (K : Int32 → S2 → Prop) (h : w_X2_has p1 w K) : MetI l yX2_has wsX2_has rm_X2_has D kc (fun u : S2 => cWl kc a u) w [.ref (a 0), .int p1] sz (fun r u => K r u) := by
  refine q_ez (code := cX2_has) (maxL := 2) (by decide) rfl (Nat.le_of_ble_eq_true rfl) ?_
  intro p e s m args below meth c Q A hx hb hml hts hown hK hA hret ls hl hP hD hS
  have hown : s.vm.findClass RX2 = some m.cls := hown
  have hl : lv_has ls 2 [(0, .ref (a 0)), (1, .int p1)] := hl
  have hP : va_P D vwCl (cWl kc a w) s.heap := hP
  have hD : va_D A (cWl kc a w) := hD
  have hS : va_S A s.heap s.heap [] := hS
  obtain ⟨H, eH⟩ : ∃ z, z = s.heap := ⟨_, rfl⟩
  obtain ⟨locs, eL⟩ : ∃ z : List Loc, z = [] := ⟨_, rfl⟩
  have hP := q_heap hP eH
  have hS := q_heapS hS eH eL
  refine q_start eH eL ?_
  clear eH eL
  have hi2 : ∀ w ∈ u_ws RX2 TX2 13, w ∈ wsX2_has := by decide +kernel
  unfold w_X2_has at h
  refine lv_iload_n hx hb dX2_has_0 rfl (lv_at hl 1 rfl) ?_
  refine lv_iconst (v := 0) hx hb dX2_has_1 (by decide) ?_
  refine lv_aload_n hx hb dX2_has_2 rfl (lv_at hl 0 rfl) ?_
  refine va_get (D := D) (ci := 2) (v := .int (w 0 0)) (C := RX2) (T := TX2) (N := 13) hx hb hts hi2 hown hK.1 hP 0 rfl rfl 0 (by decide) (hts (.fieldLink RX2 33 "LastPenny$World" "people" "I") (by decide +kernel)) (fun _ h9 => h9) rfl dX2_has_3 ?_
  refine lv_iconst (v := 1) hx hb dX2_has_6 (by decide) ?_
  refine lv_isub hx hb dX2_has_7 ?_
  refine q_cNi (As := [.int p1, .int 0, .int ((w 0 0) - 1)]) (rest := []) (host := RX3) ⟨hx, hb, hml, hown, hts⟩ hK (c_X3_within l D kc p1 (0 : Int32) ((w 0 0) - 1) H.size _ h) ⟨va_cnB 3 hts gX2_has_X3_within_n58 rfl rfl rfl hK.2.1 (hts (.initialized RX3) (by decide +kernel)) (by decide +kernel) ⟨Nat.le_of_ble_eq_true rfl, Nat.le_of_ble_eq_true rfl⟩, (hts (.static yX3_within) (by decide +kernel)), trivial⟩ (cut_nil _) hP hD hS hA rfl hl.1 rfl (Nat.le_of_ble_eq_true rfl) dX2_has_8 ⟨Nat.zero_le _, Nat.zero_le _⟩ (fun r1 _ H locs h hP hD hS => ?_)
  have hP : va_P D vwCl (cWl kc a w) H := hP
  have hD : va_D A (cWl kc a w) := hD
  obtain ⟨hz3, h⟩ := h
  exact hret r1 w H locs ls _ (q_nar hz3) h hP hD hS dX2_has_11

def w_X2_isWhole (p1 : Int32) (w : S2) (K : Int32 → S2 → Prop) : Prop := jn (fun (w1 : S2) => lfp2 (fun G19 (i2 : Int32) (w3 : S2) => br ((w3 0 4) ≤ i2) (K 1 w3) (vp_in ((i2 * 4) + 1) 16 ∧ (w_X2_has (w3 5 ((i2 * 4) + 1).toNatClampNeg) w3 (fun r7 w6 => br (r7 = 0) (K 0 w6) (vp_in ((i2 * 4) + 2) 16 ∧ (w_X2_has (w6 5 ((i2 * 4) + 2).toNatClampNeg) w6 (fun r12 w11 => br (r12 = 0) (K 0 w11) (nm (i2 + 1 : Int32) (fun x15 => G19 x15 w11))))))))) 0 w1) (fun J17 => br (p1 = 0) (J17 w) (w_X2_has (w 0 3) w (fun r18 w17 => br (r18 = 0) (K 0 w17) (J17 w17))))
abbrev rm_X2_isWhole : Room := { frames := 2, cells := 0, slots := 0, locals := 43 }
set_option maxHeartbeats 4000000 in
set_option maxRecDepth 100000 in
theorem c_X2_isWhole (l : Launch) (D : va_G) (kc : Nat → ClassId) (a : Nat → Nat) (p1 : Int32) (w : S2) (sz : Nat) (K : Int32 → S2 → Prop) (h : w_X2_isWhole p1 w K) : MetI l yX2_isWhole wsX2_isWhole rm_X2_isWhole D kc (fun u : S2 => cWl kc a u) w [.ref (a 0), .int p1] sz (fun r u => K r u) := by
  refine q_ez (code := cX2_isWhole) (maxL := 3) (by decide) rfl (Nat.le_of_ble_eq_true rfl) ?_
  intro p e s m args below meth c Q A hx hb hml hts hown hK hA hret ls hl hP hD hS
  have hown : s.vm.findClass RX2 = some m.cls := hown
  have hl : lv_has ls 3 [(0, .ref (a 0)), (1, .int p1)] := hl
  have hP : va_P D vwCl (cWl kc a w) s.heap := hP
  have hD : va_D A (cWl kc a w) := hD
  have hS : va_S A s.heap s.heap [] := hS
  obtain ⟨H, eH⟩ : ∃ z, z = s.heap := ⟨_, rfl⟩
  obtain ⟨locs, eL⟩ : ∃ z : List Loc, z = [] := ⟨_, rfl⟩
  have hP := q_heap hP eH
  have hS := q_heapS hS eH eL
  refine q_start eH eL ?_
  clear eH eL
  have hi2 : ∀ w ∈ u_ws RX2 TX2 13, w ∈ wsX2_isWhole := by decide +kernel
  unfold w_X2_isWhole at h
  refine lv_iload_n hx hb dX2_isWhole_0 rfl (lv_at hl 1 rfl) ?_
  refine jn_elim h (fun J17 eJ17 h => ?_)
  have hJ_17 : ∀ (w1 : S2) (ls : Array Slot) (H : Heap) (locs : List Loc), J17 w1 → lv_has ls 3 [(0, .ref (a 0))] → va_P D vwCl (cWl kc a w1) H → va_D A (cWl kc a w1) → va_S A s.heap H locs → W p l e rm_X2_isWhole s m args below meth c H locs 0 0 Q (F0 m 17 ls []) := by
    intro w1 ls H locs h hl hP hD hS
    subst eJ17
    refine lv_iconst (v := 0) hx hb dX2_isWhole_17 (by decide) ?_
    refine lv_istore_n (lv' := [(2, .int 0), (0, .ref (a 0))]) hx hb dX2_isWhole_18 rfl hl (by decide) rfl (fun ls hl => ?_)
    refine h (fun (i2 : Int32) (w3 : S2) => ∀ (ls : Array Slot) (H : Heap) (locs : List Loc), lv_has ls 3 [(0, .ref (a 0)), (2, .int i2)] → va_P D vwCl (cWl kc a w3) H → va_D A (cWl kc a w3) → va_S A s.heap H locs → W p l e rm_X2_isWhole s m args below meth c H locs 0 0 Q (F0 m 19 ls [])) ?_ ls H locs (lv_sub hl [1, 0] rfl) hP hD hS
    intro i2 w3 h ls H locs hl hP hD hS
    refine lv_iload_n hx hb dX2_isWhole_19 rfl (lv_at hl 1 rfl) ?_
    refine lv_aload_n hx hb dX2_isWhole_20 rfl (lv_at hl 0 rfl) ?_
    refine va_get (D := D) (ci := 2) (v := .int (w3 0 4)) (C := RX2) (T := TX2) (N := 13) hx hb hts hi2 hown hK.1 hP 0 rfl rfl 4 (by decide) (hts (.fieldLink RX2 46 "LastPenny$World" "gifts" "I") (by decide +kernel)) (fun _ h9 => h9) rfl dX2_isWhole_21 ?_
    refine lv_icmp_ge (tgt := 69) hx hb dX2_isWhole_24 (by decide) (fun c4 => ?_) (fun c4 => ?_)
    · have h := br1 h c4
      refine lv_iconst (v := 1) hx hb dX2_isWhole_69 (by decide) ?_
      exact hret 1 w3 H locs ls _ rfl h hP hD hS dX2_isWhole_70
    · have h := br2 h c4
      refine lv_aload_n hx hb dX2_isWhole_27 rfl (lv_at hl 0 rfl) ?_
      refine lv_aload_n hx hb dX2_isWhole_28 rfl (lv_at hl 0 rfl) ?_
      refine va_get (D := D) (ci := 2) (v := .ref (a 5)) (C := RX2) (T := TX2) (N := 13) hx hb hts hi2 hown hK.1 hP 0 rfl rfl 10 (by decide) (hts (.fieldLink RX2 24 "LastPenny$World" "giftCells" "[I") (by decide +kernel)) (fun _ h9 => h9) rfl dX2_isWhole_29 ?_
      refine lv_iload_n hx hb dX2_isWhole_32 rfl (lv_at hl 1 rfl) ?_
      refine lv_iconst (v := 4) hx hb dX2_isWhole_33 (by decide) ?_
      refine lv_imul hx hb dX2_isWhole_34 ?_
      refine lv_iconst (v := 1) hx hb dX2_isWhole_35 (by decide) ?_
      refine lv_iadd hx hb dX2_isWhole_36 ?_
      obtain ⟨hi_5, h⟩ := h
      refine va_iald hx hb hK.1 hP 5 0 rfl rfl hi_5 dX2_isWhole_37 ?_
      refine q_cVi (As := [.int (w3 5 ((i2 * 4) + 1).toNatClampNeg)]) (rest := []) ⟨hx, hb, hml, hown, hts⟩ hK (c_X2_has l D kc a (w3 5 ((i2 * 4) + 1).toNatClampNeg) w3 H.size _ h) (cwV 1 hts gX2_isWhole_X2_has rfl rfl rfl (by decide +kernel) ⟨Nat.le_of_ble_eq_true rfl, Nat.le_of_ble_eq_true rfl⟩) (cut_same (fun u : S2 => cWl kc a u) w3) hP hD hS hA 2 0 rfl rfl rfl hl.1 rfl (Nat.le_of_ble_eq_true rfl) dX2_isWhole_38 ⟨Nat.zero_le _, Nat.zero_le _⟩ (fun r7 u8 H locs h hP hD hS => ?_)
      obtain ⟨w6, rfl⟩ : ∃ z, z = u8 := ⟨_, rfl⟩
      have hP : va_P D vwCl (cWl kc a w6) H := hP
      have hD : va_D A (cWl kc a w6) := hD
      refine lv_if_eq (tgt := 61) hx hb dX2_isWhole_41 (by decide) (fun c9 => ?_) (fun c9 => ?_)
      · have h := br1 h c9
        refine lv_iconst (v := 0) hx hb dX2_isWhole_61 (by decide) ?_
        exact hret 0 w6 H locs ls _ rfl h hP hD hS dX2_isWhole_62
      · have h := br2 h c9
        refine lv_aload_n hx hb dX2_isWhole_44 rfl (lv_at hl 0 rfl) ?_
        refine lv_aload_n hx hb dX2_isWhole_45 rfl (lv_at hl 0 rfl) ?_
        refine va_get (D := D) (ci := 2) (v := .ref (a 5)) (C := RX2) (T := TX2) (N := 13) hx hb hts hi2 hown hK.1 hP 0 rfl rfl 10 (by decide) (hts (.fieldLink RX2 24 "LastPenny$World" "giftCells" "[I") (by decide +kernel)) (fun _ h9 => h9) rfl dX2_isWhole_46 ?_
        refine lv_iload_n hx hb dX2_isWhole_49 rfl (lv_at hl 1 rfl) ?_
        refine lv_iconst (v := 4) hx hb dX2_isWhole_50 (by decide) ?_
        refine lv_imul hx hb dX2_isWhole_51 ?_
        refine lv_iconst (v := 2) hx hb dX2_isWhole_52 (by decide) ?_
        refine lv_iadd hx hb dX2_isWhole_53 ?_
        obtain ⟨hi_10, h⟩ := h
        refine va_iald hx hb hK.1 hP 5 0 rfl rfl hi_10 dX2_isWhole_54 ?_
        refine q_cVi (As := [.int (w6 5 ((i2 * 4) + 2).toNatClampNeg)]) (rest := []) ⟨hx, hb, hml, hown, hts⟩ hK (c_X2_has l D kc a (w6 5 ((i2 * 4) + 2).toNatClampNeg) w6 H.size _ h) (cwV 1 hts gX2_isWhole_X2_has rfl rfl rfl (by decide +kernel) ⟨Nat.le_of_ble_eq_true rfl, Nat.le_of_ble_eq_true rfl⟩) (cut_same (fun u : S2 => cWl kc a u) w6) hP hD hS hA 2 0 rfl rfl rfl hl.1 rfl (Nat.le_of_ble_eq_true rfl) dX2_isWhole_55 ⟨Nat.zero_le _, Nat.zero_le _⟩ (fun r12 u13 H locs h hP hD hS => ?_)
        obtain ⟨w11, rfl⟩ : ∃ z, z = u13 := ⟨_, rfl⟩
        have hP : va_P D vwCl (cWl kc a w11) H := hP
        have hD : va_D A (cWl kc a w11) := hD
        refine lv_if_ne (tgt := 63) hx hb dX2_isWhole_58 (by decide) (fun c14 => ?_) (fun c14 => ?_)
        · have h := br2 h c14
          obtain ⟨x15, ex15⟩ : ∃ z : Int32, z = i2 + 1 := ⟨_, rfl⟩
          have h := nm_out h x15 ex15
          refine lv_iinc (v := x15) (lv' := [(2, .int x15), (0, .ref (a 0))]) hx hb dX2_isWhole_63 hl (k := 1) rfl (by rw [ex15]; rfl) (by decide) rfl (fun ls hl => ?_)
          refine lv_goto (tgt := 19) hx hb dX2_isWhole_66 (by decide) ?_
          exact h ls H locs (lv_sub hl [1, 0] rfl) hP hD hS
        · have h := br1 h c14
          refine lv_iconst (v := 0) hx hb dX2_isWhole_61 (by decide) ?_
          exact hret 0 w11 H locs ls _ rfl h hP hD hS dX2_isWhole_62
  refine lv_if_eq (tgt := 17) hx hb dX2_isWhole_1 (by decide) (fun c16 => ?_) (fun c16 => ?_)
  · have h := br1 h c16
    exact hJ_17 w ls H locs h (lv_sub hl [0] rfl) hP hD hS
  · have h := br2 h c16
    refine lv_aload_n hx hb dX2_isWhole_4 rfl (lv_at hl 0 rfl) ?_
    refine lv_aload_n hx hb dX2_isWhole_5 rfl (lv_at hl 0 rfl) ?_
    refine va_get (D := D) (ci := 2) (v := .int (w 0 3)) (C := RX2) (T := TX2) (N := 13) hx hb hts hi2 hown hK.1 hP 0 rfl rfl 3 (by decide) (hts (.fieldLink RX2 43 "LastPenny$World" "holder" "I") (by decide +kernel)) (fun _ h9 => h9) rfl dX2_isWhole_6 ?_
    refine q_cVi (As := [.int (w 0 3)]) (rest := []) ⟨hx, hb, hml, hown, hts⟩ hK (c_X2_has l D kc a (w 0 3) w H.size _ h) (cwV 1 hts gX2_isWhole_X2_has rfl rfl rfl (by decide +kernel) ⟨Nat.le_of_ble_eq_true rfl, Nat.le_of_ble_eq_true rfl⟩) (cut_same (fun u : S2 => cWl kc a u) w) hP hD hS hA 2 0 rfl rfl rfl hl.1 rfl (Nat.le_of_ble_eq_true rfl) dX2_isWhole_9 ⟨Nat.zero_le _, Nat.zero_le _⟩ (fun r18 u19 H locs h hP hD hS => ?_)
    obtain ⟨w17, rfl⟩ : ∃ z, z = u19 := ⟨_, rfl⟩
    have hP : va_P D vwCl (cWl kc a w17) H := hP
    have hD : va_D A (cWl kc a w17) := hD
    refine lv_if_ne (tgt := 17) hx hb dX2_isWhole_12 (by decide) (fun c20 => ?_) (fun c20 => ?_)
    · have h := br2 h c20
      exact hJ_17 w17 ls H locs h (lv_sub hl [0] rfl) hP hD hS
    · have h := br1 h c20
      refine lv_iconst (v := 0) hx hb dX2_isWhole_15 (by decide) ?_
      exact hret 0 w17 H locs ls _ rfl h hP hD hS dX2_isWhole_16

def w_X2_clear (w : S2) (K : S2 → Prop) : Prop := nm ((va_up w 0 (upd (w 0) 0 0)) : S2) (fun w1 => nm ((va_up w1 0 (upd (w1 0) 1 0)) : S2) (fun w2 => nm ((va_up w2 0 (upd (w2 0) 2 0)) : S2) (fun w3 => nm ((va_up w3 0 (upd (w3 0) 3 0)) : S2) (fun w4 => nm ((va_up w4 0 (upd (w4 0) 4 0)) : S2) (fun w5 => nm ((va_up w5 0 (upd (w5 0) 5 0)) : S2) (fun w6 => K w6))))))
abbrev rm_X2_clear : Room := { frames := 0, cells := 0, slots := 0, locals := 0 }
set_option maxHeartbeats 4000000 in
set_option maxRecDepth 100000 in
theorem c_X2_clear (l : Launch) (D : va_G) (kc : Nat → ClassId) (a : Nat → Nat) (w : S2) (sz : Nat) (K : S2 → Prop) (h : w_X2_clear w K) : MetV l yX2_clear wsX2_clear rm_X2_clear D kc (fun u : S2 => cWl kc a u) w [.ref (a 0)] sz (fun u => K u) := by
  refine q_ev (code := cX2_clear) (maxL := 1) (by decide) rfl (Nat.le_of_ble_eq_true rfl) ?_
  intro p e s m args below meth c Q A hx hb hml hts hown hK hA hret ls hl hP hD hS
  have hown : s.vm.findClass RX2 = some m.cls := hown
  have hl : lv_has ls 1 [(0, .ref (a 0))] := hl
  have hP : va_P D vwCl (cWl kc a w) s.heap := hP
  have hD : va_D A (cWl kc a w) := hD
  have hS : va_S A s.heap s.heap [] := hS
  obtain ⟨H, eH⟩ : ∃ z, z = s.heap := ⟨_, rfl⟩
  obtain ⟨locs, eL⟩ : ∃ z : List Loc, z = [] := ⟨_, rfl⟩
  have hP := q_heap hP eH
  have hS := q_heapS hS eH eL
  refine q_start eH eL ?_
  clear eH eL
  have hi2 : ∀ w ∈ u_ws RX2 TX2 13, w ∈ wsX2_clear := by decide +kernel
  unfold w_X2_clear at h
  refine lv_aload_n hx hb dX2_clear_0 rfl (lv_at hl 0 rfl) ?_
  refine lv_iconst (v := 0) hx hb dX2_clear_1 (by decide) ?_
  refine va_put (D := D) (ci := 2) (v := .int 0) (ty := .int) (C := RX2) (T := TX2) (N := 13) hx hb hts hi2 tyX2 tyX2_ok nmX2 hown hK.1 hP hD hS 0 rfl rfl 0 (by decide) (hts (.fieldLink RX2 33 "LastPenny$World" "people" "I") (by decide +kernel)) (fun _ h9 => h9) rfl (by decide +kernel) rfl rfl (Nat.le_of_ble_eq_true rfl) dX2_clear_2 (fun H locs hP hD hS => ?_)
  obtain ⟨w1, ew1⟩ : ∃ z, z = (va_up w 0 (upd (w 0) 0 0)) := ⟨_, rfl⟩
  have h := nm_out h w1 ew1
  have hP : va_P D vwCl (cWl kc a w1) H := q_to hP (by subst ew1; rfl)
  have hD : va_D A (cWl kc a w1) := q_toD hD (by subst ew1; rfl)
  refine lv_aload_n hx hb dX2_clear_5 rfl (lv_at hl 0 rfl) ?_
  refine lv_iconst (v := 0) hx hb dX2_clear_6 (by decide) ?_
  refine va_put (D := D) (ci := 2) (v := .int 0) (ty := .int) (C := RX2) (T := TX2) (N := 13) hx hb hts hi2 tyX2 tyX2_ok nmX2 hown hK.1 hP hD hS 0 rfl rfl 1 (by decide) (hts (.fieldLink RX2 37 "LastPenny$World" "quarter" "I") (by decide +kernel)) (fun _ h9 => h9) rfl (by decide +kernel) rfl rfl (Nat.le_of_ble_eq_true rfl) dX2_clear_7 (fun H locs hP hD hS => ?_)
  obtain ⟨w2, ew2⟩ : ∃ z, z = (va_up w1 0 (upd (w1 0) 1 0)) := ⟨_, rfl⟩
  have h := nm_out h w2 ew2
  have hP : va_P D vwCl (cWl kc a w2) H := q_to hP (by subst ew2; rfl)
  have hD : va_D A (cWl kc a w2) := q_toD hD (by subst ew2; rfl)
  refine lv_aload_n hx hb dX2_clear_10 rfl (lv_at hl 0 rfl) ?_
  refine lv_iconst (v := 0) hx hb dX2_clear_11 (by decide) ?_
  refine va_put (D := D) (ci := 2) (v := .int 0) (ty := .int) (C := RX2) (T := TX2) (N := 13) hx hb hts hi2 tyX2 tyX2_ok nmX2 hown hK.1 hP hD hS 0 rfl rfl 2 (by decide) (hts (.fieldLink RX2 40 "LastPenny$World" "slumpNow" "I") (by decide +kernel)) (fun _ h9 => h9) rfl (by decide +kernel) rfl rfl (Nat.le_of_ble_eq_true rfl) dX2_clear_12 (fun H locs hP hD hS => ?_)
  obtain ⟨w3, ew3⟩ : ∃ z, z = (va_up w2 0 (upd (w2 0) 2 0)) := ⟨_, rfl⟩
  have h := nm_out h w3 ew3
  have hP : va_P D vwCl (cWl kc a w3) H := q_to hP (by subst ew3; rfl)
  have hD : va_D A (cWl kc a w3) := q_toD hD (by subst ew3; rfl)
  refine lv_aload_n hx hb dX2_clear_15 rfl (lv_at hl 0 rfl) ?_
  refine lv_iconst (v := 0) hx hb dX2_clear_16 (by decide) ?_
  refine va_put (D := D) (ci := 2) (v := .int 0) (ty := .int) (C := RX2) (T := TX2) (N := 13) hx hb hts hi2 tyX2 tyX2_ok nmX2 hown hK.1 hP hD hS 0 rfl rfl 3 (by decide) (hts (.fieldLink RX2 43 "LastPenny$World" "holder" "I") (by decide +kernel)) (fun _ h9 => h9) rfl (by decide +kernel) rfl rfl (Nat.le_of_ble_eq_true rfl) dX2_clear_17 (fun H locs hP hD hS => ?_)
  obtain ⟨w4, ew4⟩ : ∃ z, z = (va_up w3 0 (upd (w3 0) 3 0)) := ⟨_, rfl⟩
  have h := nm_out h w4 ew4
  have hP : va_P D vwCl (cWl kc a w4) H := q_to hP (by subst ew4; rfl)
  have hD : va_D A (cWl kc a w4) := q_toD hD (by subst ew4; rfl)
  refine lv_aload_n hx hb dX2_clear_20 rfl (lv_at hl 0 rfl) ?_
  refine lv_iconst (v := 0) hx hb dX2_clear_21 (by decide) ?_
  refine va_put (D := D) (ci := 2) (v := .int 0) (ty := .int) (C := RX2) (T := TX2) (N := 13) hx hb hts hi2 tyX2 tyX2_ok nmX2 hown hK.1 hP hD hS 0 rfl rfl 4 (by decide) (hts (.fieldLink RX2 46 "LastPenny$World" "gifts" "I") (by decide +kernel)) (fun _ h9 => h9) rfl (by decide +kernel) rfl rfl (Nat.le_of_ble_eq_true rfl) dX2_clear_22 (fun H locs hP hD hS => ?_)
  obtain ⟨w5, ew5⟩ : ∃ z, z = (va_up w4 0 (upd (w4 0) 4 0)) := ⟨_, rfl⟩
  have h := nm_out h w5 ew5
  have hP : va_P D vwCl (cWl kc a w5) H := q_to hP (by subst ew5; rfl)
  have hD : va_D A (cWl kc a w5) := q_toD hD (by subst ew5; rfl)
  refine lv_aload_n hx hb dX2_clear_25 rfl (lv_at hl 0 rfl) ?_
  refine lv_iconst (v := 0) hx hb dX2_clear_26 (by decide) ?_
  refine va_put (D := D) (ci := 2) (v := .int 0) (ty := .int) (C := RX2) (T := TX2) (N := 13) hx hb hts hi2 tyX2 tyX2_ok nmX2 hown hK.1 hP hD hS 0 rfl rfl 5 (by decide) (hts (.fieldLink RX2 49 "LastPenny$World" "seen" "I") (by decide +kernel)) (fun _ h9 => h9) rfl (by decide +kernel) rfl rfl (Nat.le_of_ble_eq_true rfl) dX2_clear_27 (fun H locs hP hD hS => ?_)
  obtain ⟨w6, ew6⟩ : ∃ z, z = (va_up w5 0 (upd (w5 0) 5 0)) := ⟨_, rfl⟩
  have h := nm_out h w6 ew6
  have hP : va_P D vwCl (cWl kc a w6) H := q_to hP (by subst ew6; rfl)
  have hD : va_D A (cWl kc a w6) := q_toD hD (by subst ew6; rfl)
  exact hret w6 H locs ls _ h hP hD hS dX2_clear_30

