abbrev rm_X1_tellLine : Room := { frames := 6, cells := 0, slots := 0, locals := 130 }
set_option maxHeartbeats 4000000 in
set_option maxRecDepth 100000 in
theorem c_X1_tellLine (l : Launch) (D : va_G) (kc : Nat → ClassId) (ad adV : Nat → Nat) (fm : Value) (a : Nat → Nat) (b : Nat → Nat) (t : S2) (w : S2) (sz : Nat) (K : S2 → S2 → Prop) (h : w_X1_tellLine t w K) : MetVS l yX1_tellLine wsX1_tellLine rm_X1_tellLine D kc ad adV fm (fun u : S2 × S2 => cT kc a u.1 ++ cWl kc b u.2) (t, w) [.ref (a 0), .ref (b 0)] sz (fun u => K u.1 u.2) := by
  refine q_evS (code := cX1_tellLine) (maxL := 3) (by decide) rfl (Nat.le_of_ble_eq_true rfl) ?_
  intro p e s m args below meth c Q A hx hb hml hts hown hK hX hA hret ls hl hP hD hS
  have hown : s.vm.findClass RX1 = some m.cls := hown
  have hl : lv_has ls 3 [(0, .ref (a 0)), (1, .ref (b 0))] := hl
  have hP : va_P D vwCl (cT kc a t ++ cWl kc b w) s.heap := hP
  have hD : va_D A (cT kc a t ++ cWl kc b w) := hD
  have hS : va_S A s.heap s.heap [] := hS
  obtain ⟨H, eH⟩ : ∃ z, z = s.heap := ⟨_, rfl⟩
  obtain ⟨locs, eL⟩ : ∃ z : List Loc, z = [] := ⟨_, rfl⟩
  have hP := q_heap hP eH
  have hS := q_heapS hS eH eL
  refine q_start eH eL ?_
  clear eH eL
  have hi1 : ∀ w ∈ u_ws RX1 TX1 9, w ∈ wsX1_tellLine := by decide +kernel
  unfold w_X1_tellLine at h
  refine lv_aload_n hx hb dX1_tellLine_0 rfl (lv_at hl 0 rfl) ?_
  refine va_get (D := D) (ci := 1) (v := .int (t 0 5)) (C := RX1) (T := TX1) (N := 9) hx hb hts hi1 hown hK.1 hP 0 rfl rfl 5 (by decide) (hts (.fieldLink RX1 38 "LastPenny$Tape" "token" "I") (by decide +kernel)) (fun _ h9 => h9) rfl dX1_tellLine_1 ?_
  refine lv_iconst (v := 1) hx hb dX1_tellLine_4 (by decide) ?_
  refine jn_elim h (fun J17 eJ17 h => ?_)
  have hJ_17 : ∀ (k1 : Int32) (t2 : S2) (w3 : S2) (ls : Array Slot) (H : Heap) (locs : List Loc), J17 k1 t2 w3 → lv_has ls 3 [(0, .ref (a 0)), (1, .ref (b 0))] → va_P D vwCl (cT kc a t2 ++ cWl kc b w3) H → va_D A (cT kc a t2 ++ cWl kc b w3) → va_S A s.heap H locs → W p l e rm_X1_tellLine s m args below meth c H locs 0 0 Q (F0 m 17 ls [.int k1]) := by
    intro k1 t2 w3 ls H locs h hl hP hD hS
    subst eJ17
    refine lv_istore_n (lv' := [(2, .int k1), (0, .ref (a 0)), (1, .ref (b 0))]) hx hb dX1_tellLine_17 rfl hl (by decide) rfl (fun ls hl => ?_)
    refine lv_iload_n hx hb dX1_tellLine_18 rfl (lv_at hl 0 rfl) ?_
    refine lv_bipush (v := 7) hx hb dX1_tellLine_19 (by decide) ?_
    refine jn_elim h (fun J82 eJ82 h => ?_)
    have hJ_82 : ∀ (t4 : S2) (w5 : S2) (ls : Array Slot) (H : Heap) (locs : List Loc), J82 t4 w5 → lv_has ls 3 [(0, .ref (a 0))] → va_P D vwCl (cT kc a t4 ++ cWl kc b w5) H → va_D A (cT kc a t4 ++ cWl kc b w5) → va_S A s.heap H locs → W p l e rm_X1_tellLine s m args below meth c H locs 0 0 Q (F0 m 82 ls []) := by
      intro t4 w5 ls H locs h hl hP hD hS
      subst eJ82
      refine lv_aload_n hx hb dX1_tellLine_82 rfl (lv_at hl 0 rfl) ?_
      refine q_cVv (As := []) (rest := []) ⟨hx, hb, hml, hown, hts⟩ hK (c_X1_takeStop l D kc a t4 H.size _ h) (cwV 0 hts gX1_tellLine_X1_takeStop rfl rfl rfl (by decide +kernel) ⟨Nat.le_of_ble_eq_true rfl, Nat.le_of_ble_eq_true rfl⟩) (cut_TW_T D kc a b t4 w5) hP hD hS hA 1 0 rfl rfl rfl hl.1 rfl (Nat.le_of_ble_eq_true rfl) dX1_tellLine_83 ⟨Nat.zero_le _, Nat.zero_le _⟩ (fun u7 H locs h hP hD hS => ?_)
      obtain ⟨t6, rfl⟩ : ∃ z, z = u7 := ⟨_, rfl⟩
      have hP : va_P D vwCl (cT kc a t6 ++ cWl kc b w5) H := hP
      have hD : va_D A (cT kc a t6 ++ cWl kc b w5) := hD
      exact hret (t6, w5) H locs ls _ h hP hD hS dX1_tellLine_86
    refine lv_icmp_ne (tgt := 36) hx hb dX1_tellLine_21 (by decide) (fun c8 => ?_) (fun c8 => ?_)
    · have h := br2 h c8
      refine lv_iload_n hx hb dX1_tellLine_36 rfl (lv_at hl 0 rfl) ?_
      refine lv_iconst (v := 4) hx hb dX1_tellLine_37 (by decide) ?_
      refine lv_icmp_ne (tgt := 49) hx hb dX1_tellLine_38 (by decide) (fun c9 => ?_) (fun c9 => ?_)
      · have h := br2 h c9
        refine lv_iload_n hx hb dX1_tellLine_49 rfl (lv_at hl 0 rfl) ?_
        refine lv_iconst (v := 5) hx hb dX1_tellLine_50 (by decide) ?_
        refine lv_icmp_ne (tgt := 62) hx hb dX1_tellLine_51 (by decide) (fun c10 => ?_) (fun c10 => ?_)
        · have h := br2 h c10
          refine lv_iload_n hx hb dX1_tellLine_62 rfl (lv_at hl 0 rfl) ?_
          refine lv_bipush (v := 6) hx hb dX1_tellLine_63 (by decide) ?_
          refine lv_icmp_ne (tgt := 76) hx hb dX1_tellLine_65 (by decide) (fun c11 => ?_) (fun c11 => ?_)
          · have h := br2 h c11
            refine lv_aload_n hx hb dX1_tellLine_76 rfl (lv_at hl 1 rfl) ?_
            refine lv_aload_n hx hb dX1_tellLine_77 rfl (lv_at hl 2 rfl) ?_
            refine lv_iload_n hx hb dX1_tellLine_78 rfl (lv_at hl 0 rfl) ?_
            refine q_cVv (As := [.ref (b 0), .int k1]) (rest := []) ⟨hx, hb, hml, hown, hts⟩ hK (c_X1_tellOne l D kc a b k1 t2 w3 H.size _ h) (cwV 2 hts gX1_tellLine_X1_tellOne rfl rfl rfl (by decide +kernel) ⟨Nat.le_of_ble_eq_true rfl, Nat.le_of_ble_eq_true rfl⟩) (cut_same (fun u : S2 × S2 => cT kc a u.1 ++ cWl kc b u.2) (t2, w3)) hP hD hS hA 1 0 rfl rfl rfl hl.1 rfl (Nat.le_of_ble_eq_true rfl) dX1_tellLine_79 ⟨Nat.zero_le _, Nat.zero_le _⟩ (fun u14 H locs h hP hD hS => ?_)
            obtain ⟨t12, w13⟩ := u14
            have hP : va_P D vwCl (cT kc a t12 ++ cWl kc b w13) H := hP
            have hD : va_D A (cT kc a t12 ++ cWl kc b w13) := hD
            exact hJ_82 t12 w13 ls H locs h (lv_sub hl [1] rfl) hP hD hS
          · have h := br1 h c11
            refine lv_aload_n hx hb dX1_tellLine_68 rfl (lv_at hl 1 rfl) ?_
            refine lv_aload_n hx hb dX1_tellLine_69 rfl (lv_at hl 2 rfl) ?_
            refine q_cVv (As := [.ref (b 0)]) (rest := []) ⟨hx, hb, hml, hown, hts⟩ hK (c_X1_tellGift l D kc a b t2 w3 H.size _ h) (cwV 1 hts gX1_tellLine_X1_tellGift rfl rfl rfl (by decide +kernel) ⟨Nat.le_of_ble_eq_true rfl, Nat.le_of_ble_eq_true rfl⟩) (cut_same (fun u : S2 × S2 => cT kc a u.1 ++ cWl kc b u.2) (t2, w3)) hP hD hS hA 1 0 rfl rfl rfl hl.1 rfl (Nat.le_of_ble_eq_true rfl) dX1_tellLine_70 ⟨Nat.zero_le _, Nat.zero_le _⟩ (fun u17 H locs h hP hD hS => ?_)
            obtain ⟨t15, w16⟩ := u17
            have hP : va_P D vwCl (cT kc a t15 ++ cWl kc b w16) H := hP
            have hD : va_D A (cT kc a t15 ++ cWl kc b w16) := hD
            refine lv_goto (tgt := 82) hx hb dX1_tellLine_73 (by decide) ?_
            exact hJ_82 t15 w16 ls H locs h (lv_sub hl [1] rfl) hP hD hS
        · have h := br1 h c10
          refine lv_aload_n hx hb dX1_tellLine_54 rfl (lv_at hl 1 rfl) ?_
          refine lv_aload_n hx hb dX1_tellLine_55 rfl (lv_at hl 2 rfl) ?_
          refine q_cVv (As := [.ref (b 0)]) (rest := []) ⟨hx, hb, hml, hown, hts⟩ hK (c_X1_tellCoin l D kc a b t2 w3 H.size _ h) (cwV 1 hts gX1_tellLine_X1_tellCoin rfl rfl rfl (by decide +kernel) ⟨Nat.le_of_ble_eq_true rfl, Nat.le_of_ble_eq_true rfl⟩) (cut_same (fun u : S2 × S2 => cT kc a u.1 ++ cWl kc b u.2) (t2, w3)) hP hD hS hA 1 0 rfl rfl rfl hl.1 rfl (Nat.le_of_ble_eq_true rfl) dX1_tellLine_56 ⟨Nat.zero_le _, Nat.zero_le _⟩ (fun u20 H locs h hP hD hS => ?_)
          obtain ⟨t18, w19⟩ := u20
          have hP : va_P D vwCl (cT kc a t18 ++ cWl kc b w19) H := hP
          have hD : va_D A (cT kc a t18 ++ cWl kc b w19) := hD
          refine lv_goto (tgt := 82) hx hb dX1_tellLine_59 (by decide) ?_
          exact hJ_82 t18 w19 ls H locs h (lv_sub hl [1] rfl) hP hD hS
      · have h := br1 h c9
        refine lv_aload_n hx hb dX1_tellLine_41 rfl (lv_at hl 1 rfl) ?_
        refine lv_aload_n hx hb dX1_tellLine_42 rfl (lv_at hl 2 rfl) ?_
        refine q_cVv (As := [.ref (b 0)]) (rest := []) ⟨hx, hb, hml, hown, hts⟩ hK (c_X1_tellSlump l D kc a b t2 w3 H.size _ h) (cwV 1 hts gX1_tellLine_X1_tellSlump rfl rfl rfl (by decide +kernel) ⟨Nat.le_of_ble_eq_true rfl, Nat.le_of_ble_eq_true rfl⟩) (cut_same (fun u : S2 × S2 => cT kc a u.1 ++ cWl kc b u.2) (t2, w3)) hP hD hS hA 1 0 rfl rfl rfl hl.1 rfl (Nat.le_of_ble_eq_true rfl) dX1_tellLine_43 ⟨Nat.zero_le _, Nat.zero_le _⟩ (fun u23 H locs h hP hD hS => ?_)
        obtain ⟨t21, w22⟩ := u23
        have hP : va_P D vwCl (cT kc a t21 ++ cWl kc b w22) H := hP
        have hD : va_D A (cT kc a t21 ++ cWl kc b w22) := hD
        refine lv_goto (tgt := 82) hx hb dX1_tellLine_46 (by decide) ?_
        exact hJ_82 t21 w22 ls H locs h (lv_sub hl [1] rfl) hP hD hS
    · have h := br1 h c8
      refine lv_aload_n hx hb dX1_tellLine_24 rfl (lv_at hl 1 rfl) ?_
      refine lv_iconst (v := 2) hx hb dX1_tellLine_25 (by decide) ?_
      refine lv_aload_n hx hb dX1_tellLine_26 rfl (lv_at hl 1 rfl) ?_
      refine va_get (D := D) (ci := 1) (v := .int (t2 0 6)) (C := RX1) (T := TX1) (N := 9) hx hb hts hi1 hown hK.1 hP 0 rfl rfl 6 (by decide) (hts (.fieldLink RX1 59 "LastPenny$Tape" "start" "I") (by decide +kernel)) (fun _ h9 => h9) rfl dX1_tellLine_27 ?_
      refine q_cVv (As := [.int 2, .int (t2 0 6)]) (rest := []) ⟨hx, hb, hml, hown, hts⟩ hK (c_X1_refuse l D kc a (2 : Int32) (t2 0 6) t2 H.size _ h) (cwV 2 hts gX1_tellLine_X1_refuse rfl rfl rfl (by decide +kernel) ⟨Nat.le_of_ble_eq_true rfl, Nat.le_of_ble_eq_true rfl⟩) (cut_TW_T D kc a b t2 w3) hP hD hS hA 1 0 rfl rfl rfl hl.1 rfl (Nat.le_of_ble_eq_true rfl) dX1_tellLine_30 ⟨Nat.zero_le _, Nat.zero_le _⟩ (fun u25 H locs h hP hD hS => ?_)
      obtain ⟨t24, rfl⟩ : ∃ z, z = u25 := ⟨_, rfl⟩
      have hP : va_P D vwCl (cT kc a t24 ++ cWl kc b w3) H := hP
      have hD : va_D A (cT kc a t24 ++ cWl kc b w3) := hD
      refine lv_goto (tgt := 82) hx hb dX1_tellLine_33 (by decide) ?_
      exact hJ_82 t24 w3 ls H locs h (lv_sub hl [1] rfl) hP hD hS
  refine lv_icmp_ne (tgt := 15) hx hb dX1_tellLine_5 (by decide) (fun c26 => ?_) (fun c26 => ?_)
  · have h := br2 h c26
    refine lv_bipush (v := 7) hx hb dX1_tellLine_15 (by decide) ?_
    exact hJ_17 7 t w ls H locs h (lv_sub hl [0, 1] rfl) hP hD hS
  · have h := br1 h c26
    refine lv_aload_n hx hb dX1_tellLine_8 rfl (lv_at hl 0 rfl) ?_
    refine q_cViS (As := []) (rest := []) ⟨hx, hb, hml, hown, hts⟩ hK hX (c_X1_lineNamed l D kc ad adV fm a t H.size _ h) (cwV 0 hts gX1_tellLine_X1_lineNamed rfl rfl rfl (by decide +kernel) ⟨Nat.le_of_ble_eq_true rfl, Nat.le_of_ble_eq_true rfl⟩) (cut_TW_T D kc a b t w) hP hD hS hA 1 0 rfl rfl rfl hl.1 rfl (Nat.le_of_ble_eq_true rfl) dX1_tellLine_9 ⟨Nat.zero_le _, Nat.zero_le _⟩ (fun r28 u29 H locs h hP hD hS => ?_)
    obtain ⟨t27, rfl⟩ : ∃ z, z = u29 := ⟨_, rfl⟩
    have hP : va_P D vwCl (cT kc a t27 ++ cWl kc b w) H := hP
    have hD : va_D A (cT kc a t27 ++ cWl kc b w) := hD
    refine lv_goto (tgt := 17) hx hb dX1_tellLine_12 (by decide) ?_
    exact hJ_17 r28 t27 w ls H locs h (lv_sub hl [0, 1] rfl) hP hD hS

abbrev rm_X1_tell : Room := { frames := 7, cells := 0, slots := 0, locals := 154 }
set_option maxHeartbeats 4000000 in
set_option maxRecDepth 100000 in
theorem c_X1_tell (l : Launch) (D : va_G) (kc : Nat → ClassId) (ad adV : Nat → Nat) (fm : Value) (a : Nat → Nat) (b : Nat → Nat) (t : S2) (w : S2) (sz : Nat) (K : Int32 → S2 → S2 → Prop) (h : w_X1_tell t w K) : MetIS l yX1_tell wsX1_tell rm_X1_tell D kc ad adV fm (fun u : S2 × S2 => cT kc a u.1 ++ cWl kc b u.2) (t, w) [.ref (a 0), .ref (b 0)] sz (fun r u => K r u.1 u.2) := by
  refine q_eiS (code := cX1_tell) (maxL := 4) (by decide) rfl (Nat.le_of_ble_eq_true rfl) ?_
  intro p e s m args below meth c Q A hx hb hml hts hown hK hX hA hret ls hl hP hD hS
  have hown : s.vm.findClass RX1 = some m.cls := hown
  have hl : lv_has ls 4 [(0, .ref (a 0)), (1, .ref (b 0))] := hl
  have hP : va_P D vwCl (cT kc a t ++ cWl kc b w) s.heap := hP
  have hD : va_D A (cT kc a t ++ cWl kc b w) := hD
  have hS : va_S A s.heap s.heap [] := hS
  obtain ⟨H, eH⟩ : ∃ z, z = s.heap := ⟨_, rfl⟩
  obtain ⟨locs, eL⟩ : ∃ z : List Loc, z = [] := ⟨_, rfl⟩
  have hP := q_heap hP eH
  have hS := q_heapS hS eH eL
  refine q_start eH eL ?_
  clear eH eL
  have hi1 : ∀ w ∈ u_ws RX1 TX1 9, w ∈ wsX1_tell := by decide +kernel
  unfold w_X1_tell at h
  refine lv_aload_n hx hb dX1_tell_0 rfl (lv_at hl 0 rfl) ?_
  refine lv_iconst (v := 0) hx hb dX1_tell_1 (by decide) ?_
  refine va_put (D := D) (ci := 1) (v := .int 0) (ty := .int) (C := RX1) (T := TX1) (N := 9) hx hb hts hi1 tyX1 tyX1_ok nmX1 hown hK.1 hP hD hS 0 rfl rfl 2 (by decide) (hts (.fieldLink RX1 19 "LastPenny$Tape" "fault" "I") (by decide +kernel)) (fun _ h9 => h9) rfl (by decide +kernel) rfl rfl (Nat.le_of_ble_eq_true rfl) dX1_tell_2 (fun H locs hP hD hS => ?_)
  obtain ⟨t1, et1⟩ : ∃ z, z = (va_up t 0 (upd (t 0) 2 0)) := ⟨_, rfl⟩
  have h := nm_out h t1 et1
  have hP : va_P D vwCl (cT kc a t1 ++ cWl kc b w) H := q_to hP (by subst et1; rfl)
  have hD : va_D A (cT kc a t1 ++ cWl kc b w) := q_toD hD (by subst et1; rfl)
  refine lv_aload_n hx hb dX1_tell_5 rfl (lv_at hl 0 rfl) ?_
  refine lv_iconst (v := 0) hx hb dX1_tell_6 (by decide) ?_
  refine va_put (D := D) (ci := 1) (v := .int 0) (ty := .int) (C := RX1) (T := TX1) (N := 9) hx hb hts hi1 tyX1 tyX1_ok nmX1 hown hK.1 hP hD hS 0 rfl rfl 3 (by decide) (hts (.fieldLink RX1 22 "LastPenny$Tape" "faultPlace" "I") (by decide +kernel)) (fun _ h9 => h9) rfl (by decide +kernel) rfl rfl (Nat.le_of_ble_eq_true rfl) dX1_tell_7 (fun H locs hP hD hS => ?_)
  obtain ⟨t2, et2⟩ : ∃ z, z = (va_up t1 0 (upd (t1 0) 3 0)) := ⟨_, rfl⟩
  have h := nm_out h t2 et2
  have hP : va_P D vwCl (cT kc a t2 ++ cWl kc b w) H := q_to hP (by subst et2; rfl)
  have hD : va_D A (cT kc a t2 ++ cWl kc b w) := q_toD hD (by subst et2; rfl)
  refine lv_aload_n hx hb dX1_tell_10 rfl (lv_at hl 0 rfl) ?_
  refine lv_iconst (v := 0) hx hb dX1_tell_11 (by decide) ?_
  refine va_put (D := D) (ci := 1) (v := .int 0) (ty := .int) (C := RX1) (T := TX1) (N := 9) hx hb hts hi1 tyX1 tyX1_ok nmX1 hown hK.1 hP hD hS 0 rfl rfl 4 (by decide) (hts (.fieldLink RX1 25 "LastPenny$Tape" "at" "I") (by decide +kernel)) (fun _ h9 => h9) rfl (by decide +kernel) rfl rfl (Nat.le_of_ble_eq_true rfl) dX1_tell_12 (fun H locs hP hD hS => ?_)
  obtain ⟨t3, et3⟩ : ∃ z, z = (va_up t2 0 (upd (t2 0) 4 0)) := ⟨_, rfl⟩
  have h := nm_out h t3 et3
  have hP : va_P D vwCl (cT kc a t3 ++ cWl kc b w) H := q_to hP (by subst et3; rfl)
  have hD : va_D A (cT kc a t3 ++ cWl kc b w) := q_toD hD (by subst et3; rfl)
  refine lv_aload_n hx hb dX1_tell_15 rfl (lv_at hl 0 rfl) ?_
  refine lv_iconst (v := 0) hx hb dX1_tell_16 (by decide) ?_
  refine va_put (D := D) (ci := 1) (v := .int 0) (ty := .boolean) (C := RX1) (T := TX1) (N := 9) hx hb hts hi1 tyX1 tyX1_ok nmX1 hown hK.1 hP hD hS 0 rfl rfl 7 (by decide) (hts (.fieldLink RX1 28 "LastPenny$Tape" "slumpTold" "Z") (by decide +kernel)) (fun _ h9 => h9) rfl (by decide +kernel) rfl rfl (Nat.le_of_ble_eq_true rfl) dX1_tell_17 (fun H locs hP hD hS => ?_)
  obtain ⟨t4, et4⟩ : ∃ z, z = (va_up t3 0 (upd (t3 0) 7 0)) := ⟨_, rfl⟩
  have h := nm_out h t4 et4
  have hP : va_P D vwCl (cT kc a t4 ++ cWl kc b w) H := q_to hP (by subst et4; rfl)
  have hD : va_D A (cT kc a t4 ++ cWl kc b w) := q_toD hD (by subst et4; rfl)
  refine lv_aload_n hx hb dX1_tell_20 rfl (lv_at hl 0 rfl) ?_
  refine lv_iconst (v := 0) hx hb dX1_tell_21 (by decide) ?_
  refine va_put (D := D) (ci := 1) (v := .int 0) (ty := .boolean) (C := RX1) (T := TX1) (N := 9) hx hb hts hi1 tyX1 tyX1_ok nmX1 hown hK.1 hP hD hS 0 rfl rfl 8 (by decide) (hts (.fieldLink RX1 32 "LastPenny$Tape" "coinTold" "Z") (by decide +kernel)) (fun _ h9 => h9) rfl (by decide +kernel) rfl rfl (Nat.le_of_ble_eq_true rfl) dX1_tell_22 (fun H locs hP hD hS => ?_)
  obtain ⟨t5, et5⟩ : ∃ z, z = (va_up t4 0 (upd (t4 0) 8 0)) := ⟨_, rfl⟩
  have h := nm_out h t5 et5
  have hP : va_P D vwCl (cT kc a t5 ++ cWl kc b w) H := q_to hP (by subst et5; rfl)
  have hD : va_D A (cT kc a t5 ++ cWl kc b w) := q_toD hD (by subst et5; rfl)
  refine lv_iconst (v := 0) hx hb dX1_tell_25 (by decide) ?_
  refine lv_istore_n (lv' := [(2, .int 0), (0, .ref (a 0)), (1, .ref (b 0))]) hx hb dX1_tell_26 rfl hl (by decide) rfl (fun ls hl => ?_)
  refine lv_aload_n hx hb dX1_tell_27 rfl (lv_at hl 1 rfl) ?_
  refine q_cVv (As := []) (rest := []) ⟨hx, hb, hml, hown, hts⟩ hK (c_X1_next l D kc a t5 H.size _ h) (cwV 0 hts gX1_tell_X1_next rfl rfl rfl (by decide +kernel) ⟨Nat.le_of_ble_eq_true rfl, Nat.le_of_ble_eq_true rfl⟩) (cut_TW_T D kc a b t5 w) hP hD hS hA 1 0 rfl rfl rfl hl.1 rfl (Nat.le_of_ble_eq_true rfl) dX1_tell_28 ⟨Nat.zero_le _, Nat.zero_le _⟩ (fun u7 H locs h hP hD hS => ?_)
  obtain ⟨t6, rfl⟩ : ∃ z, z = u7 := ⟨_, rfl⟩
  have hP : va_P D vwCl (cT kc a t6 ++ cWl kc b w) H := hP
  have hD : va_D A (cT kc a t6 ++ cWl kc b w) := hD
  refine lv_iconst (v := 0) hx hb dX1_tell_31 (by decide) ?_
  refine lv_istore_n (lv' := [(3, .int 0), (2, .int 0), (0, .ref (a 0)), (1, .ref (b 0))]) hx hb dX1_tell_32 rfl hl (by decide) rfl (fun ls hl => ?_)
  refine h (fun (i8 : Int32) (i9 : Int32) (t10 : S2) (w11 : S2) => ∀ (ls : Array Slot) (H : Heap) (locs : List Loc), lv_has ls 4 [(0, .ref (a 0)), (1, .ref (b 0)), (2, .int i8), (3, .int i9)] → va_P D vwCl (cT kc a t10 ++ cWl kc b w11) H → va_D A (cT kc a t10 ++ cWl kc b w11) → va_S A s.heap H locs → W p l e rm_X1_tell s m args below meth c H locs 0 0 Q (F0 m 33 ls [])) ?_ ls H locs (lv_sub hl [2, 3, 1, 0] rfl) hP hD hS
  intro i8 i9 t10 w11 h ls H locs hl hP hD hS
  refine lv_iload_n hx hb dX1_tell_33 rfl (lv_at hl 3 rfl) ?_
  refine lv_sipush (v := 160) hx hb dX1_tell_34 (by decide) ?_
  refine jn_elim h (fun J72 eJ72 h => ?_)
  have hJ_72 : ∀  (ls : Array Slot), J72 () → lv_has ls 4 [(0, .ref (a 0)), (1, .ref (b 0)), (2, .int i8)] → W p l e rm_X1_tell s m args below meth c H locs 0 0 Q (F0 m 72 ls []) := by
    intro  ls h hl
    subst eJ72
    refine lv_aload_n hx hb dX1_tell_72 rfl (lv_at hl 0 rfl) ?_
    refine va_get (D := D) (ci := 1) (v := .int (t10 0 2)) (C := RX1) (T := TX1) (N := 9) hx hb hts hi1 hown hK.1 hP 0 rfl rfl 2 (by decide) (hts (.fieldLink RX1 19 "LastPenny$Tape" "fault" "I") (by decide +kernel)) (fun _ h9 => h9) rfl dX1_tell_73 ?_
    refine lv_if_ne (tgt := 100) hx hb dX1_tell_76 (by decide) (fun c12 => ?_) (fun c12 => ?_)
    · have h := br2 h c12
      refine lv_iload_n hx hb dX1_tell_100 rfl (lv_at hl 2 rfl) ?_
      exact hret i8 (t10, w11) H locs ls _ h hP hD hS dX1_tell_101
    · have h := br1 h c12
      refine lv_aload_n hx hb dX1_tell_79 rfl (lv_at hl 1 rfl) ?_
      refine lv_aload_n hx hb dX1_tell_80 rfl (lv_at hl 0 rfl) ?_
      refine va_get (D := D) (ci := 1) (v := .int (t10 0 8)) (C := RX1) (T := TX1) (N := 9) hx hb hts hi1 hown hK.1 hP 0 rfl rfl 8 (by decide) (hts (.fieldLink RX1 32 "LastPenny$Tape" "coinTold" "Z") (by decide +kernel)) (fun _ h9 => h9) rfl dX1_tell_81 ?_
      refine q_cVi (As := [.int (t10 0 8)]) (rest := []) ⟨hx, hb, hml, hown, hts⟩ hK (c_X2_isWhole l D kc b (t10 0 8) w11 H.size _ h) (cwV 1 hts gX1_tell_X2_isWhole rfl rfl rfl (by decide +kernel) ⟨Nat.le_of_ble_eq_true rfl, Nat.le_of_ble_eq_true rfl⟩) (cut_TW_W D kc a b t10 w11) hP hD hS hA 2 0 rfl rfl rfl hl.1 rfl (Nat.le_of_ble_eq_true rfl) dX1_tell_84 ⟨Nat.zero_le _, Nat.zero_le _⟩ (fun r14 u15 H locs h hP hD hS => ?_)
      obtain ⟨w13, rfl⟩ : ∃ z, z = u15 := ⟨_, rfl⟩
      have hP : va_P D vwCl (cT kc a t10 ++ cWl kc b w13) H := hP
      have hD : va_D A (cT kc a t10 ++ cWl kc b w13) := hD
      refine lv_if_ne (tgt := 100) hx hb dX1_tell_87 (by decide) (fun c16 => ?_) (fun c16 => ?_)
      · have h := br2 h c16
        refine lv_iload_n hx hb dX1_tell_100 rfl (lv_at hl 2 rfl) ?_
        exact hret i8 (t10, w13) H locs ls _ h hP hD hS dX1_tell_101
      · have h := br1 h c16
        refine lv_aload_n hx hb dX1_tell_90 rfl (lv_at hl 0 rfl) ?_
        refine lv_bipush (v := 6) hx hb dX1_tell_91 (by decide) ?_
        refine lv_aload_n hx hb dX1_tell_93 rfl (lv_at hl 0 rfl) ?_
        refine va_get (D := D) (ci := 1) (v := .int (t10 0 1)) (C := RX1) (T := TX1) (N := 9) hx hb hts hi1 hown hK.1 hP 0 rfl rfl 1 (by decide) (hts (.fieldLink RX1 15 "LastPenny$Tape" "length" "I") (by decide +kernel)) (fun _ h9 => h9) rfl dX1_tell_94 ?_
        refine q_cVv (As := [.int 6, .int (t10 0 1)]) (rest := []) ⟨hx, hb, hml, hown, hts⟩ hK (c_X1_refuse l D kc a (6 : Int32) (t10 0 1) t10 H.size _ h) (cwV 2 hts gX1_tell_X1_refuse rfl rfl rfl (by decide +kernel) ⟨Nat.le_of_ble_eq_true rfl, Nat.le_of_ble_eq_true rfl⟩) (cut_TW_T D kc a b t10 w13) hP hD hS hA 1 0 rfl rfl rfl hl.1 rfl (Nat.le_of_ble_eq_true rfl) dX1_tell_97 ⟨Nat.zero_le _, Nat.zero_le _⟩ (fun u18 H locs h hP hD hS => ?_)
        obtain ⟨t17, rfl⟩ : ∃ z, z = u18 := ⟨_, rfl⟩
        have hP : va_P D vwCl (cT kc a t17 ++ cWl kc b w13) H := hP
        have hD : va_D A (cT kc a t17 ++ cWl kc b w13) := hD
        refine lv_iload_n hx hb dX1_tell_100 rfl (lv_at hl 2 rfl) ?_
        exact hret i8 (t17, w13) H locs ls _ h hP hD hS dX1_tell_101
  refine lv_icmp_ge (tgt := 72) hx hb dX1_tell_37 (by decide) (fun c19 => ?_) (fun c19 => ?_)
  · have h := br1 h c19
    exact hJ_72 ls h (lv_sub hl [0, 1, 2] rfl)
  · have h := br2 h c19
    refine lv_aload_n hx hb dX1_tell_40 rfl (lv_at hl 0 rfl) ?_
    refine va_get (D := D) (ci := 1) (v := .int (t10 0 2)) (C := RX1) (T := TX1) (N := 9) hx hb hts hi1 hown hK.1 hP 0 rfl rfl 2 (by decide) (hts (.fieldLink RX1 19 "LastPenny$Tape" "fault" "I") (by decide +kernel)) (fun _ h9 => h9) rfl dX1_tell_41 ?_
    refine lv_if_ne (tgt := 72) hx hb dX1_tell_44 (by decide) (fun c20 => ?_) (fun c20 => ?_)
    · have h := br2 h c20
      exact hJ_72 ls h (lv_sub hl [0, 1, 2] rfl)
    · have h := br1 h c20
      refine lv_aload_n hx hb dX1_tell_47 rfl (lv_at hl 0 rfl) ?_
      refine va_get (D := D) (ci := 1) (v := .int (t10 0 5)) (C := RX1) (T := TX1) (N := 9) hx hb hts hi1 hown hK.1 hP 0 rfl rfl 5 (by decide) (hts (.fieldLink RX1 38 "LastPenny$Tape" "token" "I") (by decide +kernel)) (fun _ h9 => h9) rfl dX1_tell_48 ?_
      refine lv_if_eq (tgt := 72) hx hb dX1_tell_51 (by decide) (fun c21 => ?_) (fun c21 => ?_)
      · have h := br1 h c21
        exact hJ_72 ls h (lv_sub hl [0, 1, 2] rfl)
      · have h := br2 h c21
        refine lv_aload_n hx hb dX1_tell_54 rfl (lv_at hl 0 rfl) ?_
        refine lv_aload_n hx hb dX1_tell_55 rfl (lv_at hl 1 rfl) ?_
        refine q_cVvS (As := [.ref (b 0)]) (rest := []) ⟨hx, hb, hml, hown, hts⟩ hK hX (c_X1_tellLine l D kc ad adV fm a b t10 w11 H.size _ h) (cwV 1 hts gX1_tell_X1_tellLine rfl rfl rfl (by decide +kernel) ⟨Nat.le_of_ble_eq_true rfl, Nat.le_of_ble_eq_true rfl⟩) (cut_same (fun u : S2 × S2 => cT kc a u.1 ++ cWl kc b u.2) (t10, w11)) hP hD hS hA 1 0 rfl rfl rfl hl.1 rfl (Nat.le_of_ble_eq_true rfl) dX1_tell_56 ⟨Nat.zero_le _, Nat.zero_le _⟩ (fun u24 H locs h hP hD hS => ?_)
        obtain ⟨t22, w23⟩ := u24
        have hP : va_P D vwCl (cT kc a t22 ++ cWl kc b w23) H := hP
        have hD : va_D A (cT kc a t22 ++ cWl kc b w23) := hD
        obtain ⟨x25, ex25⟩ : ∃ z : Int32, z = i8 + 1 := ⟨_, rfl⟩
        have h := nm_out h x25 ex25
        refine lv_iinc (v := x25) (lv' := [(2, .int x25), (0, .ref (a 0)), (1, .ref (b 0)), (3, .int i9)]) hx hb dX1_tell_59 hl (k := 2) rfl (by rw [ex25]; rfl) (by decide) rfl (fun ls hl => ?_)
        refine lv_aload_n hx hb dX1_tell_62 rfl (lv_at hl 1 rfl) ?_
        refine q_cVv (As := []) (rest := []) ⟨hx, hb, hml, hown, hts⟩ hK (c_X1_next l D kc a t22 H.size _ h) (cwV 0 hts gX1_tell_X1_next rfl rfl rfl (by decide +kernel) ⟨Nat.le_of_ble_eq_true rfl, Nat.le_of_ble_eq_true rfl⟩) (cut_TW_T D kc a b t22 w23) hP hD hS hA 1 0 rfl rfl rfl hl.1 rfl (Nat.le_of_ble_eq_true rfl) dX1_tell_63 ⟨Nat.zero_le _, Nat.zero_le _⟩ (fun u27 H locs h hP hD hS => ?_)
        obtain ⟨t26, rfl⟩ : ∃ z, z = u27 := ⟨_, rfl⟩
        have hP : va_P D vwCl (cT kc a t26 ++ cWl kc b w23) H := hP
        have hD : va_D A (cT kc a t26 ++ cWl kc b w23) := hD
        obtain ⟨x28, ex28⟩ : ∃ z : Int32, z = i9 + 1 := ⟨_, rfl⟩
        have h := nm_out h x28 ex28
        refine lv_iinc (v := x28) (lv' := [(3, .int x28), (2, .int x25), (0, .ref (a 0)), (1, .ref (b 0))]) hx hb dX1_tell_66 hl (k := 3) rfl (by rw [ex28]; rfl) (by decide) rfl (fun ls hl => ?_)
        refine lv_goto (tgt := 33) hx hb dX1_tell_69 (by decide) ?_
        exact h ls H locs (lv_sub hl [2, 3, 1, 0] rfl) hP hD hS

abbrev rm_X3_text : Room := { frames := 8, cells := 0, slots := 0, locals := 180 }
set_option maxHeartbeats 4000000 in
set_option maxRecDepth 100000 in
theorem c_X3_text (l : Launch) (D : va_G) (kc : Nat → ClassId) (ad adV : Nat → Nat) (fm : Value) (a : Nat → Nat → Nat) (o : S3) (sz : Nat) (K : Int32 → S3 → Prop) (h : w_X3_text o K) : MetIS l yX3_text wsX3_text rm_X3_text D kc ad adV fm (fun u : S3 => cLP kc a u) o [.ref (a 0 0)] sz (fun r u => K r u) := by
  refine q_eiS (code := cX3_text) (maxL := 3) (by decide) rfl (Nat.le_of_ble_eq_true rfl) ?_
  intro p e s m args below meth c Q A hx hb hml hts hown hK hX hA hret ls hl hP hD hS
  have hown : s.vm.findClass RX3 = some m.cls := hown
  have hl : lv_has ls 3 [(0, .ref (a 0 0))] := hl
  have hP : va_P D vwCl (cLP kc a o) s.heap := hP
  have hD : va_D A (cLP kc a o) := hD
  have hS : va_S A s.heap s.heap [] := hS
  obtain ⟨H, eH⟩ : ∃ z, z = s.heap := ⟨_, rfl⟩
  obtain ⟨locs, eL⟩ : ∃ z : List Loc, z = [] := ⟨_, rfl⟩
  have hP := q_heap hP eH
  have hS := q_heapS hS eH eL
  refine q_start eH eL ?_
  clear eH eL
  have hi1 : ∀ w ∈ u_ws RX1 TX1 9, w ∈ wsX3_text := by decide +kernel
  have hi3 : ∀ w ∈ u_ws RX3 TX3 10, w ∈ wsX3_text := by decide +kernel
  unfold w_X3_text at h
  refine lv_aload_n hx hb dX3_text_0 rfl (lv_at hl 0 rfl) ?_
  refine va_get (D := D) (ci := 3) (v := .ref (a 3 0)) (C := RX3) (T := TX3) (N := 10) hx hb hts hi3 hown hK.1 hP 0 rfl rfl 3 (by decide) (hts (.fieldLink RX3 26 "LastPenny" "aside" "LLastPenny$World;") (by decide +kernel)) (fun _ h9 => h9) rfl dX3_text_1 ?_
  refine q_cVv (As := []) (rest := []) ⟨hx, hb, hml, hown, hts⟩ hK (c_X2_clear l D kc (a 3) (o 3) H.size _ h) (cwV 0 hts gX3_text_X2_clear rfl rfl rfl (by decide +kernel) ⟨Nat.le_of_ble_eq_true rfl, Nat.le_of_ble_eq_true rfl⟩) (cut_LP_3 D kc a o) hP hD hS hA 2 0 rfl rfl rfl hl.1 rfl (Nat.le_of_ble_eq_true rfl) dX3_text_4 ⟨Nat.zero_le _, Nat.zero_le _⟩ (fun u2 H locs h hP hD hS => ?_)
  obtain ⟨w1, rfl⟩ : ∃ z, z = u2 := ⟨_, rfl⟩
  obtain ⟨o3, eo3⟩ : ∃ z, z = (va_up o 3 w1) := ⟨_, rfl⟩
  have h := nm_out h o3 eo3
  have hP : va_P D vwCl (cLP kc a o3) H := q_to hP (by subst eo3; rfl)
  have hD : va_D A (cLP kc a o3) := q_toD hD (by subst eo3; rfl)
  refine lv_aload_n hx hb dX3_text_7 rfl (lv_at hl 0 rfl) ?_
  refine va_get (D := D) (ci := 3) (v := .ref (a 6 0)) (C := RX3) (T := TX3) (N := 10) hx hb hts hi3 hown hK.1 hP 0 rfl rfl 0 (by decide) (hts (.fieldLink RX3 10 "LastPenny" "tape" "LLastPenny$Tape;") (by decide +kernel)) (fun _ h9 => h9) rfl dX3_text_8 ?_
  refine lv_aload_n hx hb dX3_text_11 rfl (lv_at hl 0 rfl) ?_
  refine va_get (D := D) (ci := 3) (v := .ref (a 3 0)) (C := RX3) (T := TX3) (N := 10) hx hb hts hi3 hown hK.1 hP 0 rfl rfl 3 (by decide) (hts (.fieldLink RX3 26 "LastPenny" "aside" "LLastPenny$World;") (by decide +kernel)) (fun _ h9 => h9) rfl dX3_text_12 ?_
  refine q_cViS (As := [.ref (a 3 0)]) (rest := []) ⟨hx, hb, hml, hown, hts⟩ hK hX (c_X1_tell l D kc ad adV fm (a 6) (a 3) (o3 6) (o3 3) H.size _ h) (cwV 1 hts gX3_text_X1_tell rfl rfl rfl (by decide +kernel) ⟨Nat.le_of_ble_eq_true rfl, Nat.le_of_ble_eq_true rfl⟩) (cut_LP_6_3 D kc a o3) hP hD hS hA 1 0 rfl rfl rfl hl.1 rfl (Nat.le_of_ble_eq_true rfl) dX3_text_15 ⟨Nat.zero_le _, Nat.zero_le _⟩ (fun r6 u7 H locs h hP hD hS => ?_)
  obtain ⟨t4, w5⟩ := u7
  obtain ⟨o8, eo8⟩ : ∃ z, z = (va_up (va_up o3 6 t4) 3 w5) := ⟨_, rfl⟩
  have h := nm_out h o8 eo8
  have hP : va_P D vwCl (cLP kc a o8) H := q_to hP (by subst eo8; rfl)
  have hD : va_D A (cLP kc a o8) := q_toD hD (by subst eo8; rfl)
  refine lv_istore_n (lv' := [(1, .int r6), (0, .ref (a 0 0))]) hx hb dX3_text_18 rfl hl (by decide) rfl (fun ls hl => ?_)
  refine lv_aload_n hx hb dX3_text_19 rfl (lv_at hl 1 rfl) ?_
  refine va_get (D := D) (ci := 3) (v := .ref (a 6 0)) (C := RX3) (T := TX3) (N := 10) hx hb hts hi3 hown hK.1 hP 0 rfl rfl 0 (by decide) (hts (.fieldLink RX3 10 "LastPenny" "tape" "LLastPenny$Tape;") (by decide +kernel)) (fun _ h9 => h9) rfl dX3_text_20 ?_
  refine lv_iconst (v := 0) hx hb dX3_text_23 (by decide) ?_
  refine va_put (D := D) (ci := 1) (v := .int 0) (ty := .int) (C := RX1) (T := TX1) (N := 9) hx hb hts hi1 tyX1 tyX1_ok nmX1 hown hK.1 hP hD hS 46 rfl rfl 1 (by decide) (hts (.fieldLink RX3 59 "LastPenny$Tape" "length" "I") (by decide +kernel)) (fun _ h9 => h9) rfl (by decide +kernel) rfl rfl (Nat.le_of_ble_eq_true rfl) dX3_text_24 (fun H locs hP hD hS => ?_)
  obtain ⟨o9, eo9⟩ : ∃ z, z = (va_up o8 6 (va_up (o8 6) 0 (upd ((o8 6) 0) 1 0))) := ⟨_, rfl⟩
  have h := nm_out h o9 eo9
  have hP : va_P D vwCl (cLP kc a o9) H := q_to hP (by subst eo9; rfl)
  have hD : va_D A (cLP kc a o9) := q_toD hD (by subst eo9; rfl)
  refine lv_aload_n hx hb dX3_text_27 rfl (lv_at hl 1 rfl) ?_
  refine va_get (D := D) (ci := 3) (v := .ref (a 6 0)) (C := RX3) (T := TX3) (N := 10) hx hb hts hi3 hown hK.1 hP 0 rfl rfl 0 (by decide) (hts (.fieldLink RX3 10 "LastPenny" "tape" "LLastPenny$Tape;") (by decide +kernel)) (fun _ h9 => h9) rfl dX3_text_28 ?_
  refine va_get (D := D) (ci := 1) (v := .int (o9 6 0 2)) (C := RX1) (T := TX1) (N := 9) hx hb hts hi1 hown hK.1 hP 46 rfl rfl 2 (by decide) (hts (.fieldLink RX3 70 "LastPenny$Tape" "fault" "I") (by decide +kernel)) (fun _ h9 => h9) rfl dX3_text_31 ?_
  refine lv_if_eq (tgt := 48) hx hb dX3_text_34 (by decide) (fun c10 => ?_) (fun c10 => ?_)
  · have h := br1 h c10
    refine lv_aload_n hx hb dX3_text_48 rfl (lv_at hl 1 rfl) ?_
    refine va_get (D := D) (ci := 3) (v := .ref (a 1 0)) (C := RX3) (T := TX3) (N := 10) hx hb hts hi3 hown hK.1 hP 0 rfl rfl 1 (by decide) (hts (.fieldLink RX3 19 "LastPenny" "now" "LLastPenny$World;") (by decide +kernel)) (fun _ h9 => h9) rfl dX3_text_49 ?_
    refine lv_aload_n hx hb dX3_text_52 rfl (lv_at hl 1 rfl) ?_
    refine va_get (D := D) (ci := 3) (v := .ref (a 3 0)) (C := RX3) (T := TX3) (N := 10) hx hb hts hi3 hown hK.1 hP 0 rfl rfl 3 (by decide) (hts (.fieldLink RX3 26 "LastPenny" "aside" "LLastPenny$World;") (by decide +kernel)) (fun _ h9 => h9) rfl dX3_text_53 ?_
    refine q_cVv (As := [.ref (a 3 0)]) (rest := []) ⟨hx, hb, hml, hown, hts⟩ hK (c_X2_become l D kc (a 1) (a 3) (o9 1) (o9 3) H.size _ h) (cwV 1 hts gX3_text_X2_become rfl rfl rfl (by decide +kernel) ⟨Nat.le_of_ble_eq_true rfl, Nat.le_of_ble_eq_true rfl⟩) (cut_LP_1_3 D kc a o9) hP hD hS hA 2 0 rfl rfl rfl hl.1 rfl (Nat.le_of_ble_eq_true rfl) dX3_text_56 ⟨Nat.zero_le _, Nat.zero_le _⟩ (fun u13 H locs h hP hD hS => ?_)
    obtain ⟨w11, v12⟩ := u13
    obtain ⟨o14, eo14⟩ : ∃ z, z = (va_up (va_up o9 1 w11) 3 v12) := ⟨_, rfl⟩
    have h := nm_out h o14 eo14
    have hP : va_P D vwCl (cLP kc a o14) H := q_to hP (by subst eo14; rfl)
    have hD : va_D A (cLP kc a o14) := q_toD hD (by subst eo14; rfl)
    refine lv_iconst (v := 0) hx hb dX3_text_59 (by decide) ?_
    refine lv_istore_n (lv' := [(2, .int 0), (1, .int r6), (0, .ref (a 0 0))]) hx hb dX3_text_60 rfl hl (by decide) rfl (fun ls hl => ?_)
    refine h (fun (i15 : Int32) (o16 : S3) => ∀ (ls : Array Slot) (H : Heap) (locs : List Loc), lv_has ls 3 [(0, .ref (a 0 0)), (1, .int r6), (2, .int i15)] → va_P D vwCl (cLP kc a o16) H → va_D A (cLP kc a o16) → va_S A s.heap H locs → W p l e rm_X3_text s m args below meth c H locs 0 0 Q (F0 m 61 ls [])) ?_ ls H locs (lv_sub hl [2, 1, 0] rfl) hP hD hS
    intro i15 o16 h ls H locs hl hP hD hS
    refine lv_iload_n hx hb dX3_text_61 rfl (lv_at hl 2 rfl) ?_
    refine lv_iconst (v := 2) hx hb dX3_text_62 (by decide) ?_
    refine lv_icmp_ge (tgt := 79) hx hb dX3_text_63 (by decide) (fun c17 => ?_) (fun c17 => ?_)
    · have h := br1 h c17
      refine lv_iload_n hx hb dX3_text_79 rfl (lv_at hl 1 rfl) ?_
      exact hret r6 o16 H locs ls _ h hP hD hS dX3_text_80
    · have h := br2 h c17
      refine lv_aload_n hx hb dX3_text_66 rfl (lv_at hl 0 rfl) ?_
      refine va_get (D := D) (ci := 3) (v := .ref (a 0 2)) (C := RX3) (T := TX3) (N := 10) hx hb hts hi3 hown hK.1 hP 0 rfl rfl 5 (by decide) (hts (.fieldLink RX3 33 "LastPenny" "imageThere" "[Z") (by decide +kernel)) (fun _ h9 => h9) rfl dX3_text_67 ?_
      refine lv_iload_n hx hb dX3_text_70 rfl (lv_at hl 2 rfl) ?_
      refine lv_iconst (v := 0) hx hb dX3_text_71 (by decide) ?_
      obtain ⟨hi_18, h⟩ := h
      refine va_zast hx hb hK.1 hP hD hS 2 2 rfl rfl hi_18 dX3_text_72 (fun H locs hP hD hS => ?_)
      obtain ⟨o19, eo19⟩ : ∃ z, z = (va_up o16 0 (va_up (o16 0) 2 (upd ((o16 0) 2) i15.toNatClampNeg (vp_nar .boolean 0)))) := ⟨_, rfl⟩
      have h := nm_out h o19 eo19
      have hP : va_P D vwCl (cLP kc a o19) H := q_to hP (by subst eo19; rfl)
      have hD : va_D A (cLP kc a o19) := q_toD hD (by subst eo19; rfl)
      obtain ⟨x20, ex20⟩ : ∃ z : Int32, z = i15 + 1 := ⟨_, rfl⟩
      have h := nm_out h x20 ex20
      refine lv_iinc (v := x20) (lv' := [(2, .int x20), (0, .ref (a 0 0)), (1, .int r6)]) hx hb dX3_text_73 hl (k := 2) rfl (by rw [ex20]; rfl) (by decide) rfl (fun ls hl => ?_)
      refine lv_goto (tgt := 61) hx hb dX3_text_76 (by decide) ?_
      exact h ls H locs (lv_sub hl [1, 2, 0] rfl) hP hD hS
  · have h := br2 h c10
    refine lv_bipush (v := -10) hx hb dX3_text_37 (by decide) ?_
    refine lv_aload_n hx hb dX3_text_39 rfl (lv_at hl 1 rfl) ?_
    refine va_get (D := D) (ci := 3) (v := .ref (a 6 0)) (C := RX3) (T := TX3) (N := 10) hx hb hts hi3 hown hK.1 hP 0 rfl rfl 0 (by decide) (hts (.fieldLink RX3 10 "LastPenny" "tape" "LLastPenny$Tape;") (by decide +kernel)) (fun _ h9 => h9) rfl dX3_text_40 ?_
    refine va_get (D := D) (ci := 1) (v := .int (o9 6 0 3)) (C := RX1) (T := TX1) (N := 9) hx hb hts hi1 hown hK.1 hP 46 rfl rfl 3 (by decide) (hts (.fieldLink RX3 73 "LastPenny$Tape" "faultPlace" "I") (by decide +kernel)) (fun _ h9 => h9) rfl dX3_text_43 ?_
    refine lv_isub hx hb dX3_text_46 ?_
    exact hret ((-10) - (o9 6 0 3)) o9 H locs ls _ h hP hD hS dX3_text_47

