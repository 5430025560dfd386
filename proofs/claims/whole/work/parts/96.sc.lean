set_option maxHeartbeats 4000000 in
theorem c_X1_nameOf (l : Launch) (D : va_G) (kc : Nat → ClassId) (ad adV : Nat → Nat) (fm : Value) (k : Nat) (hk : k < 7) (sz : Nat) : MetRS l yX1_nameOf wsX1_nameOf rm_s0 D kc ad adV fm [.int (nI k)] sz (ad k) := by
  refine q_erS (code := cX1_nameOf) (maxL := 1) (by decide) rfl (Nat.le_of_ble_eq_true rfl) ?_
  intro p e s m args below meth c Q A hx hb hml hts hown hX hret ls hl hS
  have hown : s.vm.findClass RX1 = some m.cls := hown
  have hl : lv_has ls 1 [(0, .int (nI k))] := hl
  refine lv_iload_n hx hb dX1_nameOf_0 rfl (lv_at hl 0 rfl) ?_
  have R := hX.2.2.2.1 k hk
  rcases (show k = 0 ∨ k = 1 ∨ k = 2 ∨ k = 3 ∨ k = 4 ∨ k = 5 ∨ k = 6 by omega) with rfl | rfl | rfl | rfl | rfl | rfl | rfl
  · refine lv_tableIn (tgt := 40) hx hb dX1_nameOf_1 (by decide) (by decide) rfl (by decide) ?_
    exact va_ldcS hx hb hown R dX1_nameOf_40 (hret _ _ ls _ hS dX1_nameOf_42)
  · refine lv_tableIn (tgt := 43) hx hb dX1_nameOf_1 (by decide) (by decide) rfl (by decide) ?_
    exact va_ldcS hx hb hown R dX1_nameOf_43 (hret _ _ ls _ hS dX1_nameOf_45)
  · refine lv_tableIn (tgt := 46) hx hb dX1_nameOf_1 (by decide) (by decide) rfl (by decide) ?_
    exact va_ldcS hx hb hown R dX1_nameOf_46 (hret _ _ ls _ hS dX1_nameOf_48)
  · refine lv_tableIn (tgt := 49) hx hb dX1_nameOf_1 (by decide) (by decide) rfl (by decide) ?_
    exact va_ldcS hx hb hown R dX1_nameOf_49 (hret _ _ ls _ hS dX1_nameOf_51)
  · refine lv_tableIn (tgt := 52) hx hb dX1_nameOf_1 (by decide) (by decide) rfl (by decide) ?_
    exact va_ldcS hx hb hown R dX1_nameOf_52 (hret _ _ ls _ hS dX1_nameOf_54)
  · refine lv_tableIn (tgt := 55) hx hb dX1_nameOf_1 (by decide) (by decide) rfl (by decide) ?_
    exact va_ldcS hx hb hown R dX1_nameOf_55 (hret _ _ ls _ hS dX1_nameOf_57)
  · refine lv_tableOut (tgt := 58) hx hb dX1_nameOf_1 (by decide) (by decide) ?_
    exact va_ldcS hx hb hown R dX1_nameOf_58 (hret _ _ ls _ hS dX1_nameOf_60)
set_option maxHeartbeats 4000000 in
theorem c_X1_isNamed (l : Launch) (D : va_G) (kc : Nat → ClassId) (ad adV : Nat → Nat) (fm : Value) (a : Nat → Nat) (t : S2) (k : Nat) (hk : k < 7) (st en : Nat) (he : st ≤ en) (h160 : en ≤ 160) (t6 : t 0 6 = nI st) (t4 : t 0 4 = nI en) (sz : Nat) (K : Int32 → S2 → Prop) (k1 : mtT (t 1) st en k → K 1 t) (k0 : ¬ mtT (t 1) st en k → K 0 t) : MetIS l yX1_isNamed wsX1_isNamed rm_s4 D kc ad adV fm (fun u : S2 => cT kc a u) t [.ref (a 0), .ref (ad k)] sz (fun r u => K r u) := by
  obtain ⟨tl1, tl2⟩ := tl_n k hk
  refine q_enS (code := cX1_isNamed) (maxL := 3) (ty := .boolean) (by decide) rfl (Nat.le_of_ble_eq_true rfl) ?_
  intro p e s m args below meth c Q A hx hb hml hts hown hK hX hA hret ls hl hP hD hS
  have hown : s.vm.findClass RX1 = some m.cls := hown
  have hl : lv_has ls 3 [(0, .ref (a 0)), (1, .ref (ad k))] := hl
  have hP : va_P D vwCl (cT kc a t) s.heap := hP
  have hD : va_D A (cT kc a t) := hD
  have hS : va_S A s.heap s.heap [] := hS
  obtain ⟨H, eH⟩ : ∃ z, z = s.heap := ⟨_, rfl⟩
  obtain ⟨locs, eL⟩ : ∃ z : List Loc, z = [] := ⟨_, rfl⟩
  have hP := q_heap hP eH
  have hS := q_heapS hS eH eL
  refine q_start eH eL ?_
  clear eH eL
  have hi1 : ∀ w ∈ u_ws RX1 TX1 9, w ∈ wsX1_isNamed := by decide +kernel
  refine lv_aload_n hx hb dX1_isNamed_0 rfl (lv_at hl 0 rfl) ?_
  refine va_get (D := D) (ci := 1) (v := .int (t 0 4)) (C := RX1) (T := TX1) (N := 9) hx hb hts hi1 hown hK.1 hP 0 rfl rfl 4 (by decide) (hts (.fieldLink RX1 25 "LastPenny$Tape" "at" "I") (by decide +kernel)) (fun _ h9 => h9) rfl dX1_isNamed_1 ?_
  refine lv_aload_n hx hb dX1_isNamed_4 rfl (lv_at hl 0 rfl) ?_
  refine va_get (D := D) (ci := 1) (v := .int (t 0 6)) (C := RX1) (T := TX1) (N := 9) hx hb hts hi1 hown hK.1 hP 0 rfl rfl 6 (by decide) (hts (.fieldLink RX1 59 "LastPenny$Tape" "start" "I") (by decide +kernel)) (fun _ h9 => h9) rfl dX1_isNamed_5 ?_
  refine lv_isub hx hb dX1_isNamed_8 ?_
  refine lv_aload_n hx hb dX1_isNamed_9 rfl (lv_at hl 1 rfl) ?_
  refine q_cTi (As := []) (rest := [.int (t 0 4 - t 0 6)]) ⟨hx, hb, hml, hown, hts⟩ hK hX hk (c_J0_length l D kc ad adV fm k hk H.size) (cwV 0 hts gX1_isNamed_J0_length_8abf5 rfl rfl rfl (by decide +kernel) ⟨Nat.le_of_ble_eq_true rfl, Nat.le_of_ble_eq_true rfl⟩) (cut_nil _) hP hD hS hA rfl hl.1 rfl (Nat.le_of_ble_eq_true rfl) dX1_isNamed_10 ⟨Nat.zero_le _, Nat.zero_le _⟩ (fun r4 _ H locs h hP hD hS => ?_)
  subst h
  refine lv_icmp_eq (tgt := 18) hx hb dX1_isNamed_13 (by decide) (fun c4 => ?_) (fun c4 => ?_)
  · rw [t4, t6, pk_sub he, nI_eq (by omega) (by omega)] at c4
    refine lv_iconst (v := 0) hx hb dX1_isNamed_18 (by decide) ?_
    refine lv_istore_n (lv' := [(2, .int (nI 0)), (0, .ref (a 0)), (1, .ref (ad k))]) hx hb dX1_isNamed_19 rfl hl (by decide) rfl (fun ls hl => ?_)
    have main : ∀ d i, i + d = tLen.getD k 0 → (∀ i', i' < i → t 1 (st + i') = tb k i') → ∀ (ls : Array Slot) (H : Heap) (locs : List Loc), lv_has ls 3 [(2, .int (nI i)), (0, .ref (a 0)), (1, .ref (ad k))] → va_P D vwCl (cT kc a t) H → va_D A (cT kc a t) → va_S A s.heap H locs → W p l e rm_s4 s m args below meth c H locs 0 0 Q (F0 m 20 ls []) := by
      intro d
      induction d with
      | zero =>
        intro i hi hall ls H locs hl hP hD hS
        refine lv_iload_n hx hb dX1_isNamed_20 rfl (lv_at hl 0 rfl) ?_
        refine lv_aload_n hx hb dX1_isNamed_21 rfl (lv_at hl 2 rfl) ?_
        refine q_cTi (As := []) (rest := [.int (nI i)]) ⟨hx, hb, hml, hown, hts⟩ hK hX hk (c_J0_length l D kc ad adV fm k hk H.size) (cwV 0 hts gX1_isNamed_J0_length_8abf5 rfl rfl rfl (by decide +kernel) ⟨Nat.le_of_ble_eq_true rfl, Nat.le_of_ble_eq_true rfl⟩) (cut_nil _) hP hD hS hA rfl hl.1 rfl (Nat.le_of_ble_eq_true rfl) dX1_isNamed_22 ⟨Nat.zero_le _, Nat.zero_le _⟩ (fun r4 _ H locs h hP hD hS => ?_)
        subst h
        refine lv_icmp_ge (tgt := 55) hx hb dX1_isNamed_25 (by decide) (fun c5 => ?_) (fun c5 => absurd (nI_le (by omega) (by omega)) c5)
        refine lv_iconst (v := 1) hx hb dX1_isNamed_55 (by decide) ?_
        refine hret 1 t H locs ls _ rfl (k1 ⟨by omega, fun i' hi' => ?_⟩) hP hD hS dX1_isNamed_56
        rw [hall i' (by omega), tb_n k hk i' (by omega)]
      | succ d ih =>
        intro i hi hall ls H locs hl hP hD hS
        refine lv_iload_n hx hb dX1_isNamed_20 rfl (lv_at hl 0 rfl) ?_
        refine lv_aload_n hx hb dX1_isNamed_21 rfl (lv_at hl 2 rfl) ?_
        refine q_cTi (As := []) (rest := [.int (nI i)]) ⟨hx, hb, hml, hown, hts⟩ hK hX hk (c_J0_length l D kc ad adV fm k hk H.size) (cwV 0 hts gX1_isNamed_J0_length_8abf5 rfl rfl rfl (by decide +kernel) ⟨Nat.le_of_ble_eq_true rfl, Nat.le_of_ble_eq_true rfl⟩) (cut_nil _) hP hD hS hA rfl hl.1 rfl (Nat.le_of_ble_eq_true rfl) dX1_isNamed_22 ⟨Nat.zero_le _, Nat.zero_le _⟩ (fun r4 _ H locs h hP hD hS => ?_)
        subst h
        refine lv_icmp_ge (tgt := 55) hx hb dX1_isNamed_25 (by decide) (fun c5 => absurd c5 (nI_ge (by omega) (by omega))) (fun c5 => ?_)
        refine lv_aload_n hx hb dX1_isNamed_28 rfl (lv_at hl 1 rfl) ?_
        refine va_get (D := D) (ci := 1) (v := .ref (a 1)) (C := RX1) (T := TX1) (N := 9) hx hb hts hi1 hown hK.1 hP 0 rfl rfl 0 (by decide) (hts (.fieldLink RX1 9 "LastPenny$Tape" "bytes" "[B") (by decide +kernel)) (fun _ h9 => h9) rfl dX1_isNamed_29 ?_
        refine lv_aload_n hx hb dX1_isNamed_32 rfl (lv_at hl 1 rfl) ?_
        refine va_get (D := D) (ci := 1) (v := .int (t 0 6)) (C := RX1) (T := TX1) (N := 9) hx hb hts hi1 hown hK.1 hP 0 rfl rfl 6 (by decide) (hts (.fieldLink RX1 59 "LastPenny$Tape" "start" "I") (by decide +kernel)) (fun _ h9 => h9) rfl dX1_isNamed_33 ?_
        refine lv_iload_n hx hb dX1_isNamed_36 rfl (lv_at hl 0 rfl) ?_
        refine lv_iadd hx hb dX1_isNamed_37 ?_
        refine lv_topi (fun x6 ex6 => ?_)
        have ex6 : x6 = nI (st + i) := by rw [ex6, t6, z_add]
        subst ex6
        refine va_bald hx hb hK.1 hP 1 1 rfl rfl (z_in (by omega) (by omega)) dX1_isNamed_38 ?_
        refine lv_topi (fun x7 ex7 => ?_)
        have ex7 : x7 = t 1 (st + i) := by rw [ex7, z_cl (by omega)]
        refine lv_aload_n hx hb dX1_isNamed_39 rfl (lv_at hl 2 rfl) ?_
        refine lv_iload_n hx hb dX1_isNamed_40 rfl (lv_at hl 0 rfl) ?_
        refine q_cTi (As := [.int (nI i)]) (rest := [.int x7]) ⟨hx, hb, hml, hown, hts⟩ hK hX hk (c_J0_charAt l D kc ad adV fm k i hk (by omega) H.size) (cwV 1 hts gX1_isNamed_J0_charAt_5068e rfl rfl rfl (by decide +kernel) ⟨Nat.le_of_ble_eq_true rfl, Nat.le_of_ble_eq_true rfl⟩) (cut_nil _) hP hD hS hA rfl hl.1 rfl (Nat.le_of_ble_eq_true rfl) dX1_isNamed_41 ⟨Nat.zero_le _, Nat.zero_le _⟩ (fun r4 _ H locs h hP hD hS => ?_)
        subst h
        refine lv_icmp_eq (tgt := 49) hx hb dX1_isNamed_44 (by decide) (fun c6 => ?_) (fun c6 => ?_)
        · refine lv_iinc (v := nI (i + 1)) (lv' := [(2, .int (nI (i + 1))), (0, .ref (a 0)), (1, .ref (ad k))]) hx hb dX1_isNamed_49 hl (k := 0) rfl (by rw [← nI_1]; rfl) (by decide) rfl (fun ls hl => ?_)
          refine lv_goto (tgt := 20) hx hb dX1_isNamed_52 (by decide) ?_
          refine ih (i + 1) (by omega) (fun i' hi' => ?_) ls H locs hl hP hD hS
          by_cases q : i' = i
          · subst q; rw [← ex7]; exact c6
          · exact hall i' (by omega)
        · refine lv_iconst (v := 0) hx hb dX1_isNamed_47 (by decide) ?_
          refine hret 0 t H locs ls _ rfl (k0 (fun z => c6 ?_)) hP hD hS dX1_isNamed_48
          rw [ex7, z.2 i (by omega), tb_n k hk i (by omega)]
    exact main (tLen.getD k 0) 0 (by omega) (fun i' hi' => absurd hi' (by omega)) ls H locs hl hP hD hS
  · rw [t4, t6, pk_sub he, nI_eq (by omega) (by omega)] at c4
    refine lv_iconst (v := 0) hx hb dX1_isNamed_16 (by decide) ?_
    exact hret 0 t H locs ls _ rfl (k0 (fun z => c4 (by have := z.1; omega))) hP hD hS dX1_isNamed_17
set_option maxHeartbeats 4000000 in
theorem c_X1_lineNamed (l : Launch) (D : va_G) (kc : Nat → ClassId) (ad adV : Nat → Nat) (fm : Value) (a : Nat → Nat) (t : S2) (sz : Nat) (K : Int32 → S2 → Prop) (h : w_X1_lineNamed t K) : MetIS l yX1_lineNamed wsX1_lineNamed rm_s5 D kc ad adV fm (fun u : S2 => cT kc a u) t [.ref (a 0)] sz (fun r u => K r u) := by
  obtain ⟨st, en, he, h160, t6, t4, kk⟩ := h
  refine q_eiS (code := cX1_lineNamed) (maxL := 2) (by decide) rfl (Nat.le_of_ble_eq_true rfl) ?_
  intro p e s m args below meth c Q A hx hb hml hts hown hK hX hA hret ls hl hP hD hS
  have hown : s.vm.findClass RX1 = some m.cls := hown
  have hl : lv_has ls 2 [(0, .ref (a 0))] := hl
  have hP : va_P D vwCl (cT kc a t) s.heap := hP
  have hD : va_D A (cT kc a t) := hD
  have hS : va_S A s.heap s.heap [] := hS
  obtain ⟨H, eH⟩ : ∃ z, z = s.heap := ⟨_, rfl⟩
  obtain ⟨locs, eL⟩ : ∃ z : List Loc, z = [] := ⟨_, rfl⟩
  have hP := q_heap hP eH
  have hS := q_heapS hS eH eL
  refine q_start eH eL ?_
  clear eH eL
  refine lv_iconst (v := 0) hx hb dX1_lineNamed_0 (by decide) ?_
  refine lv_istore_n (lv' := [(1, .int (nI 0)), (0, .ref (a 0))]) hx hb dX1_lineNamed_1 rfl hl (by decide) rfl (fun ls hl => ?_)
  have main : ∀ d i, i + d = 7 → (∀ j, j < i → ¬ mtT (t 1) st en j) → ∀ (ls : Array Slot) (H : Heap) (locs : List Loc), lv_has ls 2 [(1, .int (nI i)), (0, .ref (a 0))] → va_P D vwCl (cT kc a t) H → va_D A (cT kc a t) → va_S A s.heap H locs → W p l e rm_s5 s m args below meth c H locs 0 0 Q (F0 m 2 ls []) := by
    intro d
    induction d with
    | zero =>
      intro i hi hall ls H locs hl hP hD hS
      refine lv_iload_n hx hb dX1_lineNamed_2 rfl (lv_at hl 0 rfl) ?_
      refine lv_bipush (v := nI 7) hx hb dX1_lineNamed_3 (by decide) ?_
      refine lv_icmp_ge (tgt := 27) hx hb dX1_lineNamed_5 (by decide) (fun c5 => ?_) (fun c5 => absurd (nI_le (by omega) (by omega)) c5)
      refine lv_bipush (v := nI 7) hx hb dX1_lineNamed_27 (by decide) ?_
      exact hret (nI 7) t H locs ls _ (kk 7 ⟨Or.inr rfl, fun j hj => hall j (by omega)⟩) hP hD hS dX1_lineNamed_29
    | succ d ih =>
      intro i hi hall ls H locs hl hP hD hS
      refine lv_iload_n hx hb dX1_lineNamed_2 rfl (lv_at hl 0 rfl) ?_
      refine lv_bipush (v := nI 7) hx hb dX1_lineNamed_3 (by decide) ?_
      refine lv_icmp_ge (tgt := 27) hx hb dX1_lineNamed_5 (by decide) (fun c5 => absurd c5 (nI_ge (by omega) (by omega))) (fun c5 => ?_)
      refine lv_aload_n hx hb dX1_lineNamed_8 rfl (lv_at hl 1 rfl) ?_
      refine lv_iload_n hx hb dX1_lineNamed_9 rfl (lv_at hl 0 rfl) ?_
      refine q_cSrS (As := [.int (nI i)]) (rest := [.ref (a 0)]) ⟨hx, hb, hml, hown, hts⟩ hK hX (c_X1_nameOf l D kc ad adV fm i (by omega) H.size) (va_cwS 1 hts gX1_lineNamed_X1_nameOf rfl rfl rfl (by decide +kernel) ⟨Nat.le_of_ble_eq_true rfl, Nat.le_of_ble_eq_true rfl⟩) hP hD hS hA rfl hl.1 rfl (Nat.le_of_ble_eq_true rfl) dX1_lineNamed_10 ⟨Nat.zero_le _, Nat.zero_le _⟩ (fun H locs hP hD hS => ?_)
      refine q_cViS (As := [.ref (ad i)]) (rest := []) ⟨hx, hb, hml, hown, hts⟩ hK hX (c_X1_isNamed l D kc ad adV fm a t i (by omega) st en he h160 t6 t4 H.size (fun r u => u = t ∧ ((r = 1 ∧ mtT (t 1) st en i) ∨ (r = 0 ∧ ¬ mtT (t 1) st en i))) (fun z => ⟨rfl, Or.inl ⟨rfl, z⟩⟩) (fun z => ⟨rfl, Or.inr ⟨rfl, z⟩⟩)) (cwV 1 hts gX1_lineNamed_X1_isNamed rfl rfl rfl (by decide +kernel) ⟨Nat.le_of_ble_eq_true rfl, Nat.le_of_ble_eq_true rfl⟩) (cut_same (fun u : S2 => cT kc a u) t) hP hD hS hA 1 0 rfl rfl rfl hl.1 rfl (Nat.le_of_ble_eq_true rfl) dX1_lineNamed_13 ⟨Nat.zero_le _, Nat.zero_le _⟩ (fun r u H locs h hP hD hS => ?_)
      obtain ⟨hu, h⟩ := h
      have hu : t = u := hu.symm
      subst hu
      refine lv_if_eq (tgt := 21) hx hb dX1_lineNamed_16 (by decide) (fun c6 => ?_) (fun c6 => ?_)
      · rcases h with ⟨z, -⟩ | ⟨-, z⟩
        · rw [z] at c6; exact absurd c6 (by decide)
        · refine lv_iinc (v := nI (i + 1)) (lv' := [(1, .int (nI (i + 1))), (0, .ref (a 0))]) hx hb dX1_lineNamed_21 hl (k := 0) rfl (by rw [← nI_1]; rfl) (by decide) rfl (fun ls hl => ?_)
          refine lv_goto (tgt := 2) hx hb dX1_lineNamed_24 (by decide) ?_
          refine ih (i + 1) (by omega) (fun j hj => ?_) ls H locs hl hP hD hS
          by_cases q : j = i
          · subst q; exact z
          · exact hall j (by omega)
      · rcases h with ⟨-, z⟩ | ⟨z, -⟩
        · refine lv_iload_n hx hb dX1_lineNamed_19 rfl (lv_at hl 0 rfl) ?_
          exact hret (nI i) t H locs ls _ (kk i ⟨Or.inl ⟨by omega, z⟩, hall⟩) hP hD hS dX1_lineNamed_20
        · exact absurd z c6
  exact main 7 0 (by omega) (fun j hj => absurd hj (by omega)) ls H locs hl hP hD hS
