def w_X3_round (o : S3) (K : Int32 → S3 → Prop) : Prop := br ((o 1 0 0) = 0) (K (-4) o) (w_X2_become (o 2) (o 1) (fun w2 v3 => nm ((va_up (va_up o 2 w2) 1 v3) : S3) (fun o5 => nm (((1 <<< ((o5 1 0 0) &&& 31)) - 1) : Int32) (fun x6 => nm ((1 <<< ((o5 2 0 3) &&& 31)) : Int32) (fun x7 => lfp3 (fun G48 (i8 : Int32) (i9 : Int32) (o10 : S3) => br (60 < i9) (K (-4) o10) (w_X2_step (o10 2) (fun r13 w12 => nm ((va_up o10 2 w12) : S3) (fun o15 => nm ((i8 ||| (1 <<< ((o15 2 0 3) &&& 31))) : Int32) (fun x16 => br (x16 = x6) (K i9 o15) (nm (i9 + 1 : Int32) (fun x18 => G48 x16 x18 o15))))))) x7 1 o5)))))
abbrev rm_X3_round : Room := { frames := 3, cells := 0, slots := 0, locals := 107 }
set_option maxHeartbeats 4000000 in
set_option maxRecDepth 100000 in
theorem c_X3_round (l : Launch) (D : va_G) (kc : Nat → ClassId) (a : Nat → Nat → Nat) (o : S3) (sz : Nat) (K : Int32 → S3 → Prop) (h : w_X3_round o K) : MetI l yX3_round wsX3_round rm_X3_round D kc (fun u : S3 => cLP kc a u) o [.ref (a 0 0)] sz (fun r u => K r u) := by
  refine q_ei (code := cX3_round) (maxL := 4) (by decide) rfl (Nat.le_of_ble_eq_true rfl) ?_
  intro p e s m args below meth c Q A hx hb hml hts hown hK hA hret ls hl hP hD hS
  have hown : s.vm.findClass RX3 = some m.cls := hown
  have hl : lv_has ls 4 [(0, .ref (a 0 0))] := hl
  have hP : va_P D vwCl (cLP kc a o) s.heap := hP
  have hD : va_D A (cLP kc a o) := hD
  have hS : va_S A s.heap s.heap [] := hS
  obtain ⟨H, eH⟩ : ∃ z, z = s.heap := ⟨_, rfl⟩
  obtain ⟨locs, eL⟩ : ∃ z : List Loc, z = [] := ⟨_, rfl⟩
  have hP := q_heap hP eH
  have hS := q_heapS hS eH eL
  refine q_start eH eL ?_
  clear eH eL
  have hi2 : ∀ w ∈ u_ws RX2 TX2 13, w ∈ wsX3_round := by decide +kernel
  have hi3 : ∀ w ∈ u_ws RX3 TX3 10, w ∈ wsX3_round := by decide +kernel
  unfold w_X3_round at h
  refine lv_aload_n hx hb dX3_round_0 rfl (lv_at hl 0 rfl) ?_
  refine va_get (D := D) (ci := 3) (v := .ref (a 1 0)) (C := RX3) (T := TX3) (N := 10) hx hb hts hi3 hown hK.1 hP 0 rfl rfl 1 (by decide) (hts (.fieldLink RX3 19 "LastPenny" "now" "LLastPenny$World;") (by decide +kernel)) (fun _ h9 => h9) rfl dX3_round_1 ?_
  refine va_get (D := D) (ci := 2) (v := .int (o 1 0 0)) (C := RX2) (T := TX2) (N := 13) hx hb hts hi2 hown hK.1 hP 6 rfl rfl 0 (by decide) (hts (.fieldLink RX3 80 "LastPenny$World" "people" "I") (by decide +kernel)) (fun _ h9 => h9) rfl dX3_round_4 ?_
  refine lv_if_ne (tgt := 13) hx hb dX3_round_7 (by decide) (fun c1 => ?_) (fun c1 => ?_)
  · have h := br2 h c1
    refine lv_aload_n hx hb dX3_round_13 rfl (lv_at hl 0 rfl) ?_
    refine va_get (D := D) (ci := 3) (v := .ref (a 2 0)) (C := RX3) (T := TX3) (N := 10) hx hb hts hi3 hown hK.1 hP 0 rfl rfl 2 (by decide) (hts (.fieldLink RX3 23 "LastPenny" "trial" "LLastPenny$World;") (by decide +kernel)) (fun _ h9 => h9) rfl dX3_round_14 ?_
    refine lv_aload_n hx hb dX3_round_17 rfl (lv_at hl 0 rfl) ?_
    refine va_get (D := D) (ci := 3) (v := .ref (a 1 0)) (C := RX3) (T := TX3) (N := 10) hx hb hts hi3 hown hK.1 hP 0 rfl rfl 1 (by decide) (hts (.fieldLink RX3 19 "LastPenny" "now" "LLastPenny$World;") (by decide +kernel)) (fun _ h9 => h9) rfl dX3_round_18 ?_
    refine q_cVv (As := [.ref (a 1 0)]) (rest := []) ⟨hx, hb, hml, hown, hts⟩ hK (c_X2_become l D kc (a 2) (a 1) (o 2) (o 1) H.size _ h) (cwV 1 hts gX3_round_X2_become rfl rfl rfl (by decide +kernel) ⟨Nat.le_of_ble_eq_true rfl, Nat.le_of_ble_eq_true rfl⟩) (cut_LP_2_1 D kc a o) hP hD hS hA 2 0 rfl rfl rfl hl.1 rfl (Nat.le_of_ble_eq_true rfl) dX3_round_21 ⟨Nat.zero_le _, Nat.zero_le _⟩ (fun u4 H locs h hP hD hS => ?_)
    obtain ⟨w2, v3⟩ := u4
    obtain ⟨o5, eo5⟩ : ∃ z, z = (va_up (va_up o 2 w2) 1 v3) := ⟨_, rfl⟩
    have h := nm_out h o5 eo5
    have hP : va_P D vwCl (cLP kc a o5) H := q_to hP (by subst eo5; rfl)
    have hD : va_D A (cLP kc a o5) := q_toD hD (by subst eo5; rfl)
    refine lv_iconst (v := 1) hx hb dX3_round_24 (by decide) ?_
    refine lv_aload_n hx hb dX3_round_25 rfl (lv_at hl 0 rfl) ?_
    refine va_get (D := D) (ci := 3) (v := .ref (a 1 0)) (C := RX3) (T := TX3) (N := 10) hx hb hts hi3 hown hK.1 hP 0 rfl rfl 1 (by decide) (hts (.fieldLink RX3 19 "LastPenny" "now" "LLastPenny$World;") (by decide +kernel)) (fun _ h9 => h9) rfl dX3_round_26 ?_
    refine va_get (D := D) (ci := 2) (v := .int (o5 1 0 0)) (C := RX2) (T := TX2) (N := 13) hx hb hts hi2 hown hK.1 hP 6 rfl rfl 0 (by decide) (hts (.fieldLink RX3 80 "LastPenny$World" "people" "I") (by decide +kernel)) (fun _ h9 => h9) rfl dX3_round_29 ?_
    refine lv_ishl hx hb dX3_round_32 ?_
    refine lv_iconst (v := 1) hx hb dX3_round_33 (by decide) ?_
    refine lv_isub hx hb dX3_round_34 ?_
    refine lv_topi (fun x6 ex6 => ?_)
    have h := nm_out h x6 ex6
    refine lv_istore_n (lv' := [(1, .int x6), (0, .ref (a 0 0))]) hx hb dX3_round_35 rfl hl (by decide) rfl (fun ls hl => ?_)
    refine lv_iconst (v := 1) hx hb dX3_round_36 (by decide) ?_
    refine lv_aload_n hx hb dX3_round_37 rfl (lv_at hl 1 rfl) ?_
    refine va_get (D := D) (ci := 3) (v := .ref (a 2 0)) (C := RX3) (T := TX3) (N := 10) hx hb hts hi3 hown hK.1 hP 0 rfl rfl 2 (by decide) (hts (.fieldLink RX3 23 "LastPenny" "trial" "LLastPenny$World;") (by decide +kernel)) (fun _ h9 => h9) rfl dX3_round_38 ?_
    refine va_get (D := D) (ci := 2) (v := .int (o5 2 0 3)) (C := RX2) (T := TX2) (N := 13) hx hb hts hi2 hown hK.1 hP 14 rfl rfl 3 (by decide) (hts (.fieldLink RX3 128 "LastPenny$World" "holder" "I") (by decide +kernel)) (fun _ h9 => h9) rfl dX3_round_41 ?_
    refine lv_ishl hx hb dX3_round_44 ?_
    refine lv_topi (fun x7 ex7 => ?_)
    have h := nm_out h x7 ex7
    refine lv_istore_n (lv' := [(2, .int x7), (1, .int x6), (0, .ref (a 0 0))]) hx hb dX3_round_45 rfl hl (by decide) rfl (fun ls hl => ?_)
    refine lv_iconst (v := 1) hx hb dX3_round_46 (by decide) ?_
    refine lv_istore_n (lv' := [(3, .int 1), (2, .int x7), (1, .int x6), (0, .ref (a 0 0))]) hx hb dX3_round_47 rfl hl (by decide) rfl (fun ls hl => ?_)
    refine h (fun (i8 : Int32) (i9 : Int32) (o10 : S3) => ∀ (ls : Array Slot) (H : Heap) (locs : List Loc), lv_has ls 4 [(0, .ref (a 0 0)), (1, .int x6), (2, .int i8), (3, .int i9)] → va_P D vwCl (cLP kc a o10) H → va_D A (cLP kc a o10) → va_S A s.heap H locs → W p l e rm_X3_round s m args below meth c H locs 0 0 Q (F0 m 48 ls [])) ?_ ls H locs (lv_sub hl [3, 2, 1, 0] rfl) hP hD hS
    intro i8 i9 o10 h ls H locs hl hP hD hS
    refine lv_iload_n hx hb dX3_round_48 rfl (lv_at hl 3 rfl) ?_
    refine lv_bipush (v := 60) hx hb dX3_round_49 (by decide) ?_
    refine lv_icmp_gt (tgt := 87) hx hb dX3_round_51 (by decide) (fun c11 => ?_) (fun c11 => ?_)
    · have h := br1 h c11
      refine lv_bipush (v := -4) hx hb dX3_round_87 (by decide) ?_
      exact hret (-4) o10 H locs ls _ h hP hD hS dX3_round_89
    · have h := br2 h c11
      refine lv_aload_n hx hb dX3_round_54 rfl (lv_at hl 0 rfl) ?_
      refine va_get (D := D) (ci := 3) (v := .ref (a 2 0)) (C := RX3) (T := TX3) (N := 10) hx hb hts hi3 hown hK.1 hP 0 rfl rfl 2 (by decide) (hts (.fieldLink RX3 23 "LastPenny" "trial" "LLastPenny$World;") (by decide +kernel)) (fun _ h9 => h9) rfl dX3_round_55 ?_
      refine q_cVi (As := []) (rest := []) ⟨hx, hb, hml, hown, hts⟩ hK (c_X2_step l D kc (a 2) (o10 2) H.size _ h) (cwV 0 hts gX3_round_X2_step rfl rfl rfl (by decide +kernel) ⟨Nat.le_of_ble_eq_true rfl, Nat.le_of_ble_eq_true rfl⟩) (cut_LP_2 D kc a o10) hP hD hS hA 2 0 rfl rfl rfl hl.1 rfl (Nat.le_of_ble_eq_true rfl) dX3_round_58 ⟨Nat.zero_le _, Nat.zero_le _⟩ (fun r13 u14 H locs h hP hD hS => ?_)
      obtain ⟨w12, rfl⟩ : ∃ z, z = u14 := ⟨_, rfl⟩
      obtain ⟨o15, eo15⟩ : ∃ z, z = (va_up o10 2 w12) := ⟨_, rfl⟩
      have h := nm_out h o15 eo15
      have hP : va_P D vwCl (cLP kc a o15) H := q_to hP (by subst eo15; rfl)
      have hD : va_D A (cLP kc a o15) := q_toD hD (by subst eo15; rfl)
      refine lv_pop hx hb dX3_round_61 rfl ?_
      refine lv_iload_n hx hb dX3_round_62 rfl (lv_at hl 2 rfl) ?_
      refine lv_iconst (v := 1) hx hb dX3_round_63 (by decide) ?_
      refine lv_aload_n hx hb dX3_round_64 rfl (lv_at hl 0 rfl) ?_
      refine va_get (D := D) (ci := 3) (v := .ref (a 2 0)) (C := RX3) (T := TX3) (N := 10) hx hb hts hi3 hown hK.1 hP 0 rfl rfl 2 (by decide) (hts (.fieldLink RX3 23 "LastPenny" "trial" "LLastPenny$World;") (by decide +kernel)) (fun _ h9 => h9) rfl dX3_round_65 ?_
      refine va_get (D := D) (ci := 2) (v := .int (o15 2 0 3)) (C := RX2) (T := TX2) (N := 13) hx hb hts hi2 hown hK.1 hP 14 rfl rfl 3 (by decide) (hts (.fieldLink RX3 128 "LastPenny$World" "holder" "I") (by decide +kernel)) (fun _ h9 => h9) rfl dX3_round_68 ?_
      refine lv_ishl hx hb dX3_round_71 ?_
      refine lv_ior hx hb dX3_round_72 ?_
      refine lv_topi (fun x16 ex16 => ?_)
      have h := nm_out h x16 ex16
      refine lv_istore_n (lv' := [(2, .int x16), (0, .ref (a 0 0)), (1, .int x6), (3, .int i9)]) hx hb dX3_round_73 rfl hl (by decide) rfl (fun ls hl => ?_)
      refine lv_iload_n hx hb dX3_round_74 rfl (lv_at hl 0 rfl) ?_
      refine lv_iload_n hx hb dX3_round_75 rfl (lv_at hl 2 rfl) ?_
      refine lv_icmp_ne (tgt := 81) hx hb dX3_round_76 (by decide) (fun c17 => ?_) (fun c17 => ?_)
      · have h := br2 h c17
        obtain ⟨x18, ex18⟩ : ∃ z : Int32, z = i9 + 1 := ⟨_, rfl⟩
        have h := nm_out h x18 ex18
        refine lv_iinc (v := x18) (lv' := [(3, .int x18), (2, .int x16), (0, .ref (a 0 0)), (1, .int x6)]) hx hb dX3_round_81 hl (k := 3) rfl (by rw [ex18]; rfl) (by decide) rfl (fun ls hl => ?_)
        refine lv_goto (tgt := 48) hx hb dX3_round_84 (by decide) ?_
        exact h ls H locs (lv_sub hl [2, 3, 1, 0] rfl) hP hD hS
      · have h := br1 h c17
        refine lv_iload_n hx hb dX3_round_79 rfl (lv_at hl 3 rfl) ?_
        exact hret i9 o15 H locs ls _ h hP hD hS dX3_round_80
  · have h := br1 h c1
    refine lv_bipush (v := -4) hx hb dX3_round_10 (by decide) ?_
    exact hret (-4) o H locs ls _ h hP hD hS dX3_round_12

def w_X3_trade (p1 : Int32) (p2 : Int32) (o : S3) (K : Int32 → S3 → Prop) : Prop := w_X2_has p1 (o 1) (fun r2 w1 => nm ((va_up o 1 w1) : S3) (fun o4 => br (r2 = 0) (K (-1) o4) (w_X3_within p2 (0 : Int32) (1 : Int32) (fun r6 => br (r6 = 0) (K (-1) o4) (nm ((-4) : Int32) (fun x9 => lfp4 (fun G32 (i10 : Int32) (i11 : Int32) (i12 : Int32) (o13 : S3) => br (20 < i12) (br (i10 = (-4)) (K i10 o13) (br (p2 = 0) (K i10 o13) (K i11 o13))) (w_X2_become (o13 2) (o13 1) (fun w17 v18 => nm ((va_up (va_up o13 2 w17) 1 v18) : S3) (fun o20 => vp_in p1 5 ∧ (nm ((va_up o20 2 (va_up (o20 2) 3 (upd ((o20 2) 3) p1.toNatClampNeg i12))) : S3) (fun o22 => w_X2_comesTo p1 (o22 2) (fun r24 w23 => nm ((va_up o22 2 w23) : S3) (fun o26 => jn (fun (i27 : Int32) (i28 : Int32) => nm (i12 + 1 : Int32) (fun x29 => G32 i27 i28 x29 o26)) (fun J92 => br (r24 = (-4)) (J92 i10 i11) (br (i11 ≤ r24) (J92 i10 i11) (J92 i12 r24))))))))))) x9 61 0 o4))))))
abbrev rm_X3_trade : Room := { frames := 4, cells := 0, slots := 0, locals := 129 }
set_option maxHeartbeats 4000000 in
set_option maxRecDepth 100000 in
theorem c_X3_trade (l : Launch) (D : va_G) (kc : Nat → ClassId) (a : Nat → Nat → Nat) (p1 : Int32) (p2 : Int32) (o : S3) (sz : Nat) (K : Int32 → S3 → Prop) (h : w_X3_trade p1 p2 o K) : MetI l yX3_trade wsX3_trade rm_X3_trade D kc (fun u : S3 => cLP kc a u) o [.ref (a 0 0), .int p1, .int p2] sz (fun r u => K r u) := by
  refine q_ei (code := cX3_trade) (maxL := 7) (by decide) rfl (Nat.le_of_ble_eq_true rfl) ?_
  intro p e s m args below meth c Q A hx hb hml hts hown hK hA hret ls hl hP hD hS
  have hown : s.vm.findClass RX3 = some m.cls := hown
  have hl : lv_has ls 7 [(0, .ref (a 0 0)), (1, .int p1), (2, .int p2)] := hl
  have hP : va_P D vwCl (cLP kc a o) s.heap := hP
  have hD : va_D A (cLP kc a o) := hD
  have hS : va_S A s.heap s.heap [] := hS
  obtain ⟨H, eH⟩ : ∃ z, z = s.heap := ⟨_, rfl⟩
  obtain ⟨locs, eL⟩ : ∃ z : List Loc, z = [] := ⟨_, rfl⟩
  have hP := q_heap hP eH
  have hS := q_heapS hS eH eL
  refine q_start eH eL ?_
  clear eH eL
  have hi2 : ∀ w ∈ u_ws RX2 TX2 13, w ∈ wsX3_trade := by decide +kernel
  have hi3 : ∀ w ∈ u_ws RX3 TX3 10, w ∈ wsX3_trade := by decide +kernel
  unfold w_X3_trade at h
  refine lv_aload_n hx hb dX3_trade_0 rfl (lv_at hl 0 rfl) ?_
  refine va_get (D := D) (ci := 3) (v := .ref (a 1 0)) (C := RX3) (T := TX3) (N := 10) hx hb hts hi3 hown hK.1 hP 0 rfl rfl 1 (by decide) (hts (.fieldLink RX3 19 "LastPenny" "now" "LLastPenny$World;") (by decide +kernel)) (fun _ h9 => h9) rfl dX3_trade_1 ?_
  refine lv_iload_n hx hb dX3_trade_4 rfl (lv_at hl 1 rfl) ?_
  refine q_cVi (As := [.int p1]) (rest := []) ⟨hx, hb, hml, hown, hts⟩ hK (c_X2_has l D kc (a 1) p1 (o 1) H.size _ h) (cwV 1 hts gX3_trade_X2_has rfl rfl rfl (by decide +kernel) ⟨Nat.le_of_ble_eq_true rfl, Nat.le_of_ble_eq_true rfl⟩) (cut_LP_1 D kc a o) hP hD hS hA 2 0 rfl rfl rfl hl.1 rfl (Nat.le_of_ble_eq_true rfl) dX3_trade_5 ⟨Nat.zero_le _, Nat.zero_le _⟩ (fun r2 u3 H locs h hP hD hS => ?_)
  obtain ⟨w1, rfl⟩ : ∃ z, z = u3 := ⟨_, rfl⟩
  obtain ⟨o4, eo4⟩ : ∃ z, z = (va_up o 1 w1) := ⟨_, rfl⟩
  have h := nm_out h o4 eo4
  have hP : va_P D vwCl (cLP kc a o4) H := q_to hP (by subst eo4; rfl)
  have hD : va_D A (cLP kc a o4) := q_toD hD (by subst eo4; rfl)
  refine lv_if_eq (tgt := 20) hx hb dX3_trade_8 (by decide) (fun c5 => ?_) (fun c5 => ?_)
  · have h := br1 h c5
    refine lv_iconst (v := -1) hx hb dX3_trade_20 (by decide) ?_
    exact hret (-1) o4 H locs ls _ h hP hD hS dX3_trade_21
  · have h := br2 h c5
    refine lv_iload_n hx hb dX3_trade_11 rfl (lv_at hl 2 rfl) ?_
    refine lv_iconst (v := 0) hx hb dX3_trade_12 (by decide) ?_
    refine lv_iconst (v := 1) hx hb dX3_trade_13 (by decide) ?_
    refine q_cSi (As := [.int p2, .int 0, .int 1]) (rest := []) ⟨hx, hb, hml, hown, hts⟩ hK (c_X3_within l D kc p2 (0 : Int32) (1 : Int32) H.size _ h) (va_cwS 3 hts gX3_trade_X3_within rfl rfl rfl (by decide +kernel) ⟨Nat.le_of_ble_eq_true rfl, Nat.le_of_ble_eq_true rfl⟩) (cut_nil _) hP hD hS hA rfl hl.1 rfl (Nat.le_of_ble_eq_true rfl) dX3_trade_14 ⟨Nat.zero_le _, Nat.zero_le _⟩ (fun r6 _ H locs h hP hD hS => ?_)
    have hP : va_P D vwCl (cLP kc a o4) H := hP
    have hD : va_D A (cLP kc a o4) := hD
    refine lv_if_ne (tgt := 22) hx hb dX3_trade_17 (by decide) (fun c8 => ?_) (fun c8 => ?_)
    · have h := br2 h c8
      refine lv_bipush (v := -4) hx hb dX3_trade_22 (by decide) ?_
      refine lv_topi (fun x9 ex9 => ?_)
      have h := nm_out h x9 ex9
      refine lv_istore_n (lv' := [(3, .int x9), (0, .ref (a 0 0)), (1, .int p1), (2, .int p2)]) hx hb dX3_trade_24 rfl hl (by decide) rfl (fun ls hl => ?_)
      refine lv_bipush (v := 61) hx hb dX3_trade_25 (by decide) ?_
      refine lv_istore (lv' := [(4, .int 61), (3, .int x9), (0, .ref (a 0 0)), (1, .int p1), (2, .int p2)]) hx hb dX3_trade_27 hl (by decide) rfl (fun ls hl => ?_)
      refine lv_iconst (v := 0) hx hb dX3_trade_29 (by decide) ?_
      refine lv_istore (lv' := [(5, .int 0), (4, .int 61), (3, .int x9), (0, .ref (a 0 0)), (1, .int p1), (2, .int p2)]) hx hb dX3_trade_30 hl (by decide) rfl (fun ls hl => ?_)
      refine h (fun (i10 : Int32) (i11 : Int32) (i12 : Int32) (o13 : S3) => ∀ (ls : Array Slot) (H : Heap) (locs : List Loc), lv_has ls 7 [(0, .ref (a 0 0)), (1, .int p1), (2, .int p2), (3, .int i10), (4, .int i11), (5, .int i12)] → va_P D vwCl (cLP kc a o13) H → va_D A (cLP kc a o13) → va_S A s.heap H locs → W p l e rm_X3_trade s m args below meth c H locs 0 0 Q (F0 m 32 ls [])) ?_ ls H locs (lv_sub hl [3, 4, 5, 2, 1, 0] rfl) hP hD hS
      intro i10 i11 i12 o13 h ls H locs hl hP hD hS
      refine lv_iload hx hb dX3_trade_32 (lv_at hl 5 rfl) ?_
      refine lv_bipush (v := 20) hx hb dX3_trade_34 (by decide) ?_
      refine lv_icmp_gt (tgt := 98) hx hb dX3_trade_36 (by decide) (fun c14 => ?_) (fun c14 => ?_)
      · have h := br1 h c14
        refine lv_iload_n hx hb dX3_trade_98 rfl (lv_at hl 3 rfl) ?_
        refine lv_bipush (v := -4) hx hb dX3_trade_99 (by decide) ?_
        refine lv_icmp_eq (tgt := 108) hx hb dX3_trade_101 (by decide) (fun c15 => ?_) (fun c15 => ?_)
        · have h := br1 h c15
          refine lv_iload_n hx hb dX3_trade_108 rfl (lv_at hl 3 rfl) ?_
          refine lv_goto (tgt := 114) hx hb dX3_trade_109 (by decide) ?_
          exact hret i10 o13 H locs ls _ h hP hD hS dX3_trade_114
        · have h := br2 h c15
          refine lv_iload_n hx hb dX3_trade_104 rfl (lv_at hl 2 rfl) ?_
          refine lv_if_ne (tgt := 112) hx hb dX3_trade_105 (by decide) (fun c16 => ?_) (fun c16 => ?_)
          · have h := br2 h c16
            refine lv_iload hx hb dX3_trade_112 (lv_at hl 4 rfl) ?_
            exact hret i11 o13 H locs ls _ h hP hD hS dX3_trade_114
          · have h := br1 h c16
            refine lv_iload_n hx hb dX3_trade_108 rfl (lv_at hl 3 rfl) ?_
            refine lv_goto (tgt := 114) hx hb dX3_trade_109 (by decide) ?_
            exact hret i10 o13 H locs ls _ h hP hD hS dX3_trade_114
      · have h := br2 h c14
        refine lv_aload_n hx hb dX3_trade_39 rfl (lv_at hl 0 rfl) ?_
        refine va_get (D := D) (ci := 3) (v := .ref (a 2 0)) (C := RX3) (T := TX3) (N := 10) hx hb hts hi3 hown hK.1 hP 0 rfl rfl 2 (by decide) (hts (.fieldLink RX3 23 "LastPenny" "trial" "LLastPenny$World;") (by decide +kernel)) (fun _ h9 => h9) rfl dX3_trade_40 ?_
        refine lv_aload_n hx hb dX3_trade_43 rfl (lv_at hl 0 rfl) ?_
        refine va_get (D := D) (ci := 3) (v := .ref (a 1 0)) (C := RX3) (T := TX3) (N := 10) hx hb hts hi3 hown hK.1 hP 0 rfl rfl 1 (by decide) (hts (.fieldLink RX3 19 "LastPenny" "now" "LLastPenny$World;") (by decide +kernel)) (fun _ h9 => h9) rfl dX3_trade_44 ?_
        refine q_cVv (As := [.ref (a 1 0)]) (rest := []) ⟨hx, hb, hml, hown, hts⟩ hK (c_X2_become l D kc (a 2) (a 1) (o13 2) (o13 1) H.size _ h) (cwV 1 hts gX3_trade_X2_become rfl rfl rfl (by decide +kernel) ⟨Nat.le_of_ble_eq_true rfl, Nat.le_of_ble_eq_true rfl⟩) (cut_LP_2_1 D kc a o13) hP hD hS hA 2 0 rfl rfl rfl hl.1 rfl (Nat.le_of_ble_eq_true rfl) dX3_trade_47 ⟨Nat.zero_le _, Nat.zero_le _⟩ (fun u19 H locs h hP hD hS => ?_)
        obtain ⟨w17, v18⟩ := u19
        obtain ⟨o20, eo20⟩ : ∃ z, z = (va_up (va_up o13 2 w17) 1 v18) := ⟨_, rfl⟩
        have h := nm_out h o20 eo20
        have hP : va_P D vwCl (cLP kc a o20) H := q_to hP (by subst eo20; rfl)
        have hD : va_D A (cLP kc a o20) := q_toD hD (by subst eo20; rfl)
        refine lv_aload_n hx hb dX3_trade_50 rfl (lv_at hl 0 rfl) ?_
        refine va_get (D := D) (ci := 3) (v := .ref (a 2 0)) (C := RX3) (T := TX3) (N := 10) hx hb hts hi3 hown hK.1 hP 0 rfl rfl 2 (by decide) (hts (.fieldLink RX3 23 "LastPenny" "trial" "LLastPenny$World;") (by decide +kernel)) (fun _ h9 => h9) rfl dX3_trade_51 ?_
        refine va_get (D := D) (ci := 2) (v := .ref (a 2 3)) (C := RX2) (T := TX2) (N := 13) hx hb hts hi2 hown hK.1 hP 14 rfl rfl 8 (by decide) (hts (.fieldLink RX3 111 "LastPenny$World" "tradeOf" "[I") (by decide +kernel)) (fun _ h9 => h9) rfl dX3_trade_54 ?_
        refine lv_iload_n hx hb dX3_trade_57 rfl (lv_at hl 1 rfl) ?_
        refine lv_iload hx hb dX3_trade_58 (lv_at hl 5 rfl) ?_
        obtain ⟨hi_21, h⟩ := h
        refine va_iast hx hb hK.1 hP hD hS 17 0 rfl rfl hi_21 dX3_trade_60 (fun H locs hP hD hS => ?_)
        obtain ⟨o22, eo22⟩ : ∃ z, z = (va_up o20 2 (va_up (o20 2) 3 (upd ((o20 2) 3) p1.toNatClampNeg i12))) := ⟨_, rfl⟩
        have h := nm_out h o22 eo22
        have hP : va_P D vwCl (cLP kc a o22) H := q_to hP (by subst eo22; rfl)
        have hD : va_D A (cLP kc a o22) := q_toD hD (by subst eo22; rfl)
        refine lv_aload_n hx hb dX3_trade_61 rfl (lv_at hl 0 rfl) ?_
        refine va_get (D := D) (ci := 3) (v := .ref (a 2 0)) (C := RX3) (T := TX3) (N := 10) hx hb hts hi3 hown hK.1 hP 0 rfl rfl 2 (by decide) (hts (.fieldLink RX3 23 "LastPenny" "trial" "LLastPenny$World;") (by decide +kernel)) (fun _ h9 => h9) rfl dX3_trade_62 ?_
        refine lv_iload_n hx hb dX3_trade_65 rfl (lv_at hl 1 rfl) ?_
        refine q_cVi (As := [.int p1]) (rest := []) ⟨hx, hb, hml, hown, hts⟩ hK (c_X2_comesTo l D kc (a 2) p1 (o22 2) H.size _ h) (cwV 1 hts gX3_trade_X2_comesTo rfl rfl rfl (by decide +kernel) ⟨Nat.le_of_ble_eq_true rfl, Nat.le_of_ble_eq_true rfl⟩) (cut_LP_2 D kc a o22) hP hD hS hA 2 0 rfl rfl rfl hl.1 rfl (Nat.le_of_ble_eq_true rfl) dX3_trade_66 ⟨Nat.zero_le _, Nat.zero_le _⟩ (fun r24 u25 H locs h hP hD hS => ?_)
        obtain ⟨w23, rfl⟩ : ∃ z, z = u25 := ⟨_, rfl⟩
        obtain ⟨o26, eo26⟩ : ∃ z, z = (va_up o22 2 w23) := ⟨_, rfl⟩
        have h := nm_out h o26 eo26
        have hP : va_P D vwCl (cLP kc a o26) H := q_to hP (by subst eo26; rfl)
        have hD : va_D A (cLP kc a o26) := q_toD hD (by subst eo26; rfl)
        refine lv_istore (lv' := [(6, .int r24), (0, .ref (a 0 0)), (1, .int p1), (2, .int p2), (3, .int i10), (4, .int i11), (5, .int i12)]) hx hb dX3_trade_69 hl (by decide) rfl (fun ls hl => ?_)
        refine lv_iload hx hb dX3_trade_71 (lv_at hl 0 rfl) ?_
        refine lv_bipush (v := -4) hx hb dX3_trade_73 (by decide) ?_
        refine jn_elim h (fun J92 eJ92 h => ?_)
        have hJ_92 : ∀ (i27 : Int32) (i28 : Int32) (ls : Array Slot), J92 i27 i28 → lv_has ls 7 [(0, .ref (a 0 0)), (1, .int p1), (2, .int p2), (3, .int i27), (4, .int i28), (5, .int i12)] → W p l e rm_X3_trade s m args below meth c H locs 0 0 Q (F0 m 92 ls []) := by
          intro i27 i28 ls h hl
          subst eJ92
          obtain ⟨x29, ex29⟩ : ∃ z : Int32, z = i12 + 1 := ⟨_, rfl⟩
          have h := nm_out h x29 ex29
          refine lv_iinc (v := x29) (lv' := [(5, .int x29), (0, .ref (a 0 0)), (1, .int p1), (2, .int p2), (3, .int i27), (4, .int i28)]) hx hb dX3_trade_92 hl (k := 5) rfl (by rw [ex29]; rfl) (by decide) rfl (fun ls hl => ?_)
          refine lv_goto (tgt := 32) hx hb dX3_trade_95 (by decide) ?_
          exact h ls H locs (lv_sub hl [1, 2, 3, 4, 5, 0] rfl) hP hD hS
        refine lv_icmp_eq (tgt := 92) hx hb dX3_trade_75 (by decide) (fun c30 => ?_) (fun c30 => ?_)
        · have h := br1 h c30
          exact hJ_92 i10 i11 ls h (lv_sub hl [1, 2, 3, 4, 5, 6] rfl)
        · have h := br2 h c30
          refine lv_iload hx hb dX3_trade_78 (lv_at hl 0 rfl) ?_
          refine lv_iload hx hb dX3_trade_80 (lv_at hl 5 rfl) ?_
          refine lv_icmp_ge (tgt := 92) hx hb dX3_trade_82 (by decide) (fun c31 => ?_) (fun c31 => ?_)
          · have h := br1 h c31
            exact hJ_92 i10 i11 ls h (lv_sub hl [1, 2, 3, 4, 5, 6] rfl)
          · have h := br2 h c31
            refine lv_iload hx hb dX3_trade_85 (lv_at hl 6 rfl) ?_
            refine lv_istore_n (lv' := [(3, .int i12), (6, .int r24), (0, .ref (a 0 0)), (1, .int p1), (2, .int p2), (4, .int i11), (5, .int i12)]) hx hb dX3_trade_87 rfl hl (by decide) rfl (fun ls hl => ?_)
            refine lv_iload hx hb dX3_trade_88 (lv_at hl 1 rfl) ?_
            refine lv_istore (lv' := [(4, .int r24), (3, .int i12), (6, .int r24), (0, .ref (a 0 0)), (1, .int p1), (2, .int p2), (5, .int i12)]) hx hb dX3_trade_90 hl (by decide) rfl (fun ls hl => ?_)
            exact hJ_92 i12 r24 ls h (lv_sub hl [3, 4, 5, 1, 0, 6] rfl)
    · have h := br1 h c8
      refine lv_iconst (v := -1) hx hb dX3_trade_20 (by decide) ?_
      exact hret (-1) o4 H locs ls _ h hP hD hS dX3_trade_21

def w_X3_keeper (p1 : Int32) (p2 : Int32) (o : S3) (K : Int32 → S3 → Prop) : Prop := w_X3_within p1 (0 : Int32) (60 : Int32) (fun r1 => br (r1 = 0) (K (-1) o) (w_X3_within p2 (0 : Int32) (1 : Int32) (fun r4 => br (r4 = 0) (K (-1) o) (nm ((-4) : Int32) (fun x7 => nm ((-4) : Int32) (fun x8 => lfp4 (fun G31 (i9 : Int32) (i10 : Int32) (i11 : Int32) (o12 : S3) => br ((o12 1 0 0) ≤ i11) (br (p2 = 0) (K i9 o12) (K i10 o12)) (w_X2_become (o12 2) (o12 1) (fun w15 v16 => nm ((va_up (va_up o12 2 w15) 1 v16) : S3) (fun o18 => nm ((va_up o18 2 (va_up (o18 2) 0 (upd ((o18 2) 0) 3 i11))) : S3) (fun o19 => w_X2_pass p1 (o19 2) (fun w20 => nm ((va_up o19 2 w20) : S3) (fun o22 => w_X2_meansOfAll (o22 2) (fun r24 w23 => nm ((va_up o22 2 w23) : S3) (fun o26 => jn (fun (i27 : Int32) (i28 : Int32) (o29 : S3) => nm (i11 + 1 : Int32) (fun x30 => G31 i27 i28 x30 o29)) (fun J95 => br (r24 ≤ i10) (J95 i9 i10 o26) (w_X2_meansOfAll (o26 2) (fun r33 w32 => nm ((va_up o26 2 w32) : S3) (fun o35 => J95 i11 r33 o35))))))))))))) x7 x8 0 o))))))
abbrev rm_X3_keeper : Room := { frames := 4, cells := 0, slots := 0, locals := 129 }
set_option maxHeartbeats 4000000 in
set_option maxRecDepth 100000 in
theorem c_X3_keeper (l : Launch) (D : va_G) (kc : Nat → ClassId) (a : Nat → Nat → Nat) (p1 : Int32) (p2 : Int32) (o : S3) (sz : Nat) (K : Int32 → S3 → Prop) (h : w_X3_keeper p1 p2 o K) : MetI l yX3_keeper wsX3_keeper rm_X3_keeper D kc (fun u : S3 => cLP kc a u) o [.ref (a 0 0), .int p1, .int p2] sz (fun r u => K r u) := by
  refine q_ei (code := cX3_keeper) (maxL := 6) (by decide) rfl (Nat.le_of_ble_eq_true rfl) ?_
  intro p e s m args below meth c Q A hx hb hml hts hown hK hA hret ls hl hP hD hS
  have hown : s.vm.findClass RX3 = some m.cls := hown
  have hl : lv_has ls 6 [(0, .ref (a 0 0)), (1, .int p1), (2, .int p2)] := hl
  have hP : va_P D vwCl (cLP kc a o) s.heap := hP
  have hD : va_D A (cLP kc a o) := hD
  have hS : va_S A s.heap s.heap [] := hS
  obtain ⟨H, eH⟩ : ∃ z, z = s.heap := ⟨_, rfl⟩
  obtain ⟨locs, eL⟩ : ∃ z : List Loc, z = [] := ⟨_, rfl⟩
  have hP := q_heap hP eH
  have hS := q_heapS hS eH eL
  refine q_start eH eL ?_
  clear eH eL
  have hi2 : ∀ w ∈ u_ws RX2 TX2 13, w ∈ wsX3_keeper := by decide +kernel
  have hi3 : ∀ w ∈ u_ws RX3 TX3 10, w ∈ wsX3_keeper := by decide +kernel
  unfold w_X3_keeper at h
  refine lv_iload_n hx hb dX3_keeper_0 rfl (lv_at hl 1 rfl) ?_
  refine lv_iconst (v := 0) hx hb dX3_keeper_1 (by decide) ?_
  refine lv_bipush (v := 60) hx hb dX3_keeper_2 (by decide) ?_
  refine q_cSi (As := [.int p1, .int 0, .int 60]) (rest := []) ⟨hx, hb, hml, hown, hts⟩ hK (c_X3_within l D kc p1 (0 : Int32) (60 : Int32) H.size _ h) (va_cwS 3 hts gX3_keeper_X3_within rfl rfl rfl (by decide +kernel) ⟨Nat.le_of_ble_eq_true rfl, Nat.le_of_ble_eq_true rfl⟩) (cut_nil _) hP hD hS hA rfl hl.1 rfl (Nat.le_of_ble_eq_true rfl) dX3_keeper_4 ⟨Nat.zero_le _, Nat.zero_le _⟩ (fun r1 _ H locs h hP hD hS => ?_)
  have hP : va_P D vwCl (cLP kc a o) H := hP
  have hD : va_D A (cLP kc a o) := hD
  refine lv_if_eq (tgt := 19) hx hb dX3_keeper_7 (by decide) (fun c3 => ?_) (fun c3 => ?_)
  · have h := br1 h c3
    refine lv_iconst (v := -1) hx hb dX3_keeper_19 (by decide) ?_
    exact hret (-1) o H locs ls _ h hP hD hS dX3_keeper_20
  · have h := br2 h c3
    refine lv_iload_n hx hb dX3_keeper_10 rfl (lv_at hl 2 rfl) ?_
    refine lv_iconst (v := 0) hx hb dX3_keeper_11 (by decide) ?_
    refine lv_iconst (v := 1) hx hb dX3_keeper_12 (by decide) ?_
    refine q_cSi (As := [.int p2, .int 0, .int 1]) (rest := []) ⟨hx, hb, hml, hown, hts⟩ hK (c_X3_within l D kc p2 (0 : Int32) (1 : Int32) H.size _ h) (va_cwS 3 hts gX3_keeper_X3_within rfl rfl rfl (by decide +kernel) ⟨Nat.le_of_ble_eq_true rfl, Nat.le_of_ble_eq_true rfl⟩) (cut_nil _) hP hD hS hA rfl hl.1 rfl (Nat.le_of_ble_eq_true rfl) dX3_keeper_13 ⟨Nat.zero_le _, Nat.zero_le _⟩ (fun r4 _ H locs h hP hD hS => ?_)
    have hP : va_P D vwCl (cLP kc a o) H := hP
    have hD : va_D A (cLP kc a o) := hD
    refine lv_if_ne (tgt := 21) hx hb dX3_keeper_16 (by decide) (fun c6 => ?_) (fun c6 => ?_)
    · have h := br2 h c6
      refine lv_bipush (v := -4) hx hb dX3_keeper_21 (by decide) ?_
      refine lv_topi (fun x7 ex7 => ?_)
      have h := nm_out h x7 ex7
      refine lv_istore_n (lv' := [(3, .int x7), (0, .ref (a 0 0)), (1, .int p1), (2, .int p2)]) hx hb dX3_keeper_23 rfl hl (by decide) rfl (fun ls hl => ?_)
      refine lv_bipush (v := -4) hx hb dX3_keeper_24 (by decide) ?_
      refine lv_topi (fun x8 ex8 => ?_)
      have h := nm_out h x8 ex8
      refine lv_istore (lv' := [(4, .int x8), (3, .int x7), (0, .ref (a 0 0)), (1, .int p1), (2, .int p2)]) hx hb dX3_keeper_26 hl (by decide) rfl (fun ls hl => ?_)
      refine lv_iconst (v := 0) hx hb dX3_keeper_28 (by decide) ?_
      refine lv_istore (lv' := [(5, .int 0), (4, .int x8), (3, .int x7), (0, .ref (a 0 0)), (1, .int p1), (2, .int p2)]) hx hb dX3_keeper_29 hl (by decide) rfl (fun ls hl => ?_)
      refine h (fun (i9 : Int32) (i10 : Int32) (i11 : Int32) (o12 : S3) => ∀ (ls : Array Slot) (H : Heap) (locs : List Loc), lv_has ls 6 [(0, .ref (a 0 0)), (1, .int p1), (2, .int p2), (3, .int i9), (4, .int i10), (5, .int i11)] → va_P D vwCl (cLP kc a o12) H → va_D A (cLP kc a o12) → va_S A s.heap H locs → W p l e rm_X3_keeper s m args below meth c H locs 0 0 Q (F0 m 31 ls [])) ?_ ls H locs (lv_sub hl [3, 4, 5, 2, 1, 0] rfl) hP hD hS
      intro i9 i10 i11 o12 h ls H locs hl hP hD hS
      refine lv_iload hx hb dX3_keeper_31 (lv_at hl 5 rfl) ?_
      refine lv_aload_n hx hb dX3_keeper_33 rfl (lv_at hl 0 rfl) ?_
      refine va_get (D := D) (ci := 3) (v := .ref (a 1 0)) (C := RX3) (T := TX3) (N := 10) hx hb hts hi3 hown hK.1 hP 0 rfl rfl 1 (by decide) (hts (.fieldLink RX3 19 "LastPenny" "now" "LLastPenny$World;") (by decide +kernel)) (fun _ h9 => h9) rfl dX3_keeper_34 ?_
      refine va_get (D := D) (ci := 2) (v := .int (o12 1 0 0)) (C := RX2) (T := TX2) (N := 13) hx hb hts hi2 hown hK.1 hP 6 rfl rfl 0 (by decide) (hts (.fieldLink RX3 80 "LastPenny$World" "people" "I") (by decide +kernel)) (fun _ h9 => h9) rfl dX3_keeper_37 ?_
      refine lv_icmp_ge (tgt := 101) hx hb dX3_keeper_40 (by decide) (fun c13 => ?_) (fun c13 => ?_)
      · have h := br1 h c13
        refine lv_iload_n hx hb dX3_keeper_101 rfl (lv_at hl 2 rfl) ?_
        refine lv_if_ne (tgt := 109) hx hb dX3_keeper_102 (by decide) (fun c14 => ?_) (fun c14 => ?_)
        · have h := br2 h c14
          refine lv_iload hx hb dX3_keeper_109 (lv_at hl 4 rfl) ?_
          exact hret i10 o12 H locs ls _ h hP hD hS dX3_keeper_111
        · have h := br1 h c14
          refine lv_iload_n hx hb dX3_keeper_105 rfl (lv_at hl 3 rfl) ?_
          refine lv_goto (tgt := 111) hx hb dX3_keeper_106 (by decide) ?_
          exact hret i9 o12 H locs ls _ h hP hD hS dX3_keeper_111
      · have h := br2 h c13
        refine lv_aload_n hx hb dX3_keeper_43 rfl (lv_at hl 0 rfl) ?_
        refine va_get (D := D) (ci := 3) (v := .ref (a 2 0)) (C := RX3) (T := TX3) (N := 10) hx hb hts hi3 hown hK.1 hP 0 rfl rfl 2 (by decide) (hts (.fieldLink RX3 23 "LastPenny" "trial" "LLastPenny$World;") (by decide +kernel)) (fun _ h9 => h9) rfl dX3_keeper_44 ?_
        refine lv_aload_n hx hb dX3_keeper_47 rfl (lv_at hl 0 rfl) ?_
        refine va_get (D := D) (ci := 3) (v := .ref (a 1 0)) (C := RX3) (T := TX3) (N := 10) hx hb hts hi3 hown hK.1 hP 0 rfl rfl 1 (by decide) (hts (.fieldLink RX3 19 "LastPenny" "now" "LLastPenny$World;") (by decide +kernel)) (fun _ h9 => h9) rfl dX3_keeper_48 ?_
        refine q_cVv (As := [.ref (a 1 0)]) (rest := []) ⟨hx, hb, hml, hown, hts⟩ hK (c_X2_become l D kc (a 2) (a 1) (o12 2) (o12 1) H.size _ h) (cwV 1 hts gX3_keeper_X2_become rfl rfl rfl (by decide +kernel) ⟨Nat.le_of_ble_eq_true rfl, Nat.le_of_ble_eq_true rfl⟩) (cut_LP_2_1 D kc a o12) hP hD hS hA 2 0 rfl rfl rfl hl.1 rfl (Nat.le_of_ble_eq_true rfl) dX3_keeper_51 ⟨Nat.zero_le _, Nat.zero_le _⟩ (fun u17 H locs h hP hD hS => ?_)
        obtain ⟨w15, v16⟩ := u17
        obtain ⟨o18, eo18⟩ : ∃ z, z = (va_up (va_up o12 2 w15) 1 v16) := ⟨_, rfl⟩
        have h := nm_out h o18 eo18
        have hP : va_P D vwCl (cLP kc a o18) H := q_to hP (by subst eo18; rfl)
        have hD : va_D A (cLP kc a o18) := q_toD hD (by subst eo18; rfl)
        refine lv_aload_n hx hb dX3_keeper_54 rfl (lv_at hl 0 rfl) ?_
        refine va_get (D := D) (ci := 3) (v := .ref (a 2 0)) (C := RX3) (T := TX3) (N := 10) hx hb hts hi3 hown hK.1 hP 0 rfl rfl 2 (by decide) (hts (.fieldLink RX3 23 "LastPenny" "trial" "LLastPenny$World;") (by decide +kernel)) (fun _ h9 => h9) rfl dX3_keeper_55 ?_
        refine lv_iload hx hb dX3_keeper_58 (lv_at hl 5 rfl) ?_
        refine va_put (D := D) (ci := 2) (v := .int i11) (ty := .int) (C := RX2) (T := TX2) (N := 13) hx hb hts hi2 tyX2 tyX2_ok nmX2 hown hK.1 hP hD hS 14 rfl rfl 3 (by decide) (hts (.fieldLink RX3 128 "LastPenny$World" "holder" "I") (by decide +kernel)) (fun _ h9 => h9) rfl (by decide +kernel) rfl rfl (Nat.le_of_ble_eq_true rfl) dX3_keeper_60 (fun H locs hP hD hS => ?_)
        obtain ⟨o19, eo19⟩ : ∃ z, z = (va_up o18 2 (va_up (o18 2) 0 (upd ((o18 2) 0) 3 i11))) := ⟨_, rfl⟩
        have h := nm_out h o19 eo19
        have hP : va_P D vwCl (cLP kc a o19) H := q_to hP (by subst eo19; rfl)
        have hD : va_D A (cLP kc a o19) := q_toD hD (by subst eo19; rfl)
        refine lv_aload_n hx hb dX3_keeper_63 rfl (lv_at hl 0 rfl) ?_
        refine va_get (D := D) (ci := 3) (v := .ref (a 2 0)) (C := RX3) (T := TX3) (N := 10) hx hb hts hi3 hown hK.1 hP 0 rfl rfl 2 (by decide) (hts (.fieldLink RX3 23 "LastPenny" "trial" "LLastPenny$World;") (by decide +kernel)) (fun _ h9 => h9) rfl dX3_keeper_64 ?_
        refine lv_iload_n hx hb dX3_keeper_67 rfl (lv_at hl 1 rfl) ?_
        refine q_cVv (As := [.int p1]) (rest := []) ⟨hx, hb, hml, hown, hts⟩ hK (c_X2_pass l D kc (a 2) p1 (o19 2) H.size _ h) (cwV 1 hts gX3_keeper_X2_pass rfl rfl rfl (by decide +kernel) ⟨Nat.le_of_ble_eq_true rfl, Nat.le_of_ble_eq_true rfl⟩) (cut_LP_2 D kc a o19) hP hD hS hA 2 0 rfl rfl rfl hl.1 rfl (Nat.le_of_ble_eq_true rfl) dX3_keeper_68 ⟨Nat.zero_le _, Nat.zero_le _⟩ (fun u21 H locs h hP hD hS => ?_)
        obtain ⟨w20, rfl⟩ : ∃ z, z = u21 := ⟨_, rfl⟩
        obtain ⟨o22, eo22⟩ : ∃ z, z = (va_up o19 2 w20) := ⟨_, rfl⟩
        have h := nm_out h o22 eo22
        have hP : va_P D vwCl (cLP kc a o22) H := q_to hP (by subst eo22; rfl)
        have hD : va_D A (cLP kc a o22) := q_toD hD (by subst eo22; rfl)
        refine lv_aload_n hx hb dX3_keeper_71 rfl (lv_at hl 0 rfl) ?_
        refine va_get (D := D) (ci := 3) (v := .ref (a 2 0)) (C := RX3) (T := TX3) (N := 10) hx hb hts hi3 hown hK.1 hP 0 rfl rfl 2 (by decide) (hts (.fieldLink RX3 23 "LastPenny" "trial" "LLastPenny$World;") (by decide +kernel)) (fun _ h9 => h9) rfl dX3_keeper_72 ?_
        refine q_cVi (As := []) (rest := []) ⟨hx, hb, hml, hown, hts⟩ hK (c_X2_meansOfAll l D kc (a 2) (o22 2) H.size _ h) (cwV 0 hts gX3_keeper_X2_meansOfAll rfl rfl rfl (by decide +kernel) ⟨Nat.le_of_ble_eq_true rfl, Nat.le_of_ble_eq_true rfl⟩) (cut_LP_2 D kc a o22) hP hD hS hA 2 0 rfl rfl rfl hl.1 rfl (Nat.le_of_ble_eq_true rfl) dX3_keeper_75 ⟨Nat.zero_le _, Nat.zero_le _⟩ (fun r24 u25 H locs h hP hD hS => ?_)
        obtain ⟨w23, rfl⟩ : ∃ z, z = u25 := ⟨_, rfl⟩
        obtain ⟨o26, eo26⟩ : ∃ z, z = (va_up o22 2 w23) := ⟨_, rfl⟩
        have h := nm_out h o26 eo26
        have hP : va_P D vwCl (cLP kc a o26) H := q_to hP (by subst eo26; rfl)
        have hD : va_D A (cLP kc a o26) := q_toD hD (by subst eo26; rfl)
        refine lv_iload hx hb dX3_keeper_78 (lv_at hl 4 rfl) ?_
        refine jn_elim h (fun J95 eJ95 h => ?_)
        have hJ_95 : ∀ (i27 : Int32) (i28 : Int32) (o29 : S3) (ls : Array Slot) (H : Heap) (locs : List Loc), J95 i27 i28 o29 → lv_has ls 6 [(0, .ref (a 0 0)), (1, .int p1), (2, .int p2), (3, .int i27), (4, .int i28), (5, .int i11)] → va_P D vwCl (cLP kc a o29) H → va_D A (cLP kc a o29) → va_S A s.heap H locs → W p l e rm_X3_keeper s m args below meth c H locs 0 0 Q (F0 m 95 ls []) := by
          intro i27 i28 o29 ls H locs h hl hP hD hS
          subst eJ95
          obtain ⟨x30, ex30⟩ : ∃ z : Int32, z = i11 + 1 := ⟨_, rfl⟩
          have h := nm_out h x30 ex30
          refine lv_iinc (v := x30) (lv' := [(5, .int x30), (0, .ref (a 0 0)), (1, .int p1), (2, .int p2), (3, .int i27), (4, .int i28)]) hx hb dX3_keeper_95 hl (k := 5) rfl (by rw [ex30]; rfl) (by decide) rfl (fun ls hl => ?_)
          refine lv_goto (tgt := 31) hx hb dX3_keeper_98 (by decide) ?_
          exact h ls H locs (lv_sub hl [1, 2, 3, 4, 5, 0] rfl) hP hD hS
        refine lv_icmp_le (tgt := 95) hx hb dX3_keeper_80 (by decide) (fun c31 => ?_) (fun c31 => ?_)
        · have h := br1 h c31
          exact hJ_95 i9 i10 o26 ls H locs h (lv_sub hl [0, 1, 2, 3, 4, 5] rfl) hP hD hS
        · have h := br2 h c31
          refine lv_iload hx hb dX3_keeper_83 (lv_at hl 5 rfl) ?_
          refine lv_istore_n (lv' := [(3, .int i11), (0, .ref (a 0 0)), (1, .int p1), (2, .int p2), (4, .int i10), (5, .int i11)]) hx hb dX3_keeper_85 rfl hl (by decide) rfl (fun ls hl => ?_)
          refine lv_aload_n hx hb dX3_keeper_86 rfl (lv_at hl 1 rfl) ?_
          refine va_get (D := D) (ci := 3) (v := .ref (a 2 0)) (C := RX3) (T := TX3) (N := 10) hx hb hts hi3 hown hK.1 hP 0 rfl rfl 2 (by decide) (hts (.fieldLink RX3 23 "LastPenny" "trial" "LLastPenny$World;") (by decide +kernel)) (fun _ h9 => h9) rfl dX3_keeper_87 ?_
          refine q_cVi (As := []) (rest := []) ⟨hx, hb, hml, hown, hts⟩ hK (c_X2_meansOfAll l D kc (a 2) (o26 2) H.size _ h) (cwV 0 hts gX3_keeper_X2_meansOfAll rfl rfl rfl (by decide +kernel) ⟨Nat.le_of_ble_eq_true rfl, Nat.le_of_ble_eq_true rfl⟩) (cut_LP_2 D kc a o26) hP hD hS hA 2 0 rfl rfl rfl hl.1 rfl (Nat.le_of_ble_eq_true rfl) dX3_keeper_90 ⟨Nat.zero_le _, Nat.zero_le _⟩ (fun r33 u34 H locs h hP hD hS => ?_)
          obtain ⟨w32, rfl⟩ : ∃ z, z = u34 := ⟨_, rfl⟩
          obtain ⟨o35, eo35⟩ : ∃ z, z = (va_up o26 2 w32) := ⟨_, rfl⟩
          have h := nm_out h o35 eo35
          have hP : va_P D vwCl (cLP kc a o35) H := q_to hP (by subst eo35; rfl)
          have hD : va_D A (cLP kc a o35) := q_toD hD (by subst eo35; rfl)
          refine lv_istore (lv' := [(4, .int r33), (3, .int i11), (0, .ref (a 0 0)), (1, .int p1), (2, .int p2), (5, .int i11)]) hx hb dX3_keeper_93 hl (by decide) rfl (fun ls hl => ?_)
          exact hJ_95 i11 r33 o35 ls H locs h (lv_sub hl [2, 3, 4, 1, 0, 5] rfl) hP hD hS
    · have h := br1 h c6
      refine lv_iconst (v := -1) hx hb dX3_keeper_19 (by decide) ?_
      exact hret (-1) o H locs ls _ h hP hD hS dX3_keeper_20

def w_X3_kind (p1 : Int32) (p2 : Int32) (p3 : Int32) (o : S3) (K : Int32 → S3 → Prop) : Prop := w_X2_has p1 (o 1) (fun r2 w1 => nm ((va_up o 1 w1) : S3) (fun o4 => br (r2 = 0) (K (-1) o4) (w_X3_within p2 (0 : Int32) (60 : Int32) (fun r6 => br (r6 = 0) (K (-1) o4) (w_X3_within p3 (0 : Int32) (1 : Int32) (fun r9 => br (r9 = 0) (K (-1) o4) (nm ((-1) : Int32) (fun x12 => lfp4 (fun G41 (i13 : Int32) (i14 : Int32) (i15 : Int32) (o16 : S3) => br (3 < i15) (br (p3 = 0) (K i13 o16) (K i14 o16)) (w_X2_become (o16 2) (o16 1) (fun w19 v20 => nm ((va_up (va_up o16 2 w19) 1 v20) : S3) (fun o22 => vp_in p1 5 ∧ (nm ((va_up o22 2 (va_up (o22 2) 1 (upd ((o22 2) 1) p1.toNatClampNeg i15))) : S3) (fun o24 => w_X2_pass p2 (o24 2) (fun w25 => nm ((va_up o24 2 w25) : S3) (fun o27 => vp_in p1 5 ∧ (jn (fun (i29 : Int32) (i30 : Int32) => nm (i15 + 1 : Int32) (fun x31 => G41 i29 i30 x31 o27)) (fun J106 => br ((o27 2 2 p1.toNatClampNeg) ≤ i14) (J106 i13 i14) (vp_in p1 5 ∧ (nm ((o27 2 2 p1.toNatClampNeg) : Int32) (fun x34 => J106 i15 x34))))))))))))) 0 x12 0 o4))))))))
abbrev rm_X3_kind : Room := { frames := 4, cells := 0, slots := 0, locals := 129 }
set_option maxHeartbeats 4000000 in
set_option maxRecDepth 100000 in
theorem c_X3_kind (l : Launch) (D : va_G) (kc : Nat → ClassId) (a : Nat → Nat → Nat) (p1 : Int32) (p2 : Int32) (p3 : Int32) (o : S3) (sz : Nat) (K : Int32 → S3 → Prop) (h : w_X3_kind p1 p2 p3 o K) : MetI l yX3_kind wsX3_kind rm_X3_kind D kc (fun u : S3 => cLP kc a u) o [.ref (a 0 0), .int p1, .int p2, .int p3] sz (fun r u => K r u) := by
  refine q_ei (code := cX3_kind) (maxL := 7) (by decide) rfl (Nat.le_of_ble_eq_true rfl) ?_
  intro p e s m args below meth c Q A hx hb hml hts hown hK hA hret ls hl hP hD hS
  have hown : s.vm.findClass RX3 = some m.cls := hown
  have hl : lv_has ls 7 [(0, .ref (a 0 0)), (1, .int p1), (2, .int p2), (3, .int p3)] := hl
  have hP : va_P D vwCl (cLP kc a o) s.heap := hP
  have hD : va_D A (cLP kc a o) := hD
  have hS : va_S A s.heap s.heap [] := hS
  obtain ⟨H, eH⟩ : ∃ z, z = s.heap := ⟨_, rfl⟩
  obtain ⟨locs, eL⟩ : ∃ z : List Loc, z = [] := ⟨_, rfl⟩
  have hP := q_heap hP eH
  have hS := q_heapS hS eH eL
  refine q_start eH eL ?_
  clear eH eL
  have hi2 : ∀ w ∈ u_ws RX2 TX2 13, w ∈ wsX3_kind := by decide +kernel
  have hi3 : ∀ w ∈ u_ws RX3 TX3 10, w ∈ wsX3_kind := by decide +kernel
  unfold w_X3_kind at h
  refine lv_aload_n hx hb dX3_kind_0 rfl (lv_at hl 0 rfl) ?_
  refine va_get (D := D) (ci := 3) (v := .ref (a 1 0)) (C := RX3) (T := TX3) (N := 10) hx hb hts hi3 hown hK.1 hP 0 rfl rfl 1 (by decide) (hts (.fieldLink RX3 19 "LastPenny" "now" "LLastPenny$World;") (by decide +kernel)) (fun _ h9 => h9) rfl dX3_kind_1 ?_
  refine lv_iload_n hx hb dX3_kind_4 rfl (lv_at hl 1 rfl) ?_
  refine q_cVi (As := [.int p1]) (rest := []) ⟨hx, hb, hml, hown, hts⟩ hK (c_X2_has l D kc (a 1) p1 (o 1) H.size _ h) (cwV 1 hts gX3_kind_X2_has rfl rfl rfl (by decide +kernel) ⟨Nat.le_of_ble_eq_true rfl, Nat.le_of_ble_eq_true rfl⟩) (cut_LP_1 D kc a o) hP hD hS hA 2 0 rfl rfl rfl hl.1 rfl (Nat.le_of_ble_eq_true rfl) dX3_kind_5 ⟨Nat.zero_le _, Nat.zero_le _⟩ (fun r2 u3 H locs h hP hD hS => ?_)
  obtain ⟨w1, rfl⟩ : ∃ z, z = u3 := ⟨_, rfl⟩
  obtain ⟨o4, eo4⟩ : ∃ z, z = (va_up o 1 w1) := ⟨_, rfl⟩
  have h := nm_out h o4 eo4
  have hP : va_P D vwCl (cLP kc a o4) H := q_to hP (by subst eo4; rfl)
  have hD : va_D A (cLP kc a o4) := q_toD hD (by subst eo4; rfl)
  refine lv_if_eq (tgt := 30) hx hb dX3_kind_8 (by decide) (fun c5 => ?_) (fun c5 => ?_)
  · have h := br1 h c5
    refine lv_iconst (v := -1) hx hb dX3_kind_30 (by decide) ?_
    exact hret (-1) o4 H locs ls _ h hP hD hS dX3_kind_31
  · have h := br2 h c5
    refine lv_iload_n hx hb dX3_kind_11 rfl (lv_at hl 2 rfl) ?_
    refine lv_iconst (v := 0) hx hb dX3_kind_12 (by decide) ?_
    refine lv_bipush (v := 60) hx hb dX3_kind_13 (by decide) ?_
    refine q_cSi (As := [.int p2, .int 0, .int 60]) (rest := []) ⟨hx, hb, hml, hown, hts⟩ hK (c_X3_within l D kc p2 (0 : Int32) (60 : Int32) H.size _ h) (va_cwS 3 hts gX3_kind_X3_within rfl rfl rfl (by decide +kernel) ⟨Nat.le_of_ble_eq_true rfl, Nat.le_of_ble_eq_true rfl⟩) (cut_nil _) hP hD hS hA rfl hl.1 rfl (Nat.le_of_ble_eq_true rfl) dX3_kind_15 ⟨Nat.zero_le _, Nat.zero_le _⟩ (fun r6 _ H locs h hP hD hS => ?_)
    have hP : va_P D vwCl (cLP kc a o4) H := hP
    have hD : va_D A (cLP kc a o4) := hD
    refine lv_if_eq (tgt := 30) hx hb dX3_kind_18 (by decide) (fun c8 => ?_) (fun c8 => ?_)
    · have h := br1 h c8
      refine lv_iconst (v := -1) hx hb dX3_kind_30 (by decide) ?_
      exact hret (-1) o4 H locs ls _ h hP hD hS dX3_kind_31
    · have h := br2 h c8
      refine lv_iload_n hx hb dX3_kind_21 rfl (lv_at hl 3 rfl) ?_
      refine lv_iconst (v := 0) hx hb dX3_kind_22 (by decide) ?_
      refine lv_iconst (v := 1) hx hb dX3_kind_23 (by decide) ?_
      refine q_cSi (As := [.int p3, .int 0, .int 1]) (rest := []) ⟨hx, hb, hml, hown, hts⟩ hK (c_X3_within l D kc p3 (0 : Int32) (1 : Int32) H.size _ h) (va_cwS 3 hts gX3_kind_X3_within rfl rfl rfl (by decide +kernel) ⟨Nat.le_of_ble_eq_true rfl, Nat.le_of_ble_eq_true rfl⟩) (cut_nil _) hP hD hS hA rfl hl.1 rfl (Nat.le_of_ble_eq_true rfl) dX3_kind_24 ⟨Nat.zero_le _, Nat.zero_le _⟩ (fun r9 _ H locs h hP hD hS => ?_)
      have hP : va_P D vwCl (cLP kc a o4) H := hP
      have hD : va_D A (cLP kc a o4) := hD
      refine lv_if_ne (tgt := 32) hx hb dX3_kind_27 (by decide) (fun c11 => ?_) (fun c11 => ?_)
      · have h := br2 h c11
        refine lv_iconst (v := 0) hx hb dX3_kind_32 (by decide) ?_
        refine lv_istore (lv' := [(4, .int 0), (0, .ref (a 0 0)), (1, .int p1), (2, .int p2), (3, .int p3)]) hx hb dX3_kind_33 hl (by decide) rfl (fun ls hl => ?_)
        refine lv_iconst (v := -1) hx hb dX3_kind_35 (by decide) ?_
        refine lv_topi (fun x12 ex12 => ?_)
        have h := nm_out h x12 ex12
        refine lv_istore (lv' := [(5, .int x12), (4, .int 0), (0, .ref (a 0 0)), (1, .int p1), (2, .int p2), (3, .int p3)]) hx hb dX3_kind_36 hl (by decide) rfl (fun ls hl => ?_)
        refine lv_iconst (v := 0) hx hb dX3_kind_38 (by decide) ?_
        refine lv_istore (lv' := [(6, .int 0), (5, .int x12), (4, .int 0), (0, .ref (a 0 0)), (1, .int p1), (2, .int p2), (3, .int p3)]) hx hb dX3_kind_39 hl (by decide) rfl (fun ls hl => ?_)
        refine h (fun (i13 : Int32) (i14 : Int32) (i15 : Int32) (o16 : S3) => ∀ (ls : Array Slot) (H : Heap) (locs : List Loc), lv_has ls 7 [(0, .ref (a 0 0)), (1, .int p1), (2, .int p2), (3, .int p3), (4, .int i13), (5, .int i14), (6, .int i15)] → va_P D vwCl (cLP kc a o16) H → va_D A (cLP kc a o16) → va_S A s.heap H locs → W p l e rm_X3_kind s m args below meth c H locs 0 0 Q (F0 m 41 ls [])) ?_ ls H locs (lv_sub hl [3, 4, 5, 6, 2, 1, 0] rfl) hP hD hS
        intro i13 i14 i15 o16 h ls H locs hl hP hD hS
        refine lv_iload hx hb dX3_kind_41 (lv_at hl 6 rfl) ?_
        refine lv_iconst (v := 3) hx hb dX3_kind_43 (by decide) ?_
        refine lv_icmp_gt (tgt := 112) hx hb dX3_kind_44 (by decide) (fun c17 => ?_) (fun c17 => ?_)
        · have h := br1 h c17
          refine lv_iload_n hx hb dX3_kind_112 rfl (lv_at hl 3 rfl) ?_
          refine lv_if_ne (tgt := 121) hx hb dX3_kind_113 (by decide) (fun c18 => ?_) (fun c18 => ?_)
          · have h := br2 h c18
            refine lv_iload hx hb dX3_kind_121 (lv_at hl 5 rfl) ?_
            exact hret i14 o16 H locs ls _ h hP hD hS dX3_kind_123
          · have h := br1 h c18
            refine lv_iload hx hb dX3_kind_116 (lv_at hl 4 rfl) ?_
            refine lv_goto (tgt := 123) hx hb dX3_kind_118 (by decide) ?_
            exact hret i13 o16 H locs ls _ h hP hD hS dX3_kind_123
        · have h := br2 h c17
          refine lv_aload_n hx hb dX3_kind_47 rfl (lv_at hl 0 rfl) ?_
          refine va_get (D := D) (ci := 3) (v := .ref (a 2 0)) (C := RX3) (T := TX3) (N := 10) hx hb hts hi3 hown hK.1 hP 0 rfl rfl 2 (by decide) (hts (.fieldLink RX3 23 "LastPenny" "trial" "LLastPenny$World;") (by decide +kernel)) (fun _ h9 => h9) rfl dX3_kind_48 ?_
          refine lv_aload_n hx hb dX3_kind_51 rfl (lv_at hl 0 rfl) ?_
          refine va_get (D := D) (ci := 3) (v := .ref (a 1 0)) (C := RX3) (T := TX3) (N := 10) hx hb hts hi3 hown hK.1 hP 0 rfl rfl 1 (by decide) (hts (.fieldLink RX3 19 "LastPenny" "now" "LLastPenny$World;") (by decide +kernel)) (fun _ h9 => h9) rfl dX3_kind_52 ?_
          refine q_cVv (As := [.ref (a 1 0)]) (rest := []) ⟨hx, hb, hml, hown, hts⟩ hK (c_X2_become l D kc (a 2) (a 1) (o16 2) (o16 1) H.size _ h) (cwV 1 hts gX3_kind_X2_become rfl rfl rfl (by decide +kernel) ⟨Nat.le_of_ble_eq_true rfl, Nat.le_of_ble_eq_true rfl⟩) (cut_LP_2_1 D kc a o16) hP hD hS hA 2 0 rfl rfl rfl hl.1 rfl (Nat.le_of_ble_eq_true rfl) dX3_kind_55 ⟨Nat.zero_le _, Nat.zero_le _⟩ (fun u21 H locs h hP hD hS => ?_)
          obtain ⟨w19, v20⟩ := u21
          obtain ⟨o22, eo22⟩ : ∃ z, z = (va_up (va_up o16 2 w19) 1 v20) := ⟨_, rfl⟩
          have h := nm_out h o22 eo22
          have hP : va_P D vwCl (cLP kc a o22) H := q_to hP (by subst eo22; rfl)
          have hD : va_D A (cLP kc a o22) := q_toD hD (by subst eo22; rfl)
          refine lv_aload_n hx hb dX3_kind_58 rfl (lv_at hl 0 rfl) ?_
          refine va_get (D := D) (ci := 3) (v := .ref (a 2 0)) (C := RX3) (T := TX3) (N := 10) hx hb hts hi3 hown hK.1 hP 0 rfl rfl 2 (by decide) (hts (.fieldLink RX3 23 "LastPenny" "trial" "LLastPenny$World;") (by decide +kernel)) (fun _ h9 => h9) rfl dX3_kind_59 ?_
          refine va_get (D := D) (ci := 2) (v := .ref (a 2 1)) (C := RX2) (T := TX2) (N := 13) hx hb hts hi2 hown hK.1 hP 14 rfl rfl 6 (by decide) (hts (.fieldLink RX3 105 "LastPenny$World" "kindOf" "[I") (by decide +kernel)) (fun _ h9 => h9) rfl dX3_kind_62 ?_
          refine lv_iload_n hx hb dX3_kind_65 rfl (lv_at hl 1 rfl) ?_
          refine lv_iload hx hb dX3_kind_66 (lv_at hl 6 rfl) ?_
          obtain ⟨hi_23, h⟩ := h
          refine va_iast hx hb hK.1 hP hD hS 15 0 rfl rfl hi_23 dX3_kind_68 (fun H locs hP hD hS => ?_)
          obtain ⟨o24, eo24⟩ : ∃ z, z = (va_up o22 2 (va_up (o22 2) 1 (upd ((o22 2) 1) p1.toNatClampNeg i15))) := ⟨_, rfl⟩
          have h := nm_out h o24 eo24
          have hP : va_P D vwCl (cLP kc a o24) H := q_to hP (by subst eo24; rfl)
          have hD : va_D A (cLP kc a o24) := q_toD hD (by subst eo24; rfl)
          refine lv_aload_n hx hb dX3_kind_69 rfl (lv_at hl 0 rfl) ?_
          refine va_get (D := D) (ci := 3) (v := .ref (a 2 0)) (C := RX3) (T := TX3) (N := 10) hx hb hts hi3 hown hK.1 hP 0 rfl rfl 2 (by decide) (hts (.fieldLink RX3 23 "LastPenny" "trial" "LLastPenny$World;") (by decide +kernel)) (fun _ h9 => h9) rfl dX3_kind_70 ?_
          refine lv_iload_n hx hb dX3_kind_73 rfl (lv_at hl 2 rfl) ?_
          refine q_cVv (As := [.int p2]) (rest := []) ⟨hx, hb, hml, hown, hts⟩ hK (c_X2_pass l D kc (a 2) p2 (o24 2) H.size _ h) (cwV 1 hts gX3_kind_X2_pass rfl rfl rfl (by decide +kernel) ⟨Nat.le_of_ble_eq_true rfl, Nat.le_of_ble_eq_true rfl⟩) (cut_LP_2 D kc a o24) hP hD hS hA 2 0 rfl rfl rfl hl.1 rfl (Nat.le_of_ble_eq_true rfl) dX3_kind_74 ⟨Nat.zero_le _, Nat.zero_le _⟩ (fun u26 H locs h hP hD hS => ?_)
          obtain ⟨w25, rfl⟩ : ∃ z, z = u26 := ⟨_, rfl⟩
          obtain ⟨o27, eo27⟩ : ∃ z, z = (va_up o24 2 w25) := ⟨_, rfl⟩
          have h := nm_out h o27 eo27
          have hP : va_P D vwCl (cLP kc a o27) H := q_to hP (by subst eo27; rfl)
          have hD : va_D A (cLP kc a o27) := q_toD hD (by subst eo27; rfl)
          refine lv_aload_n hx hb dX3_kind_77 rfl (lv_at hl 0 rfl) ?_
          refine va_get (D := D) (ci := 3) (v := .ref (a 2 0)) (C := RX3) (T := TX3) (N := 10) hx hb hts hi3 hown hK.1 hP 0 rfl rfl 2 (by decide) (hts (.fieldLink RX3 23 "LastPenny" "trial" "LLastPenny$World;") (by decide +kernel)) (fun _ h9 => h9) rfl dX3_kind_78 ?_
          refine va_get (D := D) (ci := 2) (v := .ref (a 2 2)) (C := RX2) (T := TX2) (N := 13) hx hb hts hi2 hown hK.1 hP 14 rfl rfl 7 (by decide) (hts (.fieldLink RX3 108 "LastPenny$World" "meansOf" "[I") (by decide +kernel)) (fun _ h9 => h9) rfl dX3_kind_81 ?_
          refine lv_iload_n hx hb dX3_kind_84 rfl (lv_at hl 1 rfl) ?_
          obtain ⟨hi_28, h⟩ := h
          refine va_iald hx hb hK.1 hP 16 0 rfl rfl hi_28 dX3_kind_85 ?_
          refine lv_iload hx hb dX3_kind_86 (lv_at hl 5 rfl) ?_
          refine jn_elim h (fun J106 eJ106 h => ?_)
          have hJ_106 : ∀ (i29 : Int32) (i30 : Int32) (ls : Array Slot), J106 i29 i30 → lv_has ls 7 [(0, .ref (a 0 0)), (1, .int p1), (2, .int p2), (3, .int p3), (4, .int i29), (5, .int i30), (6, .int i15)] → W p l e rm_X3_kind s m args below meth c H locs 0 0 Q (F0 m 106 ls []) := by
            intro i29 i30 ls h hl
            subst eJ106
            obtain ⟨x31, ex31⟩ : ∃ z : Int32, z = i15 + 1 := ⟨_, rfl⟩
            have h := nm_out h x31 ex31
            refine lv_iinc (v := x31) (lv' := [(6, .int x31), (0, .ref (a 0 0)), (1, .int p1), (2, .int p2), (3, .int p3), (4, .int i29), (5, .int i30)]) hx hb dX3_kind_106 hl (k := 6) rfl (by rw [ex31]; rfl) (by decide) rfl (fun ls hl => ?_)
            refine lv_goto (tgt := 41) hx hb dX3_kind_109 (by decide) ?_
            exact h ls H locs (lv_sub hl [1, 2, 3, 4, 5, 6, 0] rfl) hP hD hS
          refine lv_icmp_le (tgt := 106) hx hb dX3_kind_88 (by decide) (fun c32 => ?_) (fun c32 => ?_)
          · have h := br1 h c32
            exact hJ_106 i13 i14 ls h (lv_sub hl [0, 1, 2, 3, 4, 5, 6] rfl)
          · have h := br2 h c32
            refine lv_iload hx hb dX3_kind_91 (lv_at hl 6 rfl) ?_
            refine lv_istore (lv' := [(4, .int i15), (0, .ref (a 0 0)), (1, .int p1), (2, .int p2), (3, .int p3), (5, .int i14), (6, .int i15)]) hx hb dX3_kind_93 hl (by decide) rfl (fun ls hl => ?_)
            refine lv_aload_n hx hb dX3_kind_95 rfl (lv_at hl 1 rfl) ?_
            refine va_get (D := D) (ci := 3) (v := .ref (a 2 0)) (C := RX3) (T := TX3) (N := 10) hx hb hts hi3 hown hK.1 hP 0 rfl rfl 2 (by decide) (hts (.fieldLink RX3 23 "LastPenny" "trial" "LLastPenny$World;") (by decide +kernel)) (fun _ h9 => h9) rfl dX3_kind_96 ?_
            refine va_get (D := D) (ci := 2) (v := .ref (a 2 2)) (C := RX2) (T := TX2) (N := 13) hx hb hts hi2 hown hK.1 hP 14 rfl rfl 7 (by decide) (hts (.fieldLink RX3 108 "LastPenny$World" "meansOf" "[I") (by decide +kernel)) (fun _ h9 => h9) rfl dX3_kind_99 ?_
            refine lv_iload_n hx hb dX3_kind_102 rfl (lv_at hl 2 rfl) ?_
            obtain ⟨hi_33, h⟩ := h
            refine va_iald hx hb hK.1 hP 16 0 rfl rfl hi_33 dX3_kind_103 ?_
            refine lv_topi (fun x34 ex34 => ?_)
            have h := nm_out h x34 ex34
            refine lv_istore (lv' := [(5, .int x34), (4, .int i15), (0, .ref (a 0 0)), (1, .int p1), (2, .int p2), (3, .int p3), (6, .int i15)]) hx hb dX3_kind_104 hl (by decide) rfl (fun ls hl => ?_)
            exact hJ_106 i15 x34 ls h (lv_sub hl [2, 3, 4, 5, 1, 0, 6] rfl)
      · have h := br1 h c11
        refine lv_iconst (v := -1) hx hb dX3_kind_30 (by decide) ?_
        exact hret (-1) o4 H locs ls _ h hP hD hS dX3_kind_31

def w_X3_alms (p1 : Int32) (p2 : Int32) (o : S3) (K : Int32 → S3 → Prop) : Prop := w_X2_has p1 (o 1) (fun r2 w1 => nm ((va_up o 1 w1) : S3) (fun o4 => br (r2 = 0) (K (-1) o4) (w_X3_within p2 (0 : Int32) (60 : Int32) (fun r6 => br (r6 = 0) (K (-1) o4) (lfp2 (fun G25 (i9 : Int32) (o10 : S3) => br (99 < i9) (K (-4) o10) (w_X2_become (o10 2) (o10 1) (fun w12 v13 => nm ((va_up (va_up o10 2 w12) 1 v13) : S3) (fun o15 => vp_in p1 5 ∧ (w_X3_bounded ((o15 1 2 p1.toNatClampNeg) + i9) (fun r17 => vp_in p1 5 ∧ (nm ((va_up o15 2 (va_up (o15 2) 2 (upd ((o15 2) 2) p1.toNatClampNeg r17))) : S3) (fun o20 => w_X2_staysUp p1 p2 (o20 2) (fun r22 w21 => nm ((va_up o20 2 w21) : S3) (fun o24 => br (r22 = 0) (nm (i9 + 1 : Int32) (fun x26 => G25 x26 o24)) (K i9 o24))))))))))) 0 o4)))))
abbrev rm_X3_alms : Room := { frames := 4, cells := 0, slots := 0, locals := 130 }
set_option maxHeartbeats 4000000 in
set_option maxRecDepth 100000 in
theorem c_X3_alms (l : Launch) (D : va_G) (kc : Nat → ClassId) (a : Nat → Nat → Nat) (p1 : Int32) (p2 : Int32) (o : S3) (sz : Nat) (K : Int32 → S3 → Prop) (h : w_X3_alms p1 p2 o K) : MetI l yX3_alms wsX3_alms rm_X3_alms D kc (fun u : S3 => cLP kc a u) o [.ref (a 0 0), .int p1, .int p2] sz (fun r u => K r u) := by
  refine q_ei (code := cX3_alms) (maxL := 4) (by decide) rfl (Nat.le_of_ble_eq_true rfl) ?_
  intro p e s m args below meth c Q A hx hb hml hts hown hK hA hret ls hl hP hD hS
  have hown : s.vm.findClass RX3 = some m.cls := hown
  have hl : lv_has ls 4 [(0, .ref (a 0 0)), (1, .int p1), (2, .int p2)] := hl
  have hP : va_P D vwCl (cLP kc a o) s.heap := hP
  have hD : va_D A (cLP kc a o) := hD
  have hS : va_S A s.heap s.heap [] := hS
  obtain ⟨H, eH⟩ : ∃ z, z = s.heap := ⟨_, rfl⟩
  obtain ⟨locs, eL⟩ : ∃ z : List Loc, z = [] := ⟨_, rfl⟩
  have hP := q_heap hP eH
  have hS := q_heapS hS eH eL
  refine q_start eH eL ?_
  clear eH eL
  have hi2 : ∀ w ∈ u_ws RX2 TX2 13, w ∈ wsX3_alms := by decide +kernel
  have hi3 : ∀ w ∈ u_ws RX3 TX3 10, w ∈ wsX3_alms := by decide +kernel
  unfold w_X3_alms at h
  refine lv_aload_n hx hb dX3_alms_0 rfl (lv_at hl 0 rfl) ?_
  refine va_get (D := D) (ci := 3) (v := .ref (a 1 0)) (C := RX3) (T := TX3) (N := 10) hx hb hts hi3 hown hK.1 hP 0 rfl rfl 1 (by decide) (hts (.fieldLink RX3 19 "LastPenny" "now" "LLastPenny$World;") (by decide +kernel)) (fun _ h9 => h9) rfl dX3_alms_1 ?_
  refine lv_iload_n hx hb dX3_alms_4 rfl (lv_at hl 1 rfl) ?_
  refine q_cVi (As := [.int p1]) (rest := []) ⟨hx, hb, hml, hown, hts⟩ hK (c_X2_has l D kc (a 1) p1 (o 1) H.size _ h) (cwV 1 hts gX3_alms_X2_has rfl rfl rfl (by decide +kernel) ⟨Nat.le_of_ble_eq_true rfl, Nat.le_of_ble_eq_true rfl⟩) (cut_LP_1 D kc a o) hP hD hS hA 2 0 rfl rfl rfl hl.1 rfl (Nat.le_of_ble_eq_true rfl) dX3_alms_5 ⟨Nat.zero_le _, Nat.zero_le _⟩ (fun r2 u3 H locs h hP hD hS => ?_)
  obtain ⟨w1, rfl⟩ : ∃ z, z = u3 := ⟨_, rfl⟩
  obtain ⟨o4, eo4⟩ : ∃ z, z = (va_up o 1 w1) := ⟨_, rfl⟩
  have h := nm_out h o4 eo4
  have hP : va_P D vwCl (cLP kc a o4) H := q_to hP (by subst eo4; rfl)
  have hD : va_D A (cLP kc a o4) := q_toD hD (by subst eo4; rfl)
  refine lv_if_eq (tgt := 21) hx hb dX3_alms_8 (by decide) (fun c5 => ?_) (fun c5 => ?_)
  · have h := br1 h c5
    refine lv_iconst (v := -1) hx hb dX3_alms_21 (by decide) ?_
    exact hret (-1) o4 H locs ls _ h hP hD hS dX3_alms_22
  · have h := br2 h c5
    refine lv_iload_n hx hb dX3_alms_11 rfl (lv_at hl 2 rfl) ?_
    refine lv_iconst (v := 0) hx hb dX3_alms_12 (by decide) ?_
    refine lv_bipush (v := 60) hx hb dX3_alms_13 (by decide) ?_
    refine q_cSi (As := [.int p2, .int 0, .int 60]) (rest := []) ⟨hx, hb, hml, hown, hts⟩ hK (c_X3_within l D kc p2 (0 : Int32) (60 : Int32) H.size _ h) (va_cwS 3 hts gX3_alms_X3_within rfl rfl rfl (by decide +kernel) ⟨Nat.le_of_ble_eq_true rfl, Nat.le_of_ble_eq_true rfl⟩) (cut_nil _) hP hD hS hA rfl hl.1 rfl (Nat.le_of_ble_eq_true rfl) dX3_alms_15 ⟨Nat.zero_le _, Nat.zero_le _⟩ (fun r6 _ H locs h hP hD hS => ?_)
    have hP : va_P D vwCl (cLP kc a o4) H := hP
    have hD : va_D A (cLP kc a o4) := hD
    refine lv_if_ne (tgt := 23) hx hb dX3_alms_18 (by decide) (fun c8 => ?_) (fun c8 => ?_)
    · have h := br2 h c8
      refine lv_iconst (v := 0) hx hb dX3_alms_23 (by decide) ?_
      refine lv_istore_n (lv' := [(3, .int 0), (0, .ref (a 0 0)), (1, .int p1), (2, .int p2)]) hx hb dX3_alms_24 rfl hl (by decide) rfl (fun ls hl => ?_)
      refine h (fun (i9 : Int32) (o10 : S3) => ∀ (ls : Array Slot) (H : Heap) (locs : List Loc), lv_has ls 4 [(0, .ref (a 0 0)), (1, .int p1), (2, .int p2), (3, .int i9)] → va_P D vwCl (cLP kc a o10) H → va_D A (cLP kc a o10) → va_S A s.heap H locs → W p l e rm_X3_alms s m args below meth c H locs 0 0 Q (F0 m 25 ls [])) ?_ ls H locs (lv_sub hl [1, 2, 3, 0] rfl) hP hD hS
      intro i9 o10 h ls H locs hl hP hD hS
      refine lv_iload_n hx hb dX3_alms_25 rfl (lv_at hl 3 rfl) ?_
      refine lv_bipush (v := 99) hx hb dX3_alms_26 (by decide) ?_
      refine lv_icmp_gt (tgt := 85) hx hb dX3_alms_28 (by decide) (fun c11 => ?_) (fun c11 => ?_)
      · have h := br1 h c11
        refine lv_bipush (v := -4) hx hb dX3_alms_85 (by decide) ?_
        exact hret (-4) o10 H locs ls _ h hP hD hS dX3_alms_87
      · have h := br2 h c11
        refine lv_aload_n hx hb dX3_alms_31 rfl (lv_at hl 0 rfl) ?_
        refine va_get (D := D) (ci := 3) (v := .ref (a 2 0)) (C := RX3) (T := TX3) (N := 10) hx hb hts hi3 hown hK.1 hP 0 rfl rfl 2 (by decide) (hts (.fieldLink RX3 23 "LastPenny" "trial" "LLastPenny$World;") (by decide +kernel)) (fun _ h9 => h9) rfl dX3_alms_32 ?_
        refine lv_aload_n hx hb dX3_alms_35 rfl (lv_at hl 0 rfl) ?_
        refine va_get (D := D) (ci := 3) (v := .ref (a 1 0)) (C := RX3) (T := TX3) (N := 10) hx hb hts hi3 hown hK.1 hP 0 rfl rfl 1 (by decide) (hts (.fieldLink RX3 19 "LastPenny" "now" "LLastPenny$World;") (by decide +kernel)) (fun _ h9 => h9) rfl dX3_alms_36 ?_
        refine q_cVv (As := [.ref (a 1 0)]) (rest := []) ⟨hx, hb, hml, hown, hts⟩ hK (c_X2_become l D kc (a 2) (a 1) (o10 2) (o10 1) H.size _ h) (cwV 1 hts gX3_alms_X2_become rfl rfl rfl (by decide +kernel) ⟨Nat.le_of_ble_eq_true rfl, Nat.le_of_ble_eq_true rfl⟩) (cut_LP_2_1 D kc a o10) hP hD hS hA 2 0 rfl rfl rfl hl.1 rfl (Nat.le_of_ble_eq_true rfl) dX3_alms_39 ⟨Nat.zero_le _, Nat.zero_le _⟩ (fun u14 H locs h hP hD hS => ?_)
        obtain ⟨w12, v13⟩ := u14
        obtain ⟨o15, eo15⟩ : ∃ z, z = (va_up (va_up o10 2 w12) 1 v13) := ⟨_, rfl⟩
        have h := nm_out h o15 eo15
        have hP : va_P D vwCl (cLP kc a o15) H := q_to hP (by subst eo15; rfl)
        have hD : va_D A (cLP kc a o15) := q_toD hD (by subst eo15; rfl)
        refine lv_aload_n hx hb dX3_alms_42 rfl (lv_at hl 0 rfl) ?_
        refine va_get (D := D) (ci := 3) (v := .ref (a 2 0)) (C := RX3) (T := TX3) (N := 10) hx hb hts hi3 hown hK.1 hP 0 rfl rfl 2 (by decide) (hts (.fieldLink RX3 23 "LastPenny" "trial" "LLastPenny$World;") (by decide +kernel)) (fun _ h9 => h9) rfl dX3_alms_43 ?_
        refine va_get (D := D) (ci := 2) (v := .ref (a 2 2)) (C := RX2) (T := TX2) (N := 13) hx hb hts hi2 hown hK.1 hP 14 rfl rfl 7 (by decide) (hts (.fieldLink RX3 108 "LastPenny$World" "meansOf" "[I") (by decide +kernel)) (fun _ h9 => h9) rfl dX3_alms_46 ?_
        refine lv_iload_n hx hb dX3_alms_49 rfl (lv_at hl 1 rfl) ?_
        refine lv_aload_n hx hb dX3_alms_50 rfl (lv_at hl 0 rfl) ?_
        refine va_get (D := D) (ci := 3) (v := .ref (a 1 0)) (C := RX3) (T := TX3) (N := 10) hx hb hts hi3 hown hK.1 hP 0 rfl rfl 1 (by decide) (hts (.fieldLink RX3 19 "LastPenny" "now" "LLastPenny$World;") (by decide +kernel)) (fun _ h9 => h9) rfl dX3_alms_51 ?_
        refine va_get (D := D) (ci := 2) (v := .ref (a 1 2)) (C := RX2) (T := TX2) (N := 13) hx hb hts hi2 hown hK.1 hP 6 rfl rfl 7 (by decide) (hts (.fieldLink RX3 108 "LastPenny$World" "meansOf" "[I") (by decide +kernel)) (fun _ h9 => h9) rfl dX3_alms_54 ?_
        refine lv_iload_n hx hb dX3_alms_57 rfl (lv_at hl 1 rfl) ?_
        obtain ⟨hi_16, h⟩ := h
        refine va_iald hx hb hK.1 hP 8 0 rfl rfl hi_16 dX3_alms_58 ?_
        refine lv_iload_n hx hb dX3_alms_59 rfl (lv_at hl 3 rfl) ?_
        refine lv_iadd hx hb dX3_alms_60 ?_
        refine q_cSi (As := [.int ((o15 1 2 p1.toNatClampNeg) + i9)]) (rest := [.int p1, .ref (a 2 2)]) ⟨hx, hb, hml, hown, hts⟩ hK (c_X3_bounded l D kc ((o15 1 2 p1.toNatClampNeg) + i9) H.size _ h) (va_cwS 1 hts gX3_alms_X3_bounded rfl rfl rfl (by decide +kernel) ⟨Nat.le_of_ble_eq_true rfl, Nat.le_of_ble_eq_true rfl⟩) (cut_nil _) hP hD hS hA rfl hl.1 rfl (Nat.le_of_ble_eq_true rfl) dX3_alms_61 ⟨Nat.zero_le _, Nat.zero_le _⟩ (fun r17 _ H locs h hP hD hS => ?_)
        have hP : va_P D vwCl (cLP kc a o15) H := hP
        have hD : va_D A (cLP kc a o15) := hD
        obtain ⟨hi_19, h⟩ := h
        refine va_iast hx hb hK.1 hP hD hS 16 0 rfl rfl hi_19 dX3_alms_64 (fun H locs hP hD hS => ?_)
        obtain ⟨o20, eo20⟩ : ∃ z, z = (va_up o15 2 (va_up (o15 2) 2 (upd ((o15 2) 2) p1.toNatClampNeg r17))) := ⟨_, rfl⟩
        have h := nm_out h o20 eo20
        have hP : va_P D vwCl (cLP kc a o20) H := q_to hP (by subst eo20; rfl)
        have hD : va_D A (cLP kc a o20) := q_toD hD (by subst eo20; rfl)
        refine lv_aload_n hx hb dX3_alms_65 rfl (lv_at hl 0 rfl) ?_
        refine va_get (D := D) (ci := 3) (v := .ref (a 2 0)) (C := RX3) (T := TX3) (N := 10) hx hb hts hi3 hown hK.1 hP 0 rfl rfl 2 (by decide) (hts (.fieldLink RX3 23 "LastPenny" "trial" "LLastPenny$World;") (by decide +kernel)) (fun _ h9 => h9) rfl dX3_alms_66 ?_
        refine lv_iload_n hx hb dX3_alms_69 rfl (lv_at hl 1 rfl) ?_
        refine lv_iload_n hx hb dX3_alms_70 rfl (lv_at hl 2 rfl) ?_
        refine q_cVi (As := [.int p1, .int p2]) (rest := []) ⟨hx, hb, hml, hown, hts⟩ hK (c_X2_staysUp l D kc (a 2) p1 p2 (o20 2) H.size _ h) (cwV 2 hts gX3_alms_X2_staysUp rfl rfl rfl (by decide +kernel) ⟨Nat.le_of_ble_eq_true rfl, Nat.le_of_ble_eq_true rfl⟩) (cut_LP_2 D kc a o20) hP hD hS hA 2 0 rfl rfl rfl hl.1 rfl (Nat.le_of_ble_eq_true rfl) dX3_alms_71 ⟨Nat.zero_le _, Nat.zero_le _⟩ (fun r22 u23 H locs h hP hD hS => ?_)
        obtain ⟨w21, rfl⟩ : ∃ z, z = u23 := ⟨_, rfl⟩
        obtain ⟨o24, eo24⟩ : ∃ z, z = (va_up o20 2 w21) := ⟨_, rfl⟩
        have h := nm_out h o24 eo24
        have hP : va_P D vwCl (cLP kc a o24) H := q_to hP (by subst eo24; rfl)
        have hD : va_D A (cLP kc a o24) := q_toD hD (by subst eo24; rfl)
        refine lv_if_eq (tgt := 79) hx hb dX3_alms_74 (by decide) (fun c25 => ?_) (fun c25 => ?_)
        · have h := br1 h c25
          obtain ⟨x26, ex26⟩ : ∃ z : Int32, z = i9 + 1 := ⟨_, rfl⟩
          have h := nm_out h x26 ex26
          refine lv_iinc (v := x26) (lv' := [(3, .int x26), (0, .ref (a 0 0)), (1, .int p1), (2, .int p2)]) hx hb dX3_alms_79 hl (k := 3) rfl (by rw [ex26]; rfl) (by decide) rfl (fun ls hl => ?_)
          refine lv_goto (tgt := 25) hx hb dX3_alms_82 (by decide) ?_
          exact h ls H locs (lv_sub hl [1, 2, 3, 0] rfl) hP hD hS
        · have h := br2 h c25
          refine lv_iload_n hx hb dX3_alms_77 rfl (lv_at hl 3 rfl) ?_
          exact hret i9 o24 H locs ls _ h hP hD hS dX3_alms_78
    · have h := br1 h c8
      refine lv_iconst (v := -1) hx hb dX3_alms_21 (by decide) ?_
      exact hret (-1) o4 H locs ls _ h hP hD hS dX3_alms_22

def w_X3_ruinedBehind (p1 : Int32) (o : S3) (K : Int32 → S3 → Prop) : Prop := w_X2_become (o 2) (o 1) (fun w1 v2 => nm ((va_up (va_up o 2 w1) 1 v2) : S3) (fun o4 => w_X2_pass p1 (o4 2) (fun w5 => nm ((va_up o4 2 w5) : S3) (fun o7 => w_X2_ruinedCount (o7 2) (fun r9 w8 => nm ((va_up o7 2 w8) : S3) (fun o11 => K r9 o11))))))
abbrev rm_X3_ruinedBehind : Room := { frames := 4, cells := 0, slots := 0, locals := 129 }
set_option maxHeartbeats 4000000 in
set_option maxRecDepth 100000 in
theorem c_X3_ruinedBehind (l : Launch) (D : va_G) (kc : Nat → ClassId) (a : Nat → Nat → Nat) (p1 : Int32) (o : S3) (sz : Nat) (K : Int32 → S3 → Prop) (h : w_X3_ruinedBehind p1 o K) : MetI l yX3_ruinedBehind wsX3_ruinedBehind rm_X3_ruinedBehind D kc (fun u : S3 => cLP kc a u) o [.ref (a 0 0), .int p1] sz (fun r u => K r u) := by
  refine q_ei (code := cX3_ruinedBehind) (maxL := 2) (by decide) rfl (Nat.le_of_ble_eq_true rfl) ?_
  intro p e s m args below meth c Q A hx hb hml hts hown hK hA hret ls hl hP hD hS
  have hown : s.vm.findClass RX3 = some m.cls := hown
  have hl : lv_has ls 2 [(0, .ref (a 0 0)), (1, .int p1)] := hl
  have hP : va_P D vwCl (cLP kc a o) s.heap := hP
  have hD : va_D A (cLP kc a o) := hD
  have hS : va_S A s.heap s.heap [] := hS
  obtain ⟨H, eH⟩ : ∃ z, z = s.heap := ⟨_, rfl⟩
  obtain ⟨locs, eL⟩ : ∃ z : List Loc, z = [] := ⟨_, rfl⟩
  have hP := q_heap hP eH
  have hS := q_heapS hS eH eL
  refine q_start eH eL ?_
  clear eH eL
  have hi3 : ∀ w ∈ u_ws RX3 TX3 10, w ∈ wsX3_ruinedBehind := by decide +kernel
  unfold w_X3_ruinedBehind at h
  refine lv_aload_n hx hb dX3_ruinedBehind_0 rfl (lv_at hl 0 rfl) ?_
  refine va_get (D := D) (ci := 3) (v := .ref (a 2 0)) (C := RX3) (T := TX3) (N := 10) hx hb hts hi3 hown hK.1 hP 0 rfl rfl 2 (by decide) (hts (.fieldLink RX3 23 "LastPenny" "trial" "LLastPenny$World;") (by decide +kernel)) (fun _ h9 => h9) rfl dX3_ruinedBehind_1 ?_
  refine lv_aload_n hx hb dX3_ruinedBehind_4 rfl (lv_at hl 0 rfl) ?_
  refine va_get (D := D) (ci := 3) (v := .ref (a 1 0)) (C := RX3) (T := TX3) (N := 10) hx hb hts hi3 hown hK.1 hP 0 rfl rfl 1 (by decide) (hts (.fieldLink RX3 19 "LastPenny" "now" "LLastPenny$World;") (by decide +kernel)) (fun _ h9 => h9) rfl dX3_ruinedBehind_5 ?_
  refine q_cVv (As := [.ref (a 1 0)]) (rest := []) ⟨hx, hb, hml, hown, hts⟩ hK (c_X2_become l D kc (a 2) (a 1) (o 2) (o 1) H.size _ h) (cwV 1 hts gX3_ruinedBehind_X2_become rfl rfl rfl (by decide +kernel) ⟨Nat.le_of_ble_eq_true rfl, Nat.le_of_ble_eq_true rfl⟩) (cut_LP_2_1 D kc a o) hP hD hS hA 2 0 rfl rfl rfl hl.1 rfl (Nat.le_of_ble_eq_true rfl) dX3_ruinedBehind_8 ⟨Nat.zero_le _, Nat.zero_le _⟩ (fun u3 H locs h hP hD hS => ?_)
  obtain ⟨w1, v2⟩ := u3
  obtain ⟨o4, eo4⟩ : ∃ z, z = (va_up (va_up o 2 w1) 1 v2) := ⟨_, rfl⟩
  have h := nm_out h o4 eo4
  have hP : va_P D vwCl (cLP kc a o4) H := q_to hP (by subst eo4; rfl)
  have hD : va_D A (cLP kc a o4) := q_toD hD (by subst eo4; rfl)
  refine lv_aload_n hx hb dX3_ruinedBehind_11 rfl (lv_at hl 0 rfl) ?_
  refine va_get (D := D) (ci := 3) (v := .ref (a 2 0)) (C := RX3) (T := TX3) (N := 10) hx hb hts hi3 hown hK.1 hP 0 rfl rfl 2 (by decide) (hts (.fieldLink RX3 23 "LastPenny" "trial" "LLastPenny$World;") (by decide +kernel)) (fun _ h9 => h9) rfl dX3_ruinedBehind_12 ?_
  refine lv_iload_n hx hb dX3_ruinedBehind_15 rfl (lv_at hl 1 rfl) ?_
  refine q_cVv (As := [.int p1]) (rest := []) ⟨hx, hb, hml, hown, hts⟩ hK (c_X2_pass l D kc (a 2) p1 (o4 2) H.size _ h) (cwV 1 hts gX3_ruinedBehind_X2_pass rfl rfl rfl (by decide +kernel) ⟨Nat.le_of_ble_eq_true rfl, Nat.le_of_ble_eq_true rfl⟩) (cut_LP_2 D kc a o4) hP hD hS hA 2 0 rfl rfl rfl hl.1 rfl (Nat.le_of_ble_eq_true rfl) dX3_ruinedBehind_16 ⟨Nat.zero_le _, Nat.zero_le _⟩ (fun u6 H locs h hP hD hS => ?_)
  obtain ⟨w5, rfl⟩ : ∃ z, z = u6 := ⟨_, rfl⟩
  obtain ⟨o7, eo7⟩ : ∃ z, z = (va_up o4 2 w5) := ⟨_, rfl⟩
  have h := nm_out h o7 eo7
  have hP : va_P D vwCl (cLP kc a o7) H := q_to hP (by subst eo7; rfl)
  have hD : va_D A (cLP kc a o7) := q_toD hD (by subst eo7; rfl)
  refine lv_aload_n hx hb dX3_ruinedBehind_19 rfl (lv_at hl 0 rfl) ?_
  refine va_get (D := D) (ci := 3) (v := .ref (a 2 0)) (C := RX3) (T := TX3) (N := 10) hx hb hts hi3 hown hK.1 hP 0 rfl rfl 2 (by decide) (hts (.fieldLink RX3 23 "LastPenny" "trial" "LLastPenny$World;") (by decide +kernel)) (fun _ h9 => h9) rfl dX3_ruinedBehind_20 ?_
  refine q_cVi (As := []) (rest := []) ⟨hx, hb, hml, hown, hts⟩ hK (c_X2_ruinedCount l D kc (a 2) (o7 2) H.size _ h) (cwV 0 hts gX3_ruinedBehind_X2_ruinedCount rfl rfl rfl (by decide +kernel) ⟨Nat.le_of_ble_eq_true rfl, Nat.le_of_ble_eq_true rfl⟩) (cut_LP_2 D kc a o7) hP hD hS hA 2 0 rfl rfl rfl hl.1 rfl (Nat.le_of_ble_eq_true rfl) dX3_ruinedBehind_23 ⟨Nat.zero_le _, Nat.zero_le _⟩ (fun r9 u10 H locs h hP hD hS => ?_)
  obtain ⟨w8, rfl⟩ : ∃ z, z = u10 := ⟨_, rfl⟩
  obtain ⟨o11, eo11⟩ : ∃ z, z = (va_up o7 2 w8) := ⟨_, rfl⟩
  have h := nm_out h o11 eo11
  have hP : va_P D vwCl (cLP kc a o11) H := q_to hP (by subst eo11; rfl)
  have hD : va_D A (cLP kc a o11) := q_toD hD (by subst eo11; rfl)
  exact hret r9 o11 H locs ls _ h hP hD hS dX3_ruinedBehind_26

