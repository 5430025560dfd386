def w_X3_drop (p1 : Int32) (o : S3) (K : Int32 → S3 → Prop) : Prop := w_X3_within p1 (0 : Int32) (o 1 0 4) (fun r1 => br (r1 = 0) (K (-1) o) (nm ((o 1 0 4) : Int32) (fun x4 => nm ((va_up o 1 (va_up (o 1) 0 (upd ((o 1) 0) 4 p1))) : S3) (fun o5 => K x4 o5))))
abbrev rm_X3_drop : Room := { frames := 1, cells := 0, slots := 0, locals := 22 }
set_option maxHeartbeats 4000000 in
set_option maxRecDepth 100000 in
theorem c_X3_drop (l : Launch) (D : va_G) (kc : Nat → ClassId) (a : Nat → Nat → Nat) (p1 : Int32) (o : S3) (sz : Nat) (K : Int32 → S3 → Prop) (h : w_X3_drop p1 o K) : MetI l yX3_drop wsX3_drop rm_X3_drop D kc (fun u : S3 => cLP kc a u) o [.ref (a 0 0), .int p1] sz (fun r u => K r u) := by
  refine q_ei (code := cX3_drop) (maxL := 3) (by decide) rfl (Nat.le_of_ble_eq_true rfl) ?_
  intro p e s m args below meth c Q A hx hb hml hts hown hK hA hret ls hl hP hD hS
  have hown : s.vm.findClass RX3 = some m.cls := hown
  have hl : lv_has ls 3 [(0, .ref (a 0 0)), (1, .int p1)] := hl
  have hP : va_P D vwCl (cLP kc a o) s.heap := hP
  have hD : va_D A (cLP kc a o) := hD
  have hS : va_S A s.heap s.heap [] := hS
  obtain ⟨H, eH⟩ : ∃ z, z = s.heap := ⟨_, rfl⟩
  obtain ⟨locs, eL⟩ : ∃ z : List Loc, z = [] := ⟨_, rfl⟩
  have hP := q_heap hP eH
  have hS := q_heapS hS eH eL
  refine q_start eH eL ?_
  clear eH eL
  have hi2 : ∀ w ∈ u_ws RX2 TX2 13, w ∈ wsX3_drop := by decide +kernel
  have hi3 : ∀ w ∈ u_ws RX3 TX3 10, w ∈ wsX3_drop := by decide +kernel
  unfold w_X3_drop at h
  refine lv_iload_n hx hb dX3_drop_0 rfl (lv_at hl 1 rfl) ?_
  refine lv_iconst (v := 0) hx hb dX3_drop_1 (by decide) ?_
  refine lv_aload_n hx hb dX3_drop_2 rfl (lv_at hl 0 rfl) ?_
  refine va_get (D := D) (ci := 3) (v := .ref (a 1 0)) (C := RX3) (T := TX3) (N := 10) hx hb hts hi3 hown hK.1 hP 0 rfl rfl 1 (by decide) (hts (.fieldLink RX3 19 "LastPenny" "now" "LLastPenny$World;") (by decide +kernel)) (fun _ h9 => h9) rfl dX3_drop_3 ?_
  refine va_get (D := D) (ci := 2) (v := .int (o 1 0 4)) (C := RX2) (T := TX2) (N := 13) hx hb hts hi2 hown hK.1 hP 6 rfl rfl 4 (by decide) (hts (.fieldLink RX3 99 "LastPenny$World" "gifts" "I") (by decide +kernel)) (fun _ h9 => h9) rfl dX3_drop_6 ?_
  refine q_cSi (As := [.int p1, .int 0, .int (o 1 0 4)]) (rest := []) ⟨hx, hb, hml, hown, hts⟩ hK (c_X3_within l D kc p1 (0 : Int32) (o 1 0 4) H.size _ h) (va_cwS 3 hts gX3_drop_X3_within rfl rfl rfl (by decide +kernel) ⟨Nat.le_of_ble_eq_true rfl, Nat.le_of_ble_eq_true rfl⟩) (cut_nil _) hP hD hS hA rfl hl.1 rfl (Nat.le_of_ble_eq_true rfl) dX3_drop_9 ⟨Nat.zero_le _, Nat.zero_le _⟩ (fun r1 _ H locs h hP hD hS => ?_)
  have hP : va_P D vwCl (cLP kc a o) H := hP
  have hD : va_D A (cLP kc a o) := hD
  refine lv_if_ne (tgt := 17) hx hb dX3_drop_12 (by decide) (fun c3 => ?_) (fun c3 => ?_)
  · have h := br2 h c3
    refine lv_aload_n hx hb dX3_drop_17 rfl (lv_at hl 0 rfl) ?_
    refine va_get (D := D) (ci := 3) (v := .ref (a 1 0)) (C := RX3) (T := TX3) (N := 10) hx hb hts hi3 hown hK.1 hP 0 rfl rfl 1 (by decide) (hts (.fieldLink RX3 19 "LastPenny" "now" "LLastPenny$World;") (by decide +kernel)) (fun _ h9 => h9) rfl dX3_drop_18 ?_
    refine va_get (D := D) (ci := 2) (v := .int (o 1 0 4)) (C := RX2) (T := TX2) (N := 13) hx hb hts hi2 hown hK.1 hP 6 rfl rfl 4 (by decide) (hts (.fieldLink RX3 99 "LastPenny$World" "gifts" "I") (by decide +kernel)) (fun _ h9 => h9) rfl dX3_drop_21 ?_
    refine lv_topi (fun x4 ex4 => ?_)
    have h := nm_out h x4 ex4
    refine lv_istore_n (lv' := [(2, .int x4), (0, .ref (a 0 0)), (1, .int p1)]) hx hb dX3_drop_24 rfl hl (by decide) rfl (fun ls hl => ?_)
    refine lv_aload_n hx hb dX3_drop_25 rfl (lv_at hl 1 rfl) ?_
    refine va_get (D := D) (ci := 3) (v := .ref (a 1 0)) (C := RX3) (T := TX3) (N := 10) hx hb hts hi3 hown hK.1 hP 0 rfl rfl 1 (by decide) (hts (.fieldLink RX3 19 "LastPenny" "now" "LLastPenny$World;") (by decide +kernel)) (fun _ h9 => h9) rfl dX3_drop_26 ?_
    refine lv_iload_n hx hb dX3_drop_29 rfl (lv_at hl 2 rfl) ?_
    refine va_put (D := D) (ci := 2) (v := .int p1) (ty := .int) (C := RX2) (T := TX2) (N := 13) hx hb hts hi2 tyX2 tyX2_ok nmX2 hown hK.1 hP hD hS 6 rfl rfl 4 (by decide) (hts (.fieldLink RX3 99 "LastPenny$World" "gifts" "I") (by decide +kernel)) (fun _ h9 => h9) rfl (by decide +kernel) rfl rfl (Nat.le_of_ble_eq_true rfl) dX3_drop_30 (fun H locs hP hD hS => ?_)
    obtain ⟨o5, eo5⟩ : ∃ z, z = (va_up o 1 (va_up (o 1) 0 (upd ((o 1) 0) 4 p1))) := ⟨_, rfl⟩
    have h := nm_out h o5 eo5
    have hP : va_P D vwCl (cLP kc a o5) H := q_to hP (by subst eo5; rfl)
    have hD : va_D A (cLP kc a o5) := q_toD hD (by subst eo5; rfl)
    refine lv_iload_n hx hb dX3_drop_33 rfl (lv_at hl 0 rfl) ?_
    exact hret x4 o5 H locs ls _ h hP hD hS dX3_drop_34
  · have h := br1 h c3
    refine lv_iconst (v := -1) hx hb dX3_drop_15 (by decide) ?_
    exact hret (-1) o H locs ls _ h hP hD hS dX3_drop_16

def w_X3_quarters (p1 : Int32) (o : S3) (K : Int32 → S3 → Prop) : Prop := w_X3_within p1 (0 : Int32) (30 : Int32) (fun r1 => br (r1 = 0) (K (-1) o) (br (((o 1 0 1) + p1) ≤ 999) (w_X2_pass p1 (o 1) (fun w5 => nm ((va_up o 1 w5) : S3) (fun o7 => w_X2_holderOrNone (o7 1) (fun r9 w8 => nm ((va_up o7 1 w8) : S3) (fun o11 => K r9 o11))))) (K (-3) o)))
abbrev rm_X3_quarters : Room := { frames := 4, cells := 0, slots := 0, locals := 129 }
set_option maxHeartbeats 4000000 in
set_option maxRecDepth 100000 in
theorem c_X3_quarters (l : Launch) (D : va_G) (kc : Nat → ClassId) (a : Nat → Nat → Nat) (p1 : Int32) (o : S3) (sz : Nat) (K : Int32 → S3 → Prop) (h : w_X3_quarters p1 o K) : MetI l yX3_quarters wsX3_quarters rm_X3_quarters D kc (fun u : S3 => cLP kc a u) o [.ref (a 0 0), .int p1] sz (fun r u => K r u) := by
  refine q_ei (code := cX3_quarters) (maxL := 2) (by decide) rfl (Nat.le_of_ble_eq_true rfl) ?_
  intro p e s m args below meth c Q A hx hb hml hts hown hK hA hret ls hl hP hD hS
  have hown : s.vm.findClass RX3 = some m.cls := hown
  have hl : lv_has ls 2 [(0, .ref (a 0 0)), (1, .int p1)] := hl
  have hP : va_P D vwCl (cLP kc a o) s.heap := hP
  have hD : va_D A (cLP kc a o) := hD
  have hS : va_S A s.heap s.heap [] := hS
  obtain ⟨H, eH⟩ : ∃ z, z = s.heap := ⟨_, rfl⟩
  obtain ⟨locs, eL⟩ : ∃ z : List Loc, z = [] := ⟨_, rfl⟩
  have hP := q_heap hP eH
  have hS := q_heapS hS eH eL
  refine q_start eH eL ?_
  clear eH eL
  have hi2 : ∀ w ∈ u_ws RX2 TX2 13, w ∈ wsX3_quarters := by decide +kernel
  have hi3 : ∀ w ∈ u_ws RX3 TX3 10, w ∈ wsX3_quarters := by decide +kernel
  unfold w_X3_quarters at h
  refine lv_iload_n hx hb dX3_quarters_0 rfl (lv_at hl 1 rfl) ?_
  refine lv_iconst (v := 0) hx hb dX3_quarters_1 (by decide) ?_
  refine lv_bipush (v := 30) hx hb dX3_quarters_2 (by decide) ?_
  refine q_cSi (As := [.int p1, .int 0, .int 30]) (rest := []) ⟨hx, hb, hml, hown, hts⟩ hK (c_X3_within l D kc p1 (0 : Int32) (30 : Int32) H.size _ h) (va_cwS 3 hts gX3_quarters_X3_within rfl rfl rfl (by decide +kernel) ⟨Nat.le_of_ble_eq_true rfl, Nat.le_of_ble_eq_true rfl⟩) (cut_nil _) hP hD hS hA rfl hl.1 rfl (Nat.le_of_ble_eq_true rfl) dX3_quarters_4 ⟨Nat.zero_le _, Nat.zero_le _⟩ (fun r1 _ H locs h hP hD hS => ?_)
  have hP : va_P D vwCl (cLP kc a o) H := hP
  have hD : va_D A (cLP kc a o) := hD
  refine lv_if_ne (tgt := 12) hx hb dX3_quarters_7 (by decide) (fun c3 => ?_) (fun c3 => ?_)
  · have h := br2 h c3
    refine lv_aload_n hx hb dX3_quarters_12 rfl (lv_at hl 0 rfl) ?_
    refine va_get (D := D) (ci := 3) (v := .ref (a 1 0)) (C := RX3) (T := TX3) (N := 10) hx hb hts hi3 hown hK.1 hP 0 rfl rfl 1 (by decide) (hts (.fieldLink RX3 19 "LastPenny" "now" "LLastPenny$World;") (by decide +kernel)) (fun _ h9 => h9) rfl dX3_quarters_13 ?_
    refine va_get (D := D) (ci := 2) (v := .int (o 1 0 1)) (C := RX2) (T := TX2) (N := 13) hx hb hts hi2 hown hK.1 hP 6 rfl rfl 1 (by decide) (hts (.fieldLink RX3 83 "LastPenny$World" "quarter" "I") (by decide +kernel)) (fun _ h9 => h9) rfl dX3_quarters_16 ?_
    refine lv_iload_n hx hb dX3_quarters_19 rfl (lv_at hl 1 rfl) ?_
    refine lv_iadd hx hb dX3_quarters_20 ?_
    refine lv_sipush (v := 999) hx hb dX3_quarters_21 (by decide) ?_
    refine lv_icmp_le (tgt := 30) hx hb dX3_quarters_24 (by decide) (fun c4 => ?_) (fun c4 => ?_)
    · have h := br1 h c4
      refine lv_aload_n hx hb dX3_quarters_30 rfl (lv_at hl 0 rfl) ?_
      refine va_get (D := D) (ci := 3) (v := .ref (a 1 0)) (C := RX3) (T := TX3) (N := 10) hx hb hts hi3 hown hK.1 hP 0 rfl rfl 1 (by decide) (hts (.fieldLink RX3 19 "LastPenny" "now" "LLastPenny$World;") (by decide +kernel)) (fun _ h9 => h9) rfl dX3_quarters_31 ?_
      refine lv_iload_n hx hb dX3_quarters_34 rfl (lv_at hl 1 rfl) ?_
      refine q_cVv (As := [.int p1]) (rest := []) ⟨hx, hb, hml, hown, hts⟩ hK (c_X2_pass l D kc (a 1) p1 (o 1) H.size _ h) (cwV 1 hts gX3_quarters_X2_pass rfl rfl rfl (by decide +kernel) ⟨Nat.le_of_ble_eq_true rfl, Nat.le_of_ble_eq_true rfl⟩) (cut_LP_1 D kc a o) hP hD hS hA 2 0 rfl rfl rfl hl.1 rfl (Nat.le_of_ble_eq_true rfl) dX3_quarters_35 ⟨Nat.zero_le _, Nat.zero_le _⟩ (fun u6 H locs h hP hD hS => ?_)
      obtain ⟨w5, rfl⟩ : ∃ z, z = u6 := ⟨_, rfl⟩
      obtain ⟨o7, eo7⟩ : ∃ z, z = (va_up o 1 w5) := ⟨_, rfl⟩
      have h := nm_out h o7 eo7
      have hP : va_P D vwCl (cLP kc a o7) H := q_to hP (by subst eo7; rfl)
      have hD : va_D A (cLP kc a o7) := q_toD hD (by subst eo7; rfl)
      refine lv_aload_n hx hb dX3_quarters_38 rfl (lv_at hl 0 rfl) ?_
      refine va_get (D := D) (ci := 3) (v := .ref (a 1 0)) (C := RX3) (T := TX3) (N := 10) hx hb hts hi3 hown hK.1 hP 0 rfl rfl 1 (by decide) (hts (.fieldLink RX3 19 "LastPenny" "now" "LLastPenny$World;") (by decide +kernel)) (fun _ h9 => h9) rfl dX3_quarters_39 ?_
      refine q_cVi (As := []) (rest := []) ⟨hx, hb, hml, hown, hts⟩ hK (c_X2_holderOrNone l D kc (a 1) (o7 1) H.size _ h) (cwV 0 hts gX3_quarters_X2_holderOrNone rfl rfl rfl (by decide +kernel) ⟨Nat.le_of_ble_eq_true rfl, Nat.le_of_ble_eq_true rfl⟩) (cut_LP_1 D kc a o7) hP hD hS hA 2 0 rfl rfl rfl hl.1 rfl (Nat.le_of_ble_eq_true rfl) dX3_quarters_42 ⟨Nat.zero_le _, Nat.zero_le _⟩ (fun r9 u10 H locs h hP hD hS => ?_)
      obtain ⟨w8, rfl⟩ : ∃ z, z = u10 := ⟨_, rfl⟩
      obtain ⟨o11, eo11⟩ : ∃ z, z = (va_up o7 1 w8) := ⟨_, rfl⟩
      have h := nm_out h o11 eo11
      have hP : va_P D vwCl (cLP kc a o11) H := q_to hP (by subst eo11; rfl)
      have hD : va_D A (cLP kc a o11) := q_toD hD (by subst eo11; rfl)
      exact hret r9 o11 H locs ls _ h hP hD hS dX3_quarters_45
    · have h := br2 h c4
      refine lv_bipush (v := -3) hx hb dX3_quarters_27 (by decide) ?_
      exact hret (-3) o H locs ls _ h hP hD hS dX3_quarters_29
  · have h := br1 h c3
    refine lv_iconst (v := -1) hx hb dX3_quarters_10 (by decide) ?_
    exact hret (-1) o H locs ls _ h hP hD hS dX3_quarters_11

def w_X3_runs (p1 : Int32) (p2 : Int32) (o : S3) (K : Int32 → S3 → Prop) : Prop := w_X3_within p1 (0 : Int32) (60 : Int32) (fun r1 => br (r1 = 0) (K (-1) o) (w_X3_within p2 (0 : Int32) (4 : Int32) (fun r4 => br (r4 = 0) (K (-1) o) (w_X2_become (o 2) (o 1) (fun w7 v8 => nm ((va_up (va_up o 2 w7) 1 v8) : S3) (fun o10 => nm ((-4) : Int32) (fun x11 => lfp4 (fun G41 (i12 : Int32) (i13 : Int32) (i14 : Int32) (o15 : S3) => br (p1 < i14) (br (p2 = 0) (w_X2_meansOfAll (o15 2) (fun r19 w18 => nm ((va_up o15 2 w18) : S3) (fun o21 => K r19 o21))) (br (p2 = 1) (w_X2_ruinedBits (o15 2) (fun r24 w23 => nm ((va_up o15 2 w23) : S3) (fun o26 => K r24 o26))) (br (p2 = 2) (K i12 o15) (br (p2 = 3) (K i13 o15) (w_X2_holderOrNone (o15 2) (fun r34 w33 => nm ((va_up o15 2 w33) : S3) (fun o36 => K r34 o36))))))) (w_X2_step (o15 2) (fun r38 w37 => nm ((va_up o15 2 w37) : S3) (fun o40 => jn (fun (i41 : Int32) => jn (fun (i42 : Int32) (o43 : S3) => nm (i14 + 1 : Int32) (fun x44 => G41 i41 i42 x44 o43)) (fun J81 => br (i13 = (-4)) (w_X2_ruinedBits (o40 2) (fun r47 w46 => nm ((va_up o40 2 w46) : S3) (fun o49 => br (r47 = 0) (J81 i13 o49) (J81 i14 o49)))) (J81 i13 o40))) (fun J60 => br (r38 = 0) (J60 i12) (nm (i12 + 1 : Int32) (fun x52 => J60 x52))))))) 0 x11 1 o10)))))))
abbrev rm_X3_runs : Room := { frames := 3, cells := 0, slots := 0, locals := 107 }
set_option maxHeartbeats 4000000 in
set_option maxRecDepth 100000 in
theorem c_X3_runs (l : Launch) (D : va_G) (kc : Nat → ClassId) (a : Nat → Nat → Nat) (p1 : Int32) (p2 : Int32) (o : S3) (sz : Nat) (K : Int32 → S3 → Prop) (h : w_X3_runs p1 p2 o K) : MetI l yX3_runs wsX3_runs rm_X3_runs D kc (fun u : S3 => cLP kc a u) o [.ref (a 0 0), .int p1, .int p2] sz (fun r u => K r u) := by
  refine q_ei (code := cX3_runs) (maxL := 6) (by decide) rfl (Nat.le_of_ble_eq_true rfl) ?_
  intro p e s m args below meth c Q A hx hb hml hts hown hK hA hret ls hl hP hD hS
  have hown : s.vm.findClass RX3 = some m.cls := hown
  have hl : lv_has ls 6 [(0, .ref (a 0 0)), (1, .int p1), (2, .int p2)] := hl
  have hP : va_P D vwCl (cLP kc a o) s.heap := hP
  have hD : va_D A (cLP kc a o) := hD
  have hS : va_S A s.heap s.heap [] := hS
  obtain ⟨H, eH⟩ : ∃ z, z = s.heap := ⟨_, rfl⟩
  obtain ⟨locs, eL⟩ : ∃ z : List Loc, z = [] := ⟨_, rfl⟩
  have hP := q_heap hP eH
  have hS := q_heapS hS eH eL
  refine q_start eH eL ?_
  clear eH eL
  have hi3 : ∀ w ∈ u_ws RX3 TX3 10, w ∈ wsX3_runs := by decide +kernel
  unfold w_X3_runs at h
  refine lv_iload_n hx hb dX3_runs_0 rfl (lv_at hl 1 rfl) ?_
  refine lv_iconst (v := 0) hx hb dX3_runs_1 (by decide) ?_
  refine lv_bipush (v := 60) hx hb dX3_runs_2 (by decide) ?_
  refine q_cSi (As := [.int p1, .int 0, .int 60]) (rest := []) ⟨hx, hb, hml, hown, hts⟩ hK (c_X3_within l D kc p1 (0 : Int32) (60 : Int32) H.size _ h) (va_cwS 3 hts gX3_runs_X3_within rfl rfl rfl (by decide +kernel) ⟨Nat.le_of_ble_eq_true rfl, Nat.le_of_ble_eq_true rfl⟩) (cut_nil _) hP hD hS hA rfl hl.1 rfl (Nat.le_of_ble_eq_true rfl) dX3_runs_4 ⟨Nat.zero_le _, Nat.zero_le _⟩ (fun r1 _ H locs h hP hD hS => ?_)
  have hP : va_P D vwCl (cLP kc a o) H := hP
  have hD : va_D A (cLP kc a o) := hD
  refine lv_if_eq (tgt := 19) hx hb dX3_runs_7 (by decide) (fun c3 => ?_) (fun c3 => ?_)
  · have h := br1 h c3
    refine lv_iconst (v := -1) hx hb dX3_runs_19 (by decide) ?_
    exact hret (-1) o H locs ls _ h hP hD hS dX3_runs_20
  · have h := br2 h c3
    refine lv_iload_n hx hb dX3_runs_10 rfl (lv_at hl 2 rfl) ?_
    refine lv_iconst (v := 0) hx hb dX3_runs_11 (by decide) ?_
    refine lv_iconst (v := 4) hx hb dX3_runs_12 (by decide) ?_
    refine q_cSi (As := [.int p2, .int 0, .int 4]) (rest := []) ⟨hx, hb, hml, hown, hts⟩ hK (c_X3_within l D kc p2 (0 : Int32) (4 : Int32) H.size _ h) (va_cwS 3 hts gX3_runs_X3_within rfl rfl rfl (by decide +kernel) ⟨Nat.le_of_ble_eq_true rfl, Nat.le_of_ble_eq_true rfl⟩) (cut_nil _) hP hD hS hA rfl hl.1 rfl (Nat.le_of_ble_eq_true rfl) dX3_runs_13 ⟨Nat.zero_le _, Nat.zero_le _⟩ (fun r4 _ H locs h hP hD hS => ?_)
    have hP : va_P D vwCl (cLP kc a o) H := hP
    have hD : va_D A (cLP kc a o) := hD
    refine lv_if_ne (tgt := 21) hx hb dX3_runs_16 (by decide) (fun c6 => ?_) (fun c6 => ?_)
    · have h := br2 h c6
      refine lv_aload_n hx hb dX3_runs_21 rfl (lv_at hl 0 rfl) ?_
      refine va_get (D := D) (ci := 3) (v := .ref (a 2 0)) (C := RX3) (T := TX3) (N := 10) hx hb hts hi3 hown hK.1 hP 0 rfl rfl 2 (by decide) (hts (.fieldLink RX3 23 "LastPenny" "trial" "LLastPenny$World;") (by decide +kernel)) (fun _ h9 => h9) rfl dX3_runs_22 ?_
      refine lv_aload_n hx hb dX3_runs_25 rfl (lv_at hl 0 rfl) ?_
      refine va_get (D := D) (ci := 3) (v := .ref (a 1 0)) (C := RX3) (T := TX3) (N := 10) hx hb hts hi3 hown hK.1 hP 0 rfl rfl 1 (by decide) (hts (.fieldLink RX3 19 "LastPenny" "now" "LLastPenny$World;") (by decide +kernel)) (fun _ h9 => h9) rfl dX3_runs_26 ?_
      refine q_cVv (As := [.ref (a 1 0)]) (rest := []) ⟨hx, hb, hml, hown, hts⟩ hK (c_X2_become l D kc (a 2) (a 1) (o 2) (o 1) H.size _ h) (cwV 1 hts gX3_runs_X2_become rfl rfl rfl (by decide +kernel) ⟨Nat.le_of_ble_eq_true rfl, Nat.le_of_ble_eq_true rfl⟩) (cut_LP_2_1 D kc a o) hP hD hS hA 2 0 rfl rfl rfl hl.1 rfl (Nat.le_of_ble_eq_true rfl) dX3_runs_29 ⟨Nat.zero_le _, Nat.zero_le _⟩ (fun u9 H locs h hP hD hS => ?_)
      obtain ⟨w7, v8⟩ := u9
      obtain ⟨o10, eo10⟩ : ∃ z, z = (va_up (va_up o 2 w7) 1 v8) := ⟨_, rfl⟩
      have h := nm_out h o10 eo10
      have hP : va_P D vwCl (cLP kc a o10) H := q_to hP (by subst eo10; rfl)
      have hD : va_D A (cLP kc a o10) := q_toD hD (by subst eo10; rfl)
      refine lv_iconst (v := 0) hx hb dX3_runs_32 (by decide) ?_
      refine lv_istore_n (lv' := [(3, .int 0), (0, .ref (a 0 0)), (1, .int p1), (2, .int p2)]) hx hb dX3_runs_33 rfl hl (by decide) rfl (fun ls hl => ?_)
      refine lv_bipush (v := -4) hx hb dX3_runs_34 (by decide) ?_
      refine lv_topi (fun x11 ex11 => ?_)
      have h := nm_out h x11 ex11
      refine lv_istore (lv' := [(4, .int x11), (3, .int 0), (0, .ref (a 0 0)), (1, .int p1), (2, .int p2)]) hx hb dX3_runs_36 hl (by decide) rfl (fun ls hl => ?_)
      refine lv_iconst (v := 1) hx hb dX3_runs_38 (by decide) ?_
      refine lv_istore (lv' := [(5, .int 1), (4, .int x11), (3, .int 0), (0, .ref (a 0 0)), (1, .int p1), (2, .int p2)]) hx hb dX3_runs_39 hl (by decide) rfl (fun ls hl => ?_)
      refine h (fun (i12 : Int32) (i13 : Int32) (i14 : Int32) (o15 : S3) => ∀ (ls : Array Slot) (H : Heap) (locs : List Loc), lv_has ls 6 [(0, .ref (a 0 0)), (1, .int p1), (2, .int p2), (3, .int i12), (4, .int i13), (5, .int i14)] → va_P D vwCl (cLP kc a o15) H → va_D A (cLP kc a o15) → va_S A s.heap H locs → W p l e rm_X3_runs s m args below meth c H locs 0 0 Q (F0 m 41 ls [])) ?_ ls H locs (lv_sub hl [3, 4, 5, 2, 1, 0] rfl) hP hD hS
      intro i12 i13 i14 o15 h ls H locs hl hP hD hS
      refine lv_iload hx hb dX3_runs_41 (lv_at hl 5 rfl) ?_
      refine lv_iload_n hx hb dX3_runs_43 rfl (lv_at hl 1 rfl) ?_
      refine lv_icmp_gt (tgt := 87) hx hb dX3_runs_44 (by decide) (fun c16 => ?_) (fun c16 => ?_)
      · have h := br1 h c16
        refine lv_iload_n hx hb dX3_runs_87 rfl (lv_at hl 2 rfl) ?_
        by_cases c17 : p2 = 0
        · have h := br1 h c17
          refine lv_tableIn (tgt := 120) hx hb dX3_runs_88 (by rw [c17]; all_goals decide) (by rw [c17]; all_goals decide) (by rw [c17]; all_goals rfl) (by decide) ?_
          refine lv_aload_n hx hb dX3_runs_120 rfl (lv_at hl 0 rfl) ?_
          refine va_get (D := D) (ci := 3) (v := .ref (a 2 0)) (C := RX3) (T := TX3) (N := 10) hx hb hts hi3 hown hK.1 hP 0 rfl rfl 2 (by decide) (hts (.fieldLink RX3 23 "LastPenny" "trial" "LLastPenny$World;") (by decide +kernel)) (fun _ h9 => h9) rfl dX3_runs_121 ?_
          refine q_cVi (As := []) (rest := []) ⟨hx, hb, hml, hown, hts⟩ hK (c_X2_meansOfAll l D kc (a 2) (o15 2) H.size _ h) (cwV 0 hts gX3_runs_X2_meansOfAll rfl rfl rfl (by decide +kernel) ⟨Nat.le_of_ble_eq_true rfl, Nat.le_of_ble_eq_true rfl⟩) (cut_LP_2 D kc a o15) hP hD hS hA 2 0 rfl rfl rfl hl.1 rfl (Nat.le_of_ble_eq_true rfl) dX3_runs_124 ⟨Nat.zero_le _, Nat.zero_le _⟩ (fun r19 u20 H locs h hP hD hS => ?_)
          obtain ⟨w18, rfl⟩ : ∃ z, z = u20 := ⟨_, rfl⟩
          obtain ⟨o21, eo21⟩ : ∃ z, z = (va_up o15 2 w18) := ⟨_, rfl⟩
          have h := nm_out h o21 eo21
          have hP : va_P D vwCl (cLP kc a o21) H := q_to hP (by subst eo21; rfl)
          have hD : va_D A (cLP kc a o21) := q_toD hD (by subst eo21; rfl)
          exact hret r19 o21 H locs ls _ h hP hD hS dX3_runs_127
        have h := br2 h c17
        by_cases c22 : p2 = 1
        · have h := br1 h c22
          refine lv_tableIn (tgt := 128) hx hb dX3_runs_88 (by rw [c22]; all_goals decide) (by rw [c22]; all_goals decide) (by rw [c22]; all_goals rfl) (by decide) ?_
          refine lv_aload_n hx hb dX3_runs_128 rfl (lv_at hl 0 rfl) ?_
          refine va_get (D := D) (ci := 3) (v := .ref (a 2 0)) (C := RX3) (T := TX3) (N := 10) hx hb hts hi3 hown hK.1 hP 0 rfl rfl 2 (by decide) (hts (.fieldLink RX3 23 "LastPenny" "trial" "LLastPenny$World;") (by decide +kernel)) (fun _ h9 => h9) rfl dX3_runs_129 ?_
          refine q_cVi (As := []) (rest := []) ⟨hx, hb, hml, hown, hts⟩ hK (c_X2_ruinedBits l D kc (a 2) (o15 2) H.size _ h) (cwV 0 hts gX3_runs_X2_ruinedBits rfl rfl rfl (by decide +kernel) ⟨Nat.le_of_ble_eq_true rfl, Nat.le_of_ble_eq_true rfl⟩) (cut_LP_2 D kc a o15) hP hD hS hA 2 0 rfl rfl rfl hl.1 rfl (Nat.le_of_ble_eq_true rfl) dX3_runs_132 ⟨Nat.zero_le _, Nat.zero_le _⟩ (fun r24 u25 H locs h hP hD hS => ?_)
          obtain ⟨w23, rfl⟩ : ∃ z, z = u25 := ⟨_, rfl⟩
          obtain ⟨o26, eo26⟩ : ∃ z, z = (va_up o15 2 w23) := ⟨_, rfl⟩
          have h := nm_out h o26 eo26
          have hP : va_P D vwCl (cLP kc a o26) H := q_to hP (by subst eo26; rfl)
          have hD : va_D A (cLP kc a o26) := q_toD hD (by subst eo26; rfl)
          exact hret r24 o26 H locs ls _ h hP hD hS dX3_runs_135
        have h := br2 h c22
        by_cases c27 : p2 = 2
        · have h := br1 h c27
          refine lv_tableIn (tgt := 136) hx hb dX3_runs_88 (by rw [c27]; all_goals decide) (by rw [c27]; all_goals decide) (by rw [c27]; all_goals rfl) (by decide) ?_
          refine lv_iload_n hx hb dX3_runs_136 rfl (lv_at hl 3 rfl) ?_
          exact hret i12 o15 H locs ls _ h hP hD hS dX3_runs_137
        have h := br2 h c27
        by_cases c28 : p2 = 3
        · have h := br1 h c28
          refine lv_tableIn (tgt := 138) hx hb dX3_runs_88 (by rw [c28]; all_goals decide) (by rw [c28]; all_goals decide) (by rw [c28]; all_goals rfl) (by decide) ?_
          refine lv_iload hx hb dX3_runs_138 (lv_at hl 4 rfl) ?_
          exact hret i13 o15 H locs ls _ h hP hD hS dX3_runs_140
        have h := br2 h c28
        have ht29 := lv_neT (a := 0) c17 (by decide)
        have ht30 := lv_neT (a := 1) c22 (by decide)
        have ht31 := lv_neT (a := 2) c27 (by decide)
        have ht32 := lv_neT (a := 3) c28 (by decide)
        refine lv_tableOut (tgt := 141) hx hb dX3_runs_88 (by omega) (by decide) ?_
        refine lv_aload_n hx hb dX3_runs_141 rfl (lv_at hl 0 rfl) ?_
        refine va_get (D := D) (ci := 3) (v := .ref (a 2 0)) (C := RX3) (T := TX3) (N := 10) hx hb hts hi3 hown hK.1 hP 0 rfl rfl 2 (by decide) (hts (.fieldLink RX3 23 "LastPenny" "trial" "LLastPenny$World;") (by decide +kernel)) (fun _ h9 => h9) rfl dX3_runs_142 ?_
        refine q_cVi (As := []) (rest := []) ⟨hx, hb, hml, hown, hts⟩ hK (c_X2_holderOrNone l D kc (a 2) (o15 2) H.size _ h) (cwV 0 hts gX3_runs_X2_holderOrNone rfl rfl rfl (by decide +kernel) ⟨Nat.le_of_ble_eq_true rfl, Nat.le_of_ble_eq_true rfl⟩) (cut_LP_2 D kc a o15) hP hD hS hA 2 0 rfl rfl rfl hl.1 rfl (Nat.le_of_ble_eq_true rfl) dX3_runs_145 ⟨Nat.zero_le _, Nat.zero_le _⟩ (fun r34 u35 H locs h hP hD hS => ?_)
        obtain ⟨w33, rfl⟩ : ∃ z, z = u35 := ⟨_, rfl⟩
        obtain ⟨o36, eo36⟩ : ∃ z, z = (va_up o15 2 w33) := ⟨_, rfl⟩
        have h := nm_out h o36 eo36
        have hP : va_P D vwCl (cLP kc a o36) H := q_to hP (by subst eo36; rfl)
        have hD : va_D A (cLP kc a o36) := q_toD hD (by subst eo36; rfl)
        exact hret r34 o36 H locs ls _ h hP hD hS dX3_runs_148
      · have h := br2 h c16
        refine lv_aload_n hx hb dX3_runs_47 rfl (lv_at hl 0 rfl) ?_
        refine va_get (D := D) (ci := 3) (v := .ref (a 2 0)) (C := RX3) (T := TX3) (N := 10) hx hb hts hi3 hown hK.1 hP 0 rfl rfl 2 (by decide) (hts (.fieldLink RX3 23 "LastPenny" "trial" "LLastPenny$World;") (by decide +kernel)) (fun _ h9 => h9) rfl dX3_runs_48 ?_
        refine q_cVi (As := []) (rest := []) ⟨hx, hb, hml, hown, hts⟩ hK (c_X2_step l D kc (a 2) (o15 2) H.size _ h) (cwV 0 hts gX3_runs_X2_step rfl rfl rfl (by decide +kernel) ⟨Nat.le_of_ble_eq_true rfl, Nat.le_of_ble_eq_true rfl⟩) (cut_LP_2 D kc a o15) hP hD hS hA 2 0 rfl rfl rfl hl.1 rfl (Nat.le_of_ble_eq_true rfl) dX3_runs_51 ⟨Nat.zero_le _, Nat.zero_le _⟩ (fun r38 u39 H locs h hP hD hS => ?_)
        obtain ⟨w37, rfl⟩ : ∃ z, z = u39 := ⟨_, rfl⟩
        obtain ⟨o40, eo40⟩ : ∃ z, z = (va_up o15 2 w37) := ⟨_, rfl⟩
        have h := nm_out h o40 eo40
        have hP : va_P D vwCl (cLP kc a o40) H := q_to hP (by subst eo40; rfl)
        have hD : va_D A (cLP kc a o40) := q_toD hD (by subst eo40; rfl)
        refine jn_elim h (fun J60 eJ60 h => ?_)
        have hJ_60 : ∀ (i41 : Int32) (ls : Array Slot), J60 i41 → lv_has ls 6 [(0, .ref (a 0 0)), (1, .int p1), (2, .int p2), (3, .int i41), (4, .int i13), (5, .int i14)] → W p l e rm_X3_runs s m args below meth c H locs 0 0 Q (F0 m 60 ls []) := by
          intro i41 ls h hl
          subst eJ60
          refine lv_iload hx hb dX3_runs_60 (lv_at hl 4 rfl) ?_
          refine lv_bipush (v := -4) hx hb dX3_runs_62 (by decide) ?_
          refine jn_elim h (fun J81 eJ81 h => ?_)
          have hJ_81 : ∀ (i42 : Int32) (o43 : S3) (ls : Array Slot) (H : Heap) (locs : List Loc), J81 i42 o43 → lv_has ls 6 [(0, .ref (a 0 0)), (1, .int p1), (2, .int p2), (3, .int i41), (4, .int i42), (5, .int i14)] → va_P D vwCl (cLP kc a o43) H → va_D A (cLP kc a o43) → va_S A s.heap H locs → W p l e rm_X3_runs s m args below meth c H locs 0 0 Q (F0 m 81 ls []) := by
            intro i42 o43 ls H locs h hl hP hD hS
            subst eJ81
            obtain ⟨x44, ex44⟩ : ∃ z : Int32, z = i14 + 1 := ⟨_, rfl⟩
            have h := nm_out h x44 ex44
            refine lv_iinc (v := x44) (lv' := [(5, .int x44), (0, .ref (a 0 0)), (1, .int p1), (2, .int p2), (3, .int i41), (4, .int i42)]) hx hb dX3_runs_81 hl (k := 5) rfl (by rw [ex44]; rfl) (by decide) rfl (fun ls hl => ?_)
            refine lv_goto (tgt := 41) hx hb dX3_runs_84 (by decide) ?_
            exact h ls H locs (lv_sub hl [1, 2, 3, 4, 5, 0] rfl) hP hD hS
          refine lv_icmp_ne (tgt := 81) hx hb dX3_runs_64 (by decide) (fun c45 => ?_) (fun c45 => ?_)
          · have h := br2 h c45
            exact hJ_81 i13 o40 ls H locs h (lv_sub hl [0, 1, 2, 3, 4, 5] rfl) hP hD hS
          · have h := br1 h c45
            refine lv_aload_n hx hb dX3_runs_67 rfl (lv_at hl 0 rfl) ?_
            refine va_get (D := D) (ci := 3) (v := .ref (a 2 0)) (C := RX3) (T := TX3) (N := 10) hx hb hts hi3 hown hK.1 hP 0 rfl rfl 2 (by decide) (hts (.fieldLink RX3 23 "LastPenny" "trial" "LLastPenny$World;") (by decide +kernel)) (fun _ h9 => h9) rfl dX3_runs_68 ?_
            refine q_cVi (As := []) (rest := []) ⟨hx, hb, hml, hown, hts⟩ hK (c_X2_ruinedBits l D kc (a 2) (o40 2) H.size _ h) (cwV 0 hts gX3_runs_X2_ruinedBits rfl rfl rfl (by decide +kernel) ⟨Nat.le_of_ble_eq_true rfl, Nat.le_of_ble_eq_true rfl⟩) (cut_LP_2 D kc a o40) hP hD hS hA 2 0 rfl rfl rfl hl.1 rfl (Nat.le_of_ble_eq_true rfl) dX3_runs_71 ⟨Nat.zero_le _, Nat.zero_le _⟩ (fun r47 u48 H locs h hP hD hS => ?_)
            obtain ⟨w46, rfl⟩ : ∃ z, z = u48 := ⟨_, rfl⟩
            obtain ⟨o49, eo49⟩ : ∃ z, z = (va_up o40 2 w46) := ⟨_, rfl⟩
            have h := nm_out h o49 eo49
            have hP : va_P D vwCl (cLP kc a o49) H := q_to hP (by subst eo49; rfl)
            have hD : va_D A (cLP kc a o49) := q_toD hD (by subst eo49; rfl)
            refine lv_if_eq (tgt := 81) hx hb dX3_runs_74 (by decide) (fun c50 => ?_) (fun c50 => ?_)
            · have h := br1 h c50
              exact hJ_81 i13 o49 ls H locs h (lv_sub hl [0, 1, 2, 3, 4, 5] rfl) hP hD hS
            · have h := br2 h c50
              refine lv_iload hx hb dX3_runs_77 (lv_at hl 5 rfl) ?_
              refine lv_istore (lv' := [(4, .int i14), (0, .ref (a 0 0)), (1, .int p1), (2, .int p2), (3, .int i41), (5, .int i14)]) hx hb dX3_runs_79 hl (by decide) rfl (fun ls hl => ?_)
              exact hJ_81 i14 o49 ls H locs h (lv_sub hl [1, 2, 3, 4, 0, 5] rfl) hP hD hS
        refine lv_if_eq (tgt := 60) hx hb dX3_runs_54 (by decide) (fun c51 => ?_) (fun c51 => ?_)
        · have h := br1 h c51
          exact hJ_60 i12 ls h (lv_sub hl [0, 1, 2, 3, 4, 5] rfl)
        · have h := br2 h c51
          obtain ⟨x52, ex52⟩ : ∃ z : Int32, z = i12 + 1 := ⟨_, rfl⟩
          have h := nm_out h x52 ex52
          refine lv_iinc (v := x52) (lv' := [(3, .int x52), (0, .ref (a 0 0)), (1, .int p1), (2, .int p2), (4, .int i13), (5, .int i14)]) hx hb dX3_runs_57 hl (k := 3) rfl (by rw [ex52]; rfl) (by decide) rfl (fun ls hl => ?_)
          exact hJ_60 x52 ls h (lv_sub hl [1, 2, 3, 0, 4, 5] rfl)
    · have h := br1 h c6
      refine lv_iconst (v := -1) hx hb dX3_runs_19 (by decide) ?_
      exact hret (-1) o H locs ls _ h hP hD hS dX3_runs_20

def w_X3_ahead (p1 : Int32) (p2 : Int32) (p3 : Int32) (o : S3) (K : Int32 → S3 → Prop) : Prop := w_X2_has p1 (o 1) (fun r2 w1 => nm ((va_up o 1 w1) : S3) (fun o4 => br (r2 = 0) (K (-1) o4) (w_X3_within p2 (0 : Int32) (60 : Int32) (fun r6 => br (r6 = 0) (K (-1) o4) (w_X3_within p3 (0 : Int32) (1 : Int32) (fun r9 => br (r9 = 0) (K (-1) o4) (w_X2_become (o4 2) (o4 1) (fun w12 v13 => nm ((va_up (va_up o4 2 w12) 1 v13) : S3) (fun o15 => lfp3 (fun G49 (i16 : Int32) (i17 : Int32) (o18 : S3) => br (p2 < i17) (br (p3 = 0) (vp_in p1 5 ∧ (K (o18 2 2 p1.toNatClampNeg) o18)) (K i16 o18)) (w_X2_step (o18 2) (fun r23 w22 => nm ((va_up o18 2 w22) : S3) (fun o25 => w_X2_isRuined p1 (o25 2) (fun r27 w26 => nm ((va_up o25 2 w26) : S3) (fun o29 => jn (fun (i30 : Int32) => nm (i17 + 1 : Int32) (fun x31 => G49 i30 x31 o29)) (fun J77 => br (r27 = 0) (J77 i16) (nm (i16 + 1 : Int32) (fun x33 => J77 x33))))))))) 0 1 o15)))))))))
abbrev rm_X3_ahead : Room := { frames := 3, cells := 0, slots := 0, locals := 107 }
set_option maxHeartbeats 4000000 in
set_option maxRecDepth 100000 in
theorem c_X3_ahead (l : Launch) (D : va_G) (kc : Nat → ClassId) (a : Nat → Nat → Nat) (p1 : Int32) (p2 : Int32) (p3 : Int32) (o : S3) (sz : Nat) (K : Int32 → S3 → Prop) (h : w_X3_ahead p1 p2 p3 o K) : MetI l yX3_ahead wsX3_ahead rm_X3_ahead D kc (fun u : S3 => cLP kc a u) o [.ref (a 0 0), .int p1, .int p2, .int p3] sz (fun r u => K r u) := by
  refine q_ei (code := cX3_ahead) (maxL := 6) (by decide) rfl (Nat.le_of_ble_eq_true rfl) ?_
  intro p e s m args below meth c Q A hx hb hml hts hown hK hA hret ls hl hP hD hS
  have hown : s.vm.findClass RX3 = some m.cls := hown
  have hl : lv_has ls 6 [(0, .ref (a 0 0)), (1, .int p1), (2, .int p2), (3, .int p3)] := hl
  have hP : va_P D vwCl (cLP kc a o) s.heap := hP
  have hD : va_D A (cLP kc a o) := hD
  have hS : va_S A s.heap s.heap [] := hS
  obtain ⟨H, eH⟩ : ∃ z, z = s.heap := ⟨_, rfl⟩
  obtain ⟨locs, eL⟩ : ∃ z : List Loc, z = [] := ⟨_, rfl⟩
  have hP := q_heap hP eH
  have hS := q_heapS hS eH eL
  refine q_start eH eL ?_
  clear eH eL
  have hi2 : ∀ w ∈ u_ws RX2 TX2 13, w ∈ wsX3_ahead := by decide +kernel
  have hi3 : ∀ w ∈ u_ws RX3 TX3 10, w ∈ wsX3_ahead := by decide +kernel
  unfold w_X3_ahead at h
  refine lv_aload_n hx hb dX3_ahead_0 rfl (lv_at hl 0 rfl) ?_
  refine va_get (D := D) (ci := 3) (v := .ref (a 1 0)) (C := RX3) (T := TX3) (N := 10) hx hb hts hi3 hown hK.1 hP 0 rfl rfl 1 (by decide) (hts (.fieldLink RX3 19 "LastPenny" "now" "LLastPenny$World;") (by decide +kernel)) (fun _ h9 => h9) rfl dX3_ahead_1 ?_
  refine lv_iload_n hx hb dX3_ahead_4 rfl (lv_at hl 1 rfl) ?_
  refine q_cVi (As := [.int p1]) (rest := []) ⟨hx, hb, hml, hown, hts⟩ hK (c_X2_has l D kc (a 1) p1 (o 1) H.size _ h) (cwV 1 hts gX3_ahead_X2_has rfl rfl rfl (by decide +kernel) ⟨Nat.le_of_ble_eq_true rfl, Nat.le_of_ble_eq_true rfl⟩) (cut_LP_1 D kc a o) hP hD hS hA 2 0 rfl rfl rfl hl.1 rfl (Nat.le_of_ble_eq_true rfl) dX3_ahead_5 ⟨Nat.zero_le _, Nat.zero_le _⟩ (fun r2 u3 H locs h hP hD hS => ?_)
  obtain ⟨w1, rfl⟩ : ∃ z, z = u3 := ⟨_, rfl⟩
  obtain ⟨o4, eo4⟩ : ∃ z, z = (va_up o 1 w1) := ⟨_, rfl⟩
  have h := nm_out h o4 eo4
  have hP : va_P D vwCl (cLP kc a o4) H := q_to hP (by subst eo4; rfl)
  have hD : va_D A (cLP kc a o4) := q_toD hD (by subst eo4; rfl)
  refine lv_if_eq (tgt := 30) hx hb dX3_ahead_8 (by decide) (fun c5 => ?_) (fun c5 => ?_)
  · have h := br1 h c5
    refine lv_iconst (v := -1) hx hb dX3_ahead_30 (by decide) ?_
    exact hret (-1) o4 H locs ls _ h hP hD hS dX3_ahead_31
  · have h := br2 h c5
    refine lv_iload_n hx hb dX3_ahead_11 rfl (lv_at hl 2 rfl) ?_
    refine lv_iconst (v := 0) hx hb dX3_ahead_12 (by decide) ?_
    refine lv_bipush (v := 60) hx hb dX3_ahead_13 (by decide) ?_
    refine q_cSi (As := [.int p2, .int 0, .int 60]) (rest := []) ⟨hx, hb, hml, hown, hts⟩ hK (c_X3_within l D kc p2 (0 : Int32) (60 : Int32) H.size _ h) (va_cwS 3 hts gX3_ahead_X3_within rfl rfl rfl (by decide +kernel) ⟨Nat.le_of_ble_eq_true rfl, Nat.le_of_ble_eq_true rfl⟩) (cut_nil _) hP hD hS hA rfl hl.1 rfl (Nat.le_of_ble_eq_true rfl) dX3_ahead_15 ⟨Nat.zero_le _, Nat.zero_le _⟩ (fun r6 _ H locs h hP hD hS => ?_)
    have hP : va_P D vwCl (cLP kc a o4) H := hP
    have hD : va_D A (cLP kc a o4) := hD
    refine lv_if_eq (tgt := 30) hx hb dX3_ahead_18 (by decide) (fun c8 => ?_) (fun c8 => ?_)
    · have h := br1 h c8
      refine lv_iconst (v := -1) hx hb dX3_ahead_30 (by decide) ?_
      exact hret (-1) o4 H locs ls _ h hP hD hS dX3_ahead_31
    · have h := br2 h c8
      refine lv_iload_n hx hb dX3_ahead_21 rfl (lv_at hl 3 rfl) ?_
      refine lv_iconst (v := 0) hx hb dX3_ahead_22 (by decide) ?_
      refine lv_iconst (v := 1) hx hb dX3_ahead_23 (by decide) ?_
      refine q_cSi (As := [.int p3, .int 0, .int 1]) (rest := []) ⟨hx, hb, hml, hown, hts⟩ hK (c_X3_within l D kc p3 (0 : Int32) (1 : Int32) H.size _ h) (va_cwS 3 hts gX3_ahead_X3_within rfl rfl rfl (by decide +kernel) ⟨Nat.le_of_ble_eq_true rfl, Nat.le_of_ble_eq_true rfl⟩) (cut_nil _) hP hD hS hA rfl hl.1 rfl (Nat.le_of_ble_eq_true rfl) dX3_ahead_24 ⟨Nat.zero_le _, Nat.zero_le _⟩ (fun r9 _ H locs h hP hD hS => ?_)
      have hP : va_P D vwCl (cLP kc a o4) H := hP
      have hD : va_D A (cLP kc a o4) := hD
      refine lv_if_ne (tgt := 32) hx hb dX3_ahead_27 (by decide) (fun c11 => ?_) (fun c11 => ?_)
      · have h := br2 h c11
        refine lv_aload_n hx hb dX3_ahead_32 rfl (lv_at hl 0 rfl) ?_
        refine va_get (D := D) (ci := 3) (v := .ref (a 2 0)) (C := RX3) (T := TX3) (N := 10) hx hb hts hi3 hown hK.1 hP 0 rfl rfl 2 (by decide) (hts (.fieldLink RX3 23 "LastPenny" "trial" "LLastPenny$World;") (by decide +kernel)) (fun _ h9 => h9) rfl dX3_ahead_33 ?_
        refine lv_aload_n hx hb dX3_ahead_36 rfl (lv_at hl 0 rfl) ?_
        refine va_get (D := D) (ci := 3) (v := .ref (a 1 0)) (C := RX3) (T := TX3) (N := 10) hx hb hts hi3 hown hK.1 hP 0 rfl rfl 1 (by decide) (hts (.fieldLink RX3 19 "LastPenny" "now" "LLastPenny$World;") (by decide +kernel)) (fun _ h9 => h9) rfl dX3_ahead_37 ?_
        refine q_cVv (As := [.ref (a 1 0)]) (rest := []) ⟨hx, hb, hml, hown, hts⟩ hK (c_X2_become l D kc (a 2) (a 1) (o4 2) (o4 1) H.size _ h) (cwV 1 hts gX3_ahead_X2_become rfl rfl rfl (by decide +kernel) ⟨Nat.le_of_ble_eq_true rfl, Nat.le_of_ble_eq_true rfl⟩) (cut_LP_2_1 D kc a o4) hP hD hS hA 2 0 rfl rfl rfl hl.1 rfl (Nat.le_of_ble_eq_true rfl) dX3_ahead_40 ⟨Nat.zero_le _, Nat.zero_le _⟩ (fun u14 H locs h hP hD hS => ?_)
        obtain ⟨w12, v13⟩ := u14
        obtain ⟨o15, eo15⟩ : ∃ z, z = (va_up (va_up o4 2 w12) 1 v13) := ⟨_, rfl⟩
        have h := nm_out h o15 eo15
        have hP : va_P D vwCl (cLP kc a o15) H := q_to hP (by subst eo15; rfl)
        have hD : va_D A (cLP kc a o15) := q_toD hD (by subst eo15; rfl)
        refine lv_iconst (v := 0) hx hb dX3_ahead_43 (by decide) ?_
        refine lv_istore (lv' := [(4, .int 0), (0, .ref (a 0 0)), (1, .int p1), (2, .int p2), (3, .int p3)]) hx hb dX3_ahead_44 hl (by decide) rfl (fun ls hl => ?_)
        refine lv_iconst (v := 1) hx hb dX3_ahead_46 (by decide) ?_
        refine lv_istore (lv' := [(5, .int 1), (4, .int 0), (0, .ref (a 0 0)), (1, .int p1), (2, .int p2), (3, .int p3)]) hx hb dX3_ahead_47 hl (by decide) rfl (fun ls hl => ?_)
        refine h (fun (i16 : Int32) (i17 : Int32) (o18 : S3) => ∀ (ls : Array Slot) (H : Heap) (locs : List Loc), lv_has ls 6 [(0, .ref (a 0 0)), (1, .int p1), (2, .int p2), (3, .int p3), (4, .int i16), (5, .int i17)] → va_P D vwCl (cLP kc a o18) H → va_D A (cLP kc a o18) → va_S A s.heap H locs → W p l e rm_X3_ahead s m args below meth c H locs 0 0 Q (F0 m 49 ls [])) ?_ ls H locs (lv_sub hl [2, 3, 4, 5, 1, 0] rfl) hP hD hS
        intro i16 i17 o18 h ls H locs hl hP hD hS
        refine lv_iload hx hb dX3_ahead_49 (lv_at hl 5 rfl) ?_
        refine lv_iload_n hx hb dX3_ahead_51 rfl (lv_at hl 2 rfl) ?_
        refine lv_icmp_gt (tgt := 83) hx hb dX3_ahead_52 (by decide) (fun c19 => ?_) (fun c19 => ?_)
        · have h := br1 h c19
          refine lv_iload_n hx hb dX3_ahead_83 rfl (lv_at hl 3 rfl) ?_
          refine lv_if_ne (tgt := 99) hx hb dX3_ahead_84 (by decide) (fun c20 => ?_) (fun c20 => ?_)
          · have h := br2 h c20
            refine lv_iload hx hb dX3_ahead_99 (lv_at hl 4 rfl) ?_
            exact hret i16 o18 H locs ls _ h hP hD hS dX3_ahead_101
          · have h := br1 h c20
            refine lv_aload_n hx hb dX3_ahead_87 rfl (lv_at hl 0 rfl) ?_
            refine va_get (D := D) (ci := 3) (v := .ref (a 2 0)) (C := RX3) (T := TX3) (N := 10) hx hb hts hi3 hown hK.1 hP 0 rfl rfl 2 (by decide) (hts (.fieldLink RX3 23 "LastPenny" "trial" "LLastPenny$World;") (by decide +kernel)) (fun _ h9 => h9) rfl dX3_ahead_88 ?_
            refine va_get (D := D) (ci := 2) (v := .ref (a 2 2)) (C := RX2) (T := TX2) (N := 13) hx hb hts hi2 hown hK.1 hP 14 rfl rfl 7 (by decide) (hts (.fieldLink RX3 108 "LastPenny$World" "meansOf" "[I") (by decide +kernel)) (fun _ h9 => h9) rfl dX3_ahead_91 ?_
            refine lv_iload_n hx hb dX3_ahead_94 rfl (lv_at hl 1 rfl) ?_
            obtain ⟨hi_21, h⟩ := h
            refine va_iald hx hb hK.1 hP 16 0 rfl rfl hi_21 dX3_ahead_95 ?_
            refine lv_goto (tgt := 101) hx hb dX3_ahead_96 (by decide) ?_
            exact hret (o18 2 2 p1.toNatClampNeg) o18 H locs ls _ h hP hD hS dX3_ahead_101
        · have h := br2 h c19
          refine lv_aload_n hx hb dX3_ahead_55 rfl (lv_at hl 0 rfl) ?_
          refine va_get (D := D) (ci := 3) (v := .ref (a 2 0)) (C := RX3) (T := TX3) (N := 10) hx hb hts hi3 hown hK.1 hP 0 rfl rfl 2 (by decide) (hts (.fieldLink RX3 23 "LastPenny" "trial" "LLastPenny$World;") (by decide +kernel)) (fun _ h9 => h9) rfl dX3_ahead_56 ?_
          refine q_cVi (As := []) (rest := []) ⟨hx, hb, hml, hown, hts⟩ hK (c_X2_step l D kc (a 2) (o18 2) H.size _ h) (cwV 0 hts gX3_ahead_X2_step rfl rfl rfl (by decide +kernel) ⟨Nat.le_of_ble_eq_true rfl, Nat.le_of_ble_eq_true rfl⟩) (cut_LP_2 D kc a o18) hP hD hS hA 2 0 rfl rfl rfl hl.1 rfl (Nat.le_of_ble_eq_true rfl) dX3_ahead_59 ⟨Nat.zero_le _, Nat.zero_le _⟩ (fun r23 u24 H locs h hP hD hS => ?_)
          obtain ⟨w22, rfl⟩ : ∃ z, z = u24 := ⟨_, rfl⟩
          obtain ⟨o25, eo25⟩ : ∃ z, z = (va_up o18 2 w22) := ⟨_, rfl⟩
          have h := nm_out h o25 eo25
          have hP : va_P D vwCl (cLP kc a o25) H := q_to hP (by subst eo25; rfl)
          have hD : va_D A (cLP kc a o25) := q_toD hD (by subst eo25; rfl)
          refine lv_pop hx hb dX3_ahead_62 rfl ?_
          refine lv_aload_n hx hb dX3_ahead_63 rfl (lv_at hl 0 rfl) ?_
          refine va_get (D := D) (ci := 3) (v := .ref (a 2 0)) (C := RX3) (T := TX3) (N := 10) hx hb hts hi3 hown hK.1 hP 0 rfl rfl 2 (by decide) (hts (.fieldLink RX3 23 "LastPenny" "trial" "LLastPenny$World;") (by decide +kernel)) (fun _ h9 => h9) rfl dX3_ahead_64 ?_
          refine lv_iload_n hx hb dX3_ahead_67 rfl (lv_at hl 1 rfl) ?_
          refine q_cVi (As := [.int p1]) (rest := []) ⟨hx, hb, hml, hown, hts⟩ hK (c_X2_isRuined l D kc (a 2) p1 (o25 2) H.size _ h) (cwV 1 hts gX3_ahead_X2_isRuined rfl rfl rfl (by decide +kernel) ⟨Nat.le_of_ble_eq_true rfl, Nat.le_of_ble_eq_true rfl⟩) (cut_LP_2 D kc a o25) hP hD hS hA 2 0 rfl rfl rfl hl.1 rfl (Nat.le_of_ble_eq_true rfl) dX3_ahead_68 ⟨Nat.zero_le _, Nat.zero_le _⟩ (fun r27 u28 H locs h hP hD hS => ?_)
          obtain ⟨w26, rfl⟩ : ∃ z, z = u28 := ⟨_, rfl⟩
          obtain ⟨o29, eo29⟩ : ∃ z, z = (va_up o25 2 w26) := ⟨_, rfl⟩
          have h := nm_out h o29 eo29
          have hP : va_P D vwCl (cLP kc a o29) H := q_to hP (by subst eo29; rfl)
          have hD : va_D A (cLP kc a o29) := q_toD hD (by subst eo29; rfl)
          refine jn_elim h (fun J77 eJ77 h => ?_)
          have hJ_77 : ∀ (i30 : Int32) (ls : Array Slot), J77 i30 → lv_has ls 6 [(0, .ref (a 0 0)), (1, .int p1), (2, .int p2), (3, .int p3), (4, .int i30), (5, .int i17)] → W p l e rm_X3_ahead s m args below meth c H locs 0 0 Q (F0 m 77 ls []) := by
            intro i30 ls h hl
            subst eJ77
            obtain ⟨x31, ex31⟩ : ∃ z : Int32, z = i17 + 1 := ⟨_, rfl⟩
            have h := nm_out h x31 ex31
            refine lv_iinc (v := x31) (lv' := [(5, .int x31), (0, .ref (a 0 0)), (1, .int p1), (2, .int p2), (3, .int p3), (4, .int i30)]) hx hb dX3_ahead_77 hl (k := 5) rfl (by rw [ex31]; rfl) (by decide) rfl (fun ls hl => ?_)
            refine lv_goto (tgt := 49) hx hb dX3_ahead_80 (by decide) ?_
            exact h ls H locs (lv_sub hl [1, 2, 3, 4, 5, 0] rfl) hP hD hS
          refine lv_if_eq (tgt := 77) hx hb dX3_ahead_71 (by decide) (fun c32 => ?_) (fun c32 => ?_)
          · have h := br1 h c32
            exact hJ_77 i16 ls h (lv_sub hl [0, 1, 2, 3, 4, 5] rfl)
          · have h := br2 h c32
            obtain ⟨x33, ex33⟩ : ∃ z : Int32, z = i16 + 1 := ⟨_, rfl⟩
            have h := nm_out h x33 ex33
            refine lv_iinc (v := x33) (lv' := [(4, .int x33), (0, .ref (a 0 0)), (1, .int p1), (2, .int p2), (3, .int p3), (5, .int i17)]) hx hb dX3_ahead_74 hl (k := 4) rfl (by rw [ex33]; rfl) (by decide) rfl (fun ls hl => ?_)
            exact hJ_77 x33 ls h (lv_sub hl [1, 2, 3, 4, 0, 5] rfl)
      · have h := br1 h c11
        refine lv_iconst (v := -1) hx hb dX3_ahead_30 (by decide) ?_
        exact hret (-1) o4 H locs ls _ h hP hD hS dX3_ahead_31

def w_X3_soonest (p1 : Int32) (o : S3) (K : Int32 → S3 → Prop) : Prop := w_X2_has p1 (o 1) (fun r2 w1 => nm ((va_up o 1 w1) : S3) (fun o4 => br (r2 = 0) (K (-1) o4) (w_X2_become (o4 2) (o4 1) (fun w6 v7 => nm ((va_up (va_up o4 2 w6) 1 v7) : S3) (fun o9 => w_X2_comesTo p1 (o9 2) (fun r11 w10 => nm ((va_up o9 2 w10) : S3) (fun o13 => K r11 o13)))))))
abbrev rm_X3_soonest : Room := { frames := 4, cells := 0, slots := 0, locals := 129 }
set_option maxHeartbeats 4000000 in
set_option maxRecDepth 100000 in
theorem c_X3_soonest (l : Launch) (D : va_G) (kc : Nat → ClassId) (a : Nat → Nat → Nat) (p1 : Int32) (o : S3) (sz : Nat) (K : Int32 → S3 → Prop) (h : w_X3_soonest p1 o K) : MetI l yX3_soonest wsX3_soonest rm_X3_soonest D kc (fun u : S3 => cLP kc a u) o [.ref (a 0 0), .int p1] sz (fun r u => K r u) := by
  refine q_ei (code := cX3_soonest) (maxL := 2) (by decide) rfl (Nat.le_of_ble_eq_true rfl) ?_
  intro p e s m args below meth c Q A hx hb hml hts hown hK hA hret ls hl hP hD hS
  have hown : s.vm.findClass RX3 = some m.cls := hown
  have hl : lv_has ls 2 [(0, .ref (a 0 0)), (1, .int p1)] := hl
  have hP : va_P D vwCl (cLP kc a o) s.heap := hP
  have hD : va_D A (cLP kc a o) := hD
  have hS : va_S A s.heap s.heap [] := hS
  obtain ⟨H, eH⟩ : ∃ z, z = s.heap := ⟨_, rfl⟩
  obtain ⟨locs, eL⟩ : ∃ z : List Loc, z = [] := ⟨_, rfl⟩
  have hP := q_heap hP eH
  have hS := q_heapS hS eH eL
  refine q_start eH eL ?_
  clear eH eL
  have hi3 : ∀ w ∈ u_ws RX3 TX3 10, w ∈ wsX3_soonest := by decide +kernel
  unfold w_X3_soonest at h
  refine lv_aload_n hx hb dX3_soonest_0 rfl (lv_at hl 0 rfl) ?_
  refine va_get (D := D) (ci := 3) (v := .ref (a 1 0)) (C := RX3) (T := TX3) (N := 10) hx hb hts hi3 hown hK.1 hP 0 rfl rfl 1 (by decide) (hts (.fieldLink RX3 19 "LastPenny" "now" "LLastPenny$World;") (by decide +kernel)) (fun _ h9 => h9) rfl dX3_soonest_1 ?_
  refine lv_iload_n hx hb dX3_soonest_4 rfl (lv_at hl 1 rfl) ?_
  refine q_cVi (As := [.int p1]) (rest := []) ⟨hx, hb, hml, hown, hts⟩ hK (c_X2_has l D kc (a 1) p1 (o 1) H.size _ h) (cwV 1 hts gX3_soonest_X2_has rfl rfl rfl (by decide +kernel) ⟨Nat.le_of_ble_eq_true rfl, Nat.le_of_ble_eq_true rfl⟩) (cut_LP_1 D kc a o) hP hD hS hA 2 0 rfl rfl rfl hl.1 rfl (Nat.le_of_ble_eq_true rfl) dX3_soonest_5 ⟨Nat.zero_le _, Nat.zero_le _⟩ (fun r2 u3 H locs h hP hD hS => ?_)
  obtain ⟨w1, rfl⟩ : ∃ z, z = u3 := ⟨_, rfl⟩
  obtain ⟨o4, eo4⟩ : ∃ z, z = (va_up o 1 w1) := ⟨_, rfl⟩
  have h := nm_out h o4 eo4
  have hP : va_P D vwCl (cLP kc a o4) H := q_to hP (by subst eo4; rfl)
  have hD : va_D A (cLP kc a o4) := q_toD hD (by subst eo4; rfl)
  refine lv_if_ne (tgt := 13) hx hb dX3_soonest_8 (by decide) (fun c5 => ?_) (fun c5 => ?_)
  · have h := br2 h c5
    refine lv_aload_n hx hb dX3_soonest_13 rfl (lv_at hl 0 rfl) ?_
    refine va_get (D := D) (ci := 3) (v := .ref (a 2 0)) (C := RX3) (T := TX3) (N := 10) hx hb hts hi3 hown hK.1 hP 0 rfl rfl 2 (by decide) (hts (.fieldLink RX3 23 "LastPenny" "trial" "LLastPenny$World;") (by decide +kernel)) (fun _ h9 => h9) rfl dX3_soonest_14 ?_
    refine lv_aload_n hx hb dX3_soonest_17 rfl (lv_at hl 0 rfl) ?_
    refine va_get (D := D) (ci := 3) (v := .ref (a 1 0)) (C := RX3) (T := TX3) (N := 10) hx hb hts hi3 hown hK.1 hP 0 rfl rfl 1 (by decide) (hts (.fieldLink RX3 19 "LastPenny" "now" "LLastPenny$World;") (by decide +kernel)) (fun _ h9 => h9) rfl dX3_soonest_18 ?_
    refine q_cVv (As := [.ref (a 1 0)]) (rest := []) ⟨hx, hb, hml, hown, hts⟩ hK (c_X2_become l D kc (a 2) (a 1) (o4 2) (o4 1) H.size _ h) (cwV 1 hts gX3_soonest_X2_become rfl rfl rfl (by decide +kernel) ⟨Nat.le_of_ble_eq_true rfl, Nat.le_of_ble_eq_true rfl⟩) (cut_LP_2_1 D kc a o4) hP hD hS hA 2 0 rfl rfl rfl hl.1 rfl (Nat.le_of_ble_eq_true rfl) dX3_soonest_21 ⟨Nat.zero_le _, Nat.zero_le _⟩ (fun u8 H locs h hP hD hS => ?_)
    obtain ⟨w6, v7⟩ := u8
    obtain ⟨o9, eo9⟩ : ∃ z, z = (va_up (va_up o4 2 w6) 1 v7) := ⟨_, rfl⟩
    have h := nm_out h o9 eo9
    have hP : va_P D vwCl (cLP kc a o9) H := q_to hP (by subst eo9; rfl)
    have hD : va_D A (cLP kc a o9) := q_toD hD (by subst eo9; rfl)
    refine lv_aload_n hx hb dX3_soonest_24 rfl (lv_at hl 0 rfl) ?_
    refine va_get (D := D) (ci := 3) (v := .ref (a 2 0)) (C := RX3) (T := TX3) (N := 10) hx hb hts hi3 hown hK.1 hP 0 rfl rfl 2 (by decide) (hts (.fieldLink RX3 23 "LastPenny" "trial" "LLastPenny$World;") (by decide +kernel)) (fun _ h9 => h9) rfl dX3_soonest_25 ?_
    refine lv_iload_n hx hb dX3_soonest_28 rfl (lv_at hl 1 rfl) ?_
    refine q_cVi (As := [.int p1]) (rest := []) ⟨hx, hb, hml, hown, hts⟩ hK (c_X2_comesTo l D kc (a 2) p1 (o9 2) H.size _ h) (cwV 1 hts gX3_soonest_X2_comesTo rfl rfl rfl (by decide +kernel) ⟨Nat.le_of_ble_eq_true rfl, Nat.le_of_ble_eq_true rfl⟩) (cut_LP_2 D kc a o9) hP hD hS hA 2 0 rfl rfl rfl hl.1 rfl (Nat.le_of_ble_eq_true rfl) dX3_soonest_29 ⟨Nat.zero_le _, Nat.zero_le _⟩ (fun r11 u12 H locs h hP hD hS => ?_)
    obtain ⟨w10, rfl⟩ : ∃ z, z = u12 := ⟨_, rfl⟩
    obtain ⟨o13, eo13⟩ : ∃ z, z = (va_up o9 2 w10) := ⟨_, rfl⟩
    have h := nm_out h o13 eo13
    have hP : va_P D vwCl (cLP kc a o13) H := q_to hP (by subst eo13; rfl)
    have hD : va_D A (cLP kc a o13) := q_toD hD (by subst eo13; rfl)
    exact hret r11 o13 H locs ls _ h hP hD hS dX3_soonest_32
  · have h := br1 h c5
    refine lv_iconst (v := -1) hx hb dX3_soonest_11 (by decide) ?_
    exact hret (-1) o4 H locs ls _ h hP hD hS dX3_soonest_12

def w_X3_commonDivisor (p0 : Int64) (p2 : Int64) (K : Int64 → Prop) : Prop := lfp3 (fun G9 (i1 : Int64) (i2 : Int64) (i3 : Int32) => br (200 ≤ i3) (K i1) (br ((lg_cmp i2 0) = 0) (K i1) ((¬ i2 = 0) ∧ (nm ((i1 - i1 / i2 * i2) : Int64) (fun x7 => nm (i3 + 1 : Int32) (fun x8 => G9 i2 x7 x8)))))) p0 p2 0
abbrev rm_X3_commonDivisor : Room := { frames := 0, cells := 0, slots := 0, locals := 0 }
set_option maxHeartbeats 4000000 in
set_option maxRecDepth 100000 in
theorem c_X3_commonDivisor (l : Launch) (D : va_G) (kc : Nat → ClassId) (p0 : Int64) (p2 : Int64) (sz : Nat) (K : Int64 → Prop) (h : w_X3_commonDivisor p0 p2 K) : MetL l yX3_commonDivisor wsX3_commonDivisor rm_X3_commonDivisor D kc (fun _ : Unit => []) () [.long p0, .long p2] sz (fun r _ => K r) := by
  refine q_el (code := cX3_commonDivisor) (maxL := 11) (by decide) rfl (Nat.le_of_ble_eq_true rfl) ?_
  intro p e s m args below meth c Q A hx hb hml hts hown hK hA hret ls hl hP hD hS
  have hown : s.vm.findClass RX3 = some m.cls := hown
  have hl : lv_has ls 11 [(0, .long p0), (2, .long p2)] := hl
  have hP : va_P D vwCl [] s.heap := hP
  have hS : va_S A s.heap s.heap [] := hS
  obtain ⟨H, eH⟩ : ∃ z, z = s.heap := ⟨_, rfl⟩
  obtain ⟨locs, eL⟩ : ∃ z : List Loc, z = [] := ⟨_, rfl⟩
  have hP := q_heap hP eH
  have hS := q_heapS hS eH eL
  refine q_start eH eL ?_
  clear eH eL
  unfold w_X3_commonDivisor at h
  refine lv_lload_n hx hb dX3_commonDivisor_0 rfl (lv_at hl 0 rfl) ?_
  refine lv_lstore (lv' := [(4, .long p0), (0, .long p0), (2, .long p2)]) hx hb dX3_commonDivisor_1 hl (by decide) rfl (fun ls hl => ?_)
  refine lv_lload_n hx hb dX3_commonDivisor_3 rfl (lv_at hl 2 rfl) ?_
  refine lv_lstore (lv' := [(6, .long p2), (4, .long p0), (0, .long p0), (2, .long p2)]) hx hb dX3_commonDivisor_4 hl (by decide) rfl (fun ls hl => ?_)
  refine lv_iconst (v := 0) hx hb dX3_commonDivisor_6 (by decide) ?_
  refine lv_istore (lv' := [(8, .int 0), (6, .long p2), (4, .long p0), (0, .long p0), (2, .long p2)]) hx hb dX3_commonDivisor_7 hl (by decide) rfl (fun ls hl => ?_)
  refine h (fun (i1 : Int64) (i2 : Int64) (i3 : Int32) => ∀ (ls : Array Slot), lv_has ls 11 [(4, .long i1), (6, .long i2), (8, .int i3)] → W p l e rm_X3_commonDivisor s m args below meth c H locs 0 0 Q (F0 m 9 ls [])) ?_ ls (lv_sub hl [2, 1, 0] rfl)
  intro i1 i2 i3 h ls hl
  refine lv_iload hx hb dX3_commonDivisor_9 (lv_at hl 2 rfl) ?_
  refine lv_sipush (v := 200) hx hb dX3_commonDivisor_11 (by decide) ?_
  refine lv_icmp_ge (tgt := 45) hx hb dX3_commonDivisor_14 (by decide) (fun c4 => ?_) (fun c4 => ?_)
  · have h := br1 h c4
    refine lv_lload hx hb dX3_commonDivisor_45 (lv_at hl 0 rfl) ?_
    exact hret i1 () H locs ls _ h hP hD hS dX3_commonDivisor_47
  · have h := br2 h c4
    refine lv_lload hx hb dX3_commonDivisor_17 (lv_at hl 1 rfl) ?_
    refine lv_lconst (v := 0) hx hb dX3_commonDivisor_19 (by decide) ?_
    refine W.lcmp hx hb dX3_commonDivisor_20 ?_
    refine lv_if_eq (tgt := 45) hx hb dX3_commonDivisor_21 (by decide) (fun c5 => ?_) (fun c5 => ?_)
    · have h := br1 h c5
      refine lv_lload hx hb dX3_commonDivisor_45 (lv_at hl 0 rfl) ?_
      exact hret i1 () H locs ls _ h hP hD hS dX3_commonDivisor_47
    · have h := br2 h c5
      refine lv_lload hx hb dX3_commonDivisor_24 (lv_at hl 0 rfl) ?_
      refine lv_lload hx hb dX3_commonDivisor_26 (lv_at hl 1 rfl) ?_
      obtain ⟨hn6, h⟩ := h
      refine lv_lrem hx hb dX3_commonDivisor_28 hn6 ?_
      refine lv_topl (fun x7 ex7 => ?_)
      have h := nm_out h x7 ex7
      refine lv_lstore (lv' := [(9, .long x7), (4, .long i1), (6, .long i2), (8, .int i3)]) hx hb dX3_commonDivisor_29 hl (by decide) rfl (fun ls hl => ?_)
      refine lv_lload hx hb dX3_commonDivisor_31 (lv_at hl 2 rfl) ?_
      refine lv_lstore (lv' := [(4, .long i2), (9, .long x7), (6, .long i2), (8, .int i3)]) hx hb dX3_commonDivisor_33 hl (by decide) rfl (fun ls hl => ?_)
      refine lv_lload hx hb dX3_commonDivisor_35 (lv_at hl 1 rfl) ?_
      refine lv_lstore (lv' := [(6, .long x7), (4, .long i2), (9, .long x7), (8, .int i3)]) hx hb dX3_commonDivisor_37 hl (by decide) rfl (fun ls hl => ?_)
      obtain ⟨x8, ex8⟩ : ∃ z : Int32, z = i3 + 1 := ⟨_, rfl⟩
      have h := nm_out h x8 ex8
      refine lv_iinc (v := x8) (lv' := [(8, .int x8), (6, .long x7), (4, .long i2), (9, .long x7)]) hx hb dX3_commonDivisor_39 hl (k := 3) rfl (by rw [ex8]; rfl) (by decide) rfl (fun ls hl => ?_)
      refine lv_goto (tgt := 9) hx hb dX3_commonDivisor_42 (by decide) ?_
      exact h ls (lv_sub hl [2, 1, 0] rfl)

def w_X3_ofFraction (p0 : Int64) (p2 : Int64) (p4 : Int32) (K : Int64 → Prop) : Prop := w_X3_commonDivisor p0 p2 (fun r1 => br ((lg_cmp r1 0) = 0) (K (p4.toInt64)) (br (p4 = 0) ((¬ r1 = 0) ∧ (K (p0 / r1))) ((¬ r1 = 0) ∧ (K (p2 / r1)))))
abbrev rm_X3_ofFraction : Room := { frames := 1, cells := 0, slots := 0, locals := 30 }
set_option maxHeartbeats 4000000 in
set_option maxRecDepth 100000 in
theorem c_X3_ofFraction (l : Launch) (D : va_G) (kc : Nat → ClassId) (p0 : Int64) (p2 : Int64) (p4 : Int32) (sz : Nat) (K : Int64 → Prop) (h : w_X3_ofFraction p0 p2 p4 K) : MetL l yX3_ofFraction wsX3_ofFraction rm_X3_ofFraction D kc (fun _ : Unit => []) () [.long p0, .long p2, .int p4] sz (fun r _ => K r) := by
  refine q_el (code := cX3_ofFraction) (maxL := 7) (by decide) rfl (Nat.le_of_ble_eq_true rfl) ?_
  intro p e s m args below meth c Q A hx hb hml hts hown hK hA hret ls hl hP hD hS
  have hown : s.vm.findClass RX3 = some m.cls := hown
  have hl : lv_has ls 7 [(0, .long p0), (2, .long p2), (4, .int p4)] := hl
  have hP : va_P D vwCl [] s.heap := hP
  have hS : va_S A s.heap s.heap [] := hS
  obtain ⟨H, eH⟩ : ∃ z, z = s.heap := ⟨_, rfl⟩
  obtain ⟨locs, eL⟩ : ∃ z : List Loc, z = [] := ⟨_, rfl⟩
  have hP := q_heap hP eH
  have hS := q_heapS hS eH eL
  refine q_start eH eL ?_
  clear eH eL
  unfold w_X3_ofFraction at h
  refine lv_lload_n hx hb dX3_ofFraction_0 rfl (lv_at hl 0 rfl) ?_
  refine lv_lload_n hx hb dX3_ofFraction_1 rfl (lv_at hl 1 rfl) ?_
  refine q_cSl (As := [.long p0, .long p2]) (rest := []) ⟨hx, hb, hml, hown, hts⟩ hK (c_X3_commonDivisor l D kc p0 p2 H.size _ h) (va_cwS 2 hts gX3_ofFraction_X3_commonDivisor rfl rfl rfl (by decide +kernel) ⟨Nat.le_of_ble_eq_true rfl, Nat.le_of_ble_eq_true rfl⟩) (cut_nil _) hP hD hS hA rfl hl.1 rfl (Nat.le_of_ble_eq_true rfl) dX3_ofFraction_2 ⟨Nat.zero_le _, Nat.zero_le _⟩ (fun r1 _ H locs h hP hD hS => ?_)
  have hP : va_P D vwCl ([]) H := hP
  have hD : va_D A ([]) := hD
  refine lv_lstore (lv' := [(5, .long r1), (0, .long p0), (2, .long p2), (4, .int p4)]) hx hb dX3_ofFraction_5 hl (by decide) rfl (fun ls hl => ?_)
  refine lv_lload hx hb dX3_ofFraction_7 (lv_at hl 0 rfl) ?_
  refine lv_lconst (v := 0) hx hb dX3_ofFraction_9 (by decide) ?_
  refine W.lcmp hx hb dX3_ofFraction_10 ?_
  refine lv_if_ne (tgt := 18) hx hb dX3_ofFraction_11 (by decide) (fun c3 => ?_) (fun c3 => ?_)
  · have h := br2 h c3
    refine lv_iload hx hb dX3_ofFraction_18 (lv_at hl 3 rfl) ?_
    refine lv_if_ne (tgt := 27) hx hb dX3_ofFraction_20 (by decide) (fun c4 => ?_) (fun c4 => ?_)
    · have h := br2 h c4
      refine lv_lload_n hx hb dX3_ofFraction_27 rfl (lv_at hl 2 rfl) ?_
      refine lv_lload hx hb dX3_ofFraction_28 (lv_at hl 0 rfl) ?_
      obtain ⟨hn5, h⟩ := h
      refine lv_ldiv hx hb dX3_ofFraction_30 hn5 ?_
      exact hret (p2 / r1) () H locs ls _ h hP hD hS dX3_ofFraction_31
    · have h := br1 h c4
      refine lv_lload_n hx hb dX3_ofFraction_23 rfl (lv_at hl 1 rfl) ?_
      refine lv_goto (tgt := 28) hx hb dX3_ofFraction_24 (by decide) ?_
      refine lv_lload hx hb dX3_ofFraction_28 (lv_at hl 0 rfl) ?_
      obtain ⟨hn6, h⟩ := h
      refine lv_ldiv hx hb dX3_ofFraction_30 hn6 ?_
      exact hret (p0 / r1) () H locs ls _ h hP hD hS dX3_ofFraction_31
  · have h := br1 h c3
    refine lv_iload hx hb dX3_ofFraction_14 (lv_at hl 3 rfl) ?_
    refine lv_i2l hx hb dX3_ofFraction_16 rfl ?_
    exact hret (p4.toInt64) () H locs ls _ h hP hD hS dX3_ofFraction_17

def w_X3_share (p1 : Int32) (p2 : Int32) (p3 : Int32) (o : S3) (K : Int64 → S3 → Prop) : Prop := w_X2_has p1 (o 1) (fun r2 w1 => nm ((va_up o 1 w1) : S3) (fun o4 => br (r2 = 0) (K (-1) o4) (w_X3_within p2 (1 : Int32) (60 : Int32) (fun r6 => br (r6 = 0) (K (-1) o4) (w_X3_within p3 (0 : Int32) (1 : Int32) (fun r9 => br (r9 = 0) (K (-1) o4) (w_X2_become (o4 2) (o4 1) (fun w12 v13 => nm ((va_up (va_up o4 2 w12) 1 v13) : S3) (fun o15 => lfp3 (fun G51 (i16 : Int32) (i17 : Int32) (o18 : S3) => br (p2 < i17) (w_X3_ofFraction (i16.toInt64) (p2.toInt64) p3 (fun r20 => K r20 o18)) (w_X2_step (o18 2) (fun r23 w22 => nm ((va_up o18 2 w22) : S3) (fun o25 => jn (fun (i26 : Int32) => nm (i17 + 1 : Int32) (fun x27 => G51 i26 x27 o25)) (fun J79 => br ((o25 2 0 3) = p1) (nm (i16 + 1 : Int32) (fun x29 => J79 x29)) (J79 i16)))))) 0 1 o15)))))))))
abbrev rm_X3_share : Room := { frames := 3, cells := 0, slots := 0, locals := 107 }
set_option maxHeartbeats 4000000 in
set_option maxRecDepth 100000 in
theorem c_X3_share (l : Launch) (D : va_G) (kc : Nat → ClassId) (a : Nat → Nat → Nat) (p1 : Int32) (p2 : Int32) (p3 : Int32) (o : S3) (sz : Nat) (K : Int64 → S3 → Prop) (h : w_X3_share p1 p2 p3 o K) : MetL l yX3_share wsX3_share rm_X3_share D kc (fun u : S3 => cLP kc a u) o [.ref (a 0 0), .int p1, .int p2, .int p3] sz (fun r u => K r u) := by
  refine q_el (code := cX3_share) (maxL := 6) (by decide) rfl (Nat.le_of_ble_eq_true rfl) ?_
  intro p e s m args below meth c Q A hx hb hml hts hown hK hA hret ls hl hP hD hS
  have hown : s.vm.findClass RX3 = some m.cls := hown
  have hl : lv_has ls 6 [(0, .ref (a 0 0)), (1, .int p1), (2, .int p2), (3, .int p3)] := hl
  have hP : va_P D vwCl (cLP kc a o) s.heap := hP
  have hD : va_D A (cLP kc a o) := hD
  have hS : va_S A s.heap s.heap [] := hS
  obtain ⟨H, eH⟩ : ∃ z, z = s.heap := ⟨_, rfl⟩
  obtain ⟨locs, eL⟩ : ∃ z : List Loc, z = [] := ⟨_, rfl⟩
  have hP := q_heap hP eH
  have hS := q_heapS hS eH eL
  refine q_start eH eL ?_
  clear eH eL
  have hi2 : ∀ w ∈ u_ws RX2 TX2 13, w ∈ wsX3_share := by decide +kernel
  have hi3 : ∀ w ∈ u_ws RX3 TX3 10, w ∈ wsX3_share := by decide +kernel
  unfold w_X3_share at h
  refine lv_aload_n hx hb dX3_share_0 rfl (lv_at hl 0 rfl) ?_
  refine va_get (D := D) (ci := 3) (v := .ref (a 1 0)) (C := RX3) (T := TX3) (N := 10) hx hb hts hi3 hown hK.1 hP 0 rfl rfl 1 (by decide) (hts (.fieldLink RX3 19 "LastPenny" "now" "LLastPenny$World;") (by decide +kernel)) (fun _ h9 => h9) rfl dX3_share_1 ?_
  refine lv_iload_n hx hb dX3_share_4 rfl (lv_at hl 1 rfl) ?_
  refine q_cVi (As := [.int p1]) (rest := []) ⟨hx, hb, hml, hown, hts⟩ hK (c_X2_has l D kc (a 1) p1 (o 1) H.size _ h) (cwV 1 hts gX3_share_X2_has rfl rfl rfl (by decide +kernel) ⟨Nat.le_of_ble_eq_true rfl, Nat.le_of_ble_eq_true rfl⟩) (cut_LP_1 D kc a o) hP hD hS hA 2 0 rfl rfl rfl hl.1 rfl (Nat.le_of_ble_eq_true rfl) dX3_share_5 ⟨Nat.zero_le _, Nat.zero_le _⟩ (fun r2 u3 H locs h hP hD hS => ?_)
  obtain ⟨w1, rfl⟩ : ∃ z, z = u3 := ⟨_, rfl⟩
  obtain ⟨o4, eo4⟩ : ∃ z, z = (va_up o 1 w1) := ⟨_, rfl⟩
  have h := nm_out h o4 eo4
  have hP : va_P D vwCl (cLP kc a o4) H := q_to hP (by subst eo4; rfl)
  have hD : va_D A (cLP kc a o4) := q_toD hD (by subst eo4; rfl)
  refine lv_if_eq (tgt := 30) hx hb dX3_share_8 (by decide) (fun c5 => ?_) (fun c5 => ?_)
  · have h := br1 h c5
    refine lv_ldc2 (v := -1) hx hb hown (hts (.constantLong RX3 149 (-1)) (by decide +kernel)) dX3_share_30 ?_
    exact hret (-1) o4 H locs ls _ h hP hD hS dX3_share_33
  · have h := br2 h c5
    refine lv_iload_n hx hb dX3_share_11 rfl (lv_at hl 2 rfl) ?_
    refine lv_iconst (v := 1) hx hb dX3_share_12 (by decide) ?_
    refine lv_bipush (v := 60) hx hb dX3_share_13 (by decide) ?_
    refine q_cSi (As := [.int p2, .int 1, .int 60]) (rest := []) ⟨hx, hb, hml, hown, hts⟩ hK (c_X3_within l D kc p2 (1 : Int32) (60 : Int32) H.size _ h) (va_cwS 3 hts gX3_share_X3_within rfl rfl rfl (by decide +kernel) ⟨Nat.le_of_ble_eq_true rfl, Nat.le_of_ble_eq_true rfl⟩) (cut_nil _) hP hD hS hA rfl hl.1 rfl (Nat.le_of_ble_eq_true rfl) dX3_share_15 ⟨Nat.zero_le _, Nat.zero_le _⟩ (fun r6 _ H locs h hP hD hS => ?_)
    have hP : va_P D vwCl (cLP kc a o4) H := hP
    have hD : va_D A (cLP kc a o4) := hD
    refine lv_if_eq (tgt := 30) hx hb dX3_share_18 (by decide) (fun c8 => ?_) (fun c8 => ?_)
    · have h := br1 h c8
      refine lv_ldc2 (v := -1) hx hb hown (hts (.constantLong RX3 149 (-1)) (by decide +kernel)) dX3_share_30 ?_
      exact hret (-1) o4 H locs ls _ h hP hD hS dX3_share_33
    · have h := br2 h c8
      refine lv_iload_n hx hb dX3_share_21 rfl (lv_at hl 3 rfl) ?_
      refine lv_iconst (v := 0) hx hb dX3_share_22 (by decide) ?_
      refine lv_iconst (v := 1) hx hb dX3_share_23 (by decide) ?_
      refine q_cSi (As := [.int p3, .int 0, .int 1]) (rest := []) ⟨hx, hb, hml, hown, hts⟩ hK (c_X3_within l D kc p3 (0 : Int32) (1 : Int32) H.size _ h) (va_cwS 3 hts gX3_share_X3_within rfl rfl rfl (by decide +kernel) ⟨Nat.le_of_ble_eq_true rfl, Nat.le_of_ble_eq_true rfl⟩) (cut_nil _) hP hD hS hA rfl hl.1 rfl (Nat.le_of_ble_eq_true rfl) dX3_share_24 ⟨Nat.zero_le _, Nat.zero_le _⟩ (fun r9 _ H locs h hP hD hS => ?_)
      have hP : va_P D vwCl (cLP kc a o4) H := hP
      have hD : va_D A (cLP kc a o4) := hD
      refine lv_if_ne (tgt := 34) hx hb dX3_share_27 (by decide) (fun c11 => ?_) (fun c11 => ?_)
      · have h := br2 h c11
        refine lv_aload_n hx hb dX3_share_34 rfl (lv_at hl 0 rfl) ?_
        refine va_get (D := D) (ci := 3) (v := .ref (a 2 0)) (C := RX3) (T := TX3) (N := 10) hx hb hts hi3 hown hK.1 hP 0 rfl rfl 2 (by decide) (hts (.fieldLink RX3 23 "LastPenny" "trial" "LLastPenny$World;") (by decide +kernel)) (fun _ h9 => h9) rfl dX3_share_35 ?_
        refine lv_aload_n hx hb dX3_share_38 rfl (lv_at hl 0 rfl) ?_
        refine va_get (D := D) (ci := 3) (v := .ref (a 1 0)) (C := RX3) (T := TX3) (N := 10) hx hb hts hi3 hown hK.1 hP 0 rfl rfl 1 (by decide) (hts (.fieldLink RX3 19 "LastPenny" "now" "LLastPenny$World;") (by decide +kernel)) (fun _ h9 => h9) rfl dX3_share_39 ?_
        refine q_cVv (As := [.ref (a 1 0)]) (rest := []) ⟨hx, hb, hml, hown, hts⟩ hK (c_X2_become l D kc (a 2) (a 1) (o4 2) (o4 1) H.size _ h) (cwV 1 hts gX3_share_X2_become rfl rfl rfl (by decide +kernel) ⟨Nat.le_of_ble_eq_true rfl, Nat.le_of_ble_eq_true rfl⟩) (cut_LP_2_1 D kc a o4) hP hD hS hA 2 0 rfl rfl rfl hl.1 rfl (Nat.le_of_ble_eq_true rfl) dX3_share_42 ⟨Nat.zero_le _, Nat.zero_le _⟩ (fun u14 H locs h hP hD hS => ?_)
        obtain ⟨w12, v13⟩ := u14
        obtain ⟨o15, eo15⟩ : ∃ z, z = (va_up (va_up o4 2 w12) 1 v13) := ⟨_, rfl⟩
        have h := nm_out h o15 eo15
        have hP : va_P D vwCl (cLP kc a o15) H := q_to hP (by subst eo15; rfl)
        have hD : va_D A (cLP kc a o15) := q_toD hD (by subst eo15; rfl)
        refine lv_iconst (v := 0) hx hb dX3_share_45 (by decide) ?_
        refine lv_istore (lv' := [(4, .int 0), (0, .ref (a 0 0)), (1, .int p1), (2, .int p2), (3, .int p3)]) hx hb dX3_share_46 hl (by decide) rfl (fun ls hl => ?_)
        refine lv_iconst (v := 1) hx hb dX3_share_48 (by decide) ?_
        refine lv_istore (lv' := [(5, .int 1), (4, .int 0), (0, .ref (a 0 0)), (1, .int p1), (2, .int p2), (3, .int p3)]) hx hb dX3_share_49 hl (by decide) rfl (fun ls hl => ?_)
        refine h (fun (i16 : Int32) (i17 : Int32) (o18 : S3) => ∀ (ls : Array Slot) (H : Heap) (locs : List Loc), lv_has ls 6 [(0, .ref (a 0 0)), (1, .int p1), (2, .int p2), (3, .int p3), (4, .int i16), (5, .int i17)] → va_P D vwCl (cLP kc a o18) H → va_D A (cLP kc a o18) → va_S A s.heap H locs → W p l e rm_X3_share s m args below meth c H locs 0 0 Q (F0 m 51 ls [])) ?_ ls H locs (lv_sub hl [2, 3, 4, 5, 1, 0] rfl) hP hD hS
        intro i16 i17 o18 h ls H locs hl hP hD hS
        refine lv_iload hx hb dX3_share_51 (lv_at hl 5 rfl) ?_
        refine lv_iload_n hx hb dX3_share_53 rfl (lv_at hl 2 rfl) ?_
        refine lv_icmp_gt (tgt := 85) hx hb dX3_share_54 (by decide) (fun c19 => ?_) (fun c19 => ?_)
        · have h := br1 h c19
          refine lv_iload hx hb dX3_share_85 (lv_at hl 4 rfl) ?_
          refine lv_i2l hx hb dX3_share_87 rfl ?_
          refine lv_iload_n hx hb dX3_share_88 rfl (lv_at hl 2 rfl) ?_
          refine lv_i2l hx hb dX3_share_89 rfl ?_
          refine lv_iload_n hx hb dX3_share_90 rfl (lv_at hl 3 rfl) ?_
          refine q_cSl (As := [.long (i16.toInt64), .long (p2.toInt64), .int p3]) (rest := []) ⟨hx, hb, hml, hown, hts⟩ hK (c_X3_ofFraction l D kc (i16.toInt64) (p2.toInt64) p3 H.size _ h) (va_cwS 3 hts gX3_share_X3_ofFraction rfl rfl rfl (by decide +kernel) ⟨Nat.le_of_ble_eq_true rfl, Nat.le_of_ble_eq_true rfl⟩) (cut_nil _) hP hD hS hA rfl hl.1 rfl (Nat.le_of_ble_eq_true rfl) dX3_share_91 ⟨Nat.zero_le _, Nat.zero_le _⟩ (fun r20 _ H locs h hP hD hS => ?_)
          have hP : va_P D vwCl (cLP kc a o18) H := hP
          have hD : va_D A (cLP kc a o18) := hD
          exact hret r20 o18 H locs ls _ h hP hD hS dX3_share_94
        · have h := br2 h c19
          refine lv_aload_n hx hb dX3_share_57 rfl (lv_at hl 0 rfl) ?_
          refine va_get (D := D) (ci := 3) (v := .ref (a 2 0)) (C := RX3) (T := TX3) (N := 10) hx hb hts hi3 hown hK.1 hP 0 rfl rfl 2 (by decide) (hts (.fieldLink RX3 23 "LastPenny" "trial" "LLastPenny$World;") (by decide +kernel)) (fun _ h9 => h9) rfl dX3_share_58 ?_
          refine q_cVi (As := []) (rest := []) ⟨hx, hb, hml, hown, hts⟩ hK (c_X2_step l D kc (a 2) (o18 2) H.size _ h) (cwV 0 hts gX3_share_X2_step rfl rfl rfl (by decide +kernel) ⟨Nat.le_of_ble_eq_true rfl, Nat.le_of_ble_eq_true rfl⟩) (cut_LP_2 D kc a o18) hP hD hS hA 2 0 rfl rfl rfl hl.1 rfl (Nat.le_of_ble_eq_true rfl) dX3_share_61 ⟨Nat.zero_le _, Nat.zero_le _⟩ (fun r23 u24 H locs h hP hD hS => ?_)
          obtain ⟨w22, rfl⟩ : ∃ z, z = u24 := ⟨_, rfl⟩
          obtain ⟨o25, eo25⟩ : ∃ z, z = (va_up o18 2 w22) := ⟨_, rfl⟩
          have h := nm_out h o25 eo25
          have hP : va_P D vwCl (cLP kc a o25) H := q_to hP (by subst eo25; rfl)
          have hD : va_D A (cLP kc a o25) := q_toD hD (by subst eo25; rfl)
          refine lv_pop hx hb dX3_share_64 rfl ?_
          refine lv_aload_n hx hb dX3_share_65 rfl (lv_at hl 0 rfl) ?_
          refine va_get (D := D) (ci := 3) (v := .ref (a 2 0)) (C := RX3) (T := TX3) (N := 10) hx hb hts hi3 hown hK.1 hP 0 rfl rfl 2 (by decide) (hts (.fieldLink RX3 23 "LastPenny" "trial" "LLastPenny$World;") (by decide +kernel)) (fun _ h9 => h9) rfl dX3_share_66 ?_
          refine va_get (D := D) (ci := 2) (v := .int (o25 2 0 3)) (C := RX2) (T := TX2) (N := 13) hx hb hts hi2 hown hK.1 hP 14 rfl rfl 3 (by decide) (hts (.fieldLink RX3 128 "LastPenny$World" "holder" "I") (by decide +kernel)) (fun _ h9 => h9) rfl dX3_share_69 ?_
          refine lv_iload_n hx hb dX3_share_72 rfl (lv_at hl 1 rfl) ?_
          refine jn_elim h (fun J79 eJ79 h => ?_)
          have hJ_79 : ∀ (i26 : Int32) (ls : Array Slot), J79 i26 → lv_has ls 6 [(0, .ref (a 0 0)), (1, .int p1), (2, .int p2), (3, .int p3), (4, .int i26), (5, .int i17)] → W p l e rm_X3_share s m args below meth c H locs 0 0 Q (F0 m 79 ls []) := by
            intro i26 ls h hl
            subst eJ79
            obtain ⟨x27, ex27⟩ : ∃ z : Int32, z = i17 + 1 := ⟨_, rfl⟩
            have h := nm_out h x27 ex27
            refine lv_iinc (v := x27) (lv' := [(5, .int x27), (0, .ref (a 0 0)), (1, .int p1), (2, .int p2), (3, .int p3), (4, .int i26)]) hx hb dX3_share_79 hl (k := 5) rfl (by rw [ex27]; rfl) (by decide) rfl (fun ls hl => ?_)
            refine lv_goto (tgt := 51) hx hb dX3_share_82 (by decide) ?_
            exact h ls H locs (lv_sub hl [1, 2, 3, 4, 5, 0] rfl) hP hD hS
          refine lv_icmp_ne (tgt := 79) hx hb dX3_share_73 (by decide) (fun c28 => ?_) (fun c28 => ?_)
          · have h := br2 h c28
            exact hJ_79 i16 ls h (lv_sub hl [0, 1, 2, 3, 4, 5] rfl)
          · have h := br1 h c28
            obtain ⟨x29, ex29⟩ : ∃ z : Int32, z = i16 + 1 := ⟨_, rfl⟩
            have h := nm_out h x29 ex29
            refine lv_iinc (v := x29) (lv' := [(4, .int x29), (0, .ref (a 0 0)), (1, .int p1), (2, .int p2), (3, .int p3), (5, .int i17)]) hx hb dX3_share_76 hl (k := 4) rfl (by rw [ex29]; rfl) (by decide) rfl (fun ls hl => ?_)
            exact hJ_79 x29 ls h (lv_sub hl [1, 2, 3, 4, 0, 5] rfl)
      · have h := br1 h c11
        refine lv_ldc2 (v := -1) hx hb hown (hts (.constantLong RX3 149 (-1)) (by decide +kernel)) dX3_share_30 ?_
        exact hret (-1) o4 H locs ls _ h hP hD hS dX3_share_33

