def w_X4_ahead (p1 : Int32) (p2 : Int32) (p3 : Int32) (mo : S2) (lo : SL) (K : Int32 → S2 → SL → Prop) : Prop := w_X4_isOne p1 mo lo (fun r3 mo1 lo2 => br (r3 = 0) (K (-1) mo1 lo2) (w_X4_isFar p2 (fun r6 => br (r6 = 0) (K (-1) mo1 lo2) (w_X4_isPart p3 (fun r9 => br (r9 = 0) (K (-1) mo1 lo2) (w_X4_starts mo1 lo2 (fun mo12 lo13 => lfp4 (fun G34 (i15 : Int32) (i16 : Int32) (mo17 : S2) (lo18 : SL) => br (p2 ≤ i16) (br (p3 = 0) (w_X4_of p1 (1 : Int32) mo17 lo18 (fun r23 mo21 lo22 => K r23 mo21 lo22)) (K i15 mo17 lo18)) (w_X4_quarterGoes mo17 lo18 (fun mo25 lo26 => w_X4_of p1 (1 : Int32) mo25 lo26 (fun r30 mo28 lo29 => jn (fun (k32 : Int32) => w_X4_flag k32 (fun r33 => nm ((i15 + r33) : Int32) (fun x35 => nm (i16 + 1 : Int32) (fun x36 => G34 x35 x36 mo28 lo29)))) (fun J60 => br (r30 = 0) (J60 1) (J60 0)))))) 0 0 mo12 lo13)))))))
abbrev rm_X4_ahead : Room := { frames := 4, cells := 0, slots := 0, locals := 88 }
set_option maxHeartbeats 4000000 in
set_option maxRecDepth 100000 in
theorem c_X4_ahead (l : Launch) (D : va_G) (kc : Nat → ClassId) (a : Nat → Nat) (p1 : Int32) (p2 : Int32) (p3 : Int32) (mo : S2) (lo : SL) (sz : Nat) (K : Int32 → S2 → SL → Prop) (h : w_X4_ahead p1 p2 p3 mo lo K) : MetI l yX4_ahead wsX4_ahead rm_X4_ahead D kc (fun u : S2 × SL => cM kc a u.1 u.2) (mo, lo) [.ref (a 0), .int p1, .int p2, .int p3] sz (fun r u => K r u.1 u.2) := by
  refine q_ei (code := cX4_ahead) (maxL := 6) (by decide) rfl (Nat.le_of_ble_eq_true rfl) ?_
  intro p e s m args below meth c Q A hx hb hml hts hown hK hA hret ls hl hP hD hS
  have hown : s.vm.findClass RX4 = some m.cls := hown
  have hl : lv_has ls 6 [(0, .ref (a 0)), (1, .int p1), (2, .int p2), (3, .int p3)] := hl
  have hP : va_P D vwCl (cM kc a mo lo) s.heap := hP
  have hD : va_D A (cM kc a mo lo) := hD
  have hS : va_S A s.heap s.heap [] := hS
  obtain ⟨H, eH⟩ : ∃ z, z = s.heap := ⟨_, rfl⟩
  obtain ⟨locs, eL⟩ : ∃ z : List Loc, z = [] := ⟨_, rfl⟩
  have hP := q_heap hP eH
  have hS := q_heapS hS eH eL
  refine q_start eH eL ?_
  clear eH eL
  unfold w_X4_ahead at h
  refine lv_aload_n hx hb dX4_ahead_0 rfl (lv_at hl 0 rfl) ?_
  refine lv_iload_n hx hb dX4_ahead_1 rfl (lv_at hl 1 rfl) ?_
  refine q_cVi (As := [.int p1]) (rest := []) ⟨hx, hb, hml, hown, hts⟩ hK (c_X4_isOne l D kc a p1 mo lo H.size _ h) (cwV 1 hts gX4_ahead_X4_isOne rfl rfl rfl (by decide +kernel) ⟨Nat.le_of_ble_eq_true rfl, Nat.le_of_ble_eq_true rfl⟩) (cut_same (fun u : S2 × SL => cM kc a u.1 u.2) (mo, lo)) hP hD hS hA 4 0 rfl rfl rfl hl.1 rfl (Nat.le_of_ble_eq_true rfl) dX4_ahead_2 ⟨Nat.zero_le _, Nat.zero_le _⟩ (fun r3 u4 H locs h hP hD hS => ?_)
  obtain ⟨mo1, lo2⟩ := u4
  have hP : va_P D vwCl (cM kc a mo1 lo2) H := hP
  have hD : va_D A (cM kc a mo1 lo2) := hD
  refine lv_if_eq (tgt := 22) hx hb dX4_ahead_5 (by decide) (fun c5 => ?_) (fun c5 => ?_)
  · have h := br1 h c5
    refine lv_iconst (v := -1) hx hb dX4_ahead_22 (by decide) ?_
    exact hret (-1) (mo1, lo2) H locs ls _ h hP hD hS dX4_ahead_23
  · have h := br2 h c5
    refine lv_iload_n hx hb dX4_ahead_8 rfl (lv_at hl 2 rfl) ?_
    refine q_cSi (As := [.int p2]) (rest := []) ⟨hx, hb, hml, hown, hts⟩ hK (c_X4_isFar l D kc p2 H.size _ h) (va_cwS 1 hts gX4_ahead_X4_isFar rfl rfl rfl (by decide +kernel) ⟨Nat.le_of_ble_eq_true rfl, Nat.le_of_ble_eq_true rfl⟩) (cut_nil _) hP hD hS hA rfl hl.1 rfl (Nat.le_of_ble_eq_true rfl) dX4_ahead_9 ⟨Nat.zero_le _, Nat.zero_le _⟩ (fun r6 _ H locs h hP hD hS => ?_)
    have hP : va_P D vwCl (cM kc a mo1 lo2) H := hP
    have hD : va_D A (cM kc a mo1 lo2) := hD
    refine lv_if_eq (tgt := 22) hx hb dX4_ahead_12 (by decide) (fun c8 => ?_) (fun c8 => ?_)
    · have h := br1 h c8
      refine lv_iconst (v := -1) hx hb dX4_ahead_22 (by decide) ?_
      exact hret (-1) (mo1, lo2) H locs ls _ h hP hD hS dX4_ahead_23
    · have h := br2 h c8
      refine lv_iload_n hx hb dX4_ahead_15 rfl (lv_at hl 3 rfl) ?_
      refine q_cSi (As := [.int p3]) (rest := []) ⟨hx, hb, hml, hown, hts⟩ hK (c_X4_isPart l D kc p3 H.size _ h) (va_cwS 1 hts gX4_ahead_X4_isPart rfl rfl rfl (by decide +kernel) ⟨Nat.le_of_ble_eq_true rfl, Nat.le_of_ble_eq_true rfl⟩) (cut_nil _) hP hD hS hA rfl hl.1 rfl (Nat.le_of_ble_eq_true rfl) dX4_ahead_16 ⟨Nat.zero_le _, Nat.zero_le _⟩ (fun r9 _ H locs h hP hD hS => ?_)
      have hP : va_P D vwCl (cM kc a mo1 lo2) H := hP
      have hD : va_D A (cM kc a mo1 lo2) := hD
      refine lv_if_ne (tgt := 24) hx hb dX4_ahead_19 (by decide) (fun c11 => ?_) (fun c11 => ?_)
      · have h := br2 h c11
        refine lv_iconst (v := 0) hx hb dX4_ahead_24 (by decide) ?_
        refine lv_istore (lv' := [(4, .int 0), (0, .ref (a 0)), (1, .int p1), (2, .int p2), (3, .int p3)]) hx hb dX4_ahead_25 hl (by decide) rfl (fun ls hl => ?_)
        refine lv_aload_n hx hb dX4_ahead_27 rfl (lv_at hl 1 rfl) ?_
        refine q_cVv (As := []) (rest := []) ⟨hx, hb, hml, hown, hts⟩ hK (c_X4_starts l D kc a mo1 lo2 H.size _ h) (cwV 0 hts gX4_ahead_X4_starts rfl rfl rfl (by decide +kernel) ⟨Nat.le_of_ble_eq_true rfl, Nat.le_of_ble_eq_true rfl⟩) (cut_same (fun u : S2 × SL => cM kc a u.1 u.2) (mo1, lo2)) hP hD hS hA 4 0 rfl rfl rfl hl.1 rfl (Nat.le_of_ble_eq_true rfl) dX4_ahead_28 ⟨Nat.zero_le _, Nat.zero_le _⟩ (fun u14 H locs h hP hD hS => ?_)
        obtain ⟨mo12, lo13⟩ := u14
        have hP : va_P D vwCl (cM kc a mo12 lo13) H := hP
        have hD : va_D A (cM kc a mo12 lo13) := hD
        refine lv_iconst (v := 0) hx hb dX4_ahead_31 (by decide) ?_
        refine lv_istore (lv' := [(5, .int 0), (4, .int 0), (0, .ref (a 0)), (1, .int p1), (2, .int p2), (3, .int p3)]) hx hb dX4_ahead_32 hl (by decide) rfl (fun ls hl => ?_)
        refine h (fun (i15 : Int32) (i16 : Int32) (mo17 : S2) (lo18 : SL) => ∀ (ls : Array Slot) (H : Heap) (locs : List Loc), lv_has ls 6 [(0, .ref (a 0)), (1, .int p1), (2, .int p2), (3, .int p3), (4, .int i15), (5, .int i16)] → va_P D vwCl (cM kc a mo17 lo18) H → va_D A (cM kc a mo17 lo18) → va_S A s.heap H locs → W p l e rm_X4_ahead s m args below meth c H locs 0 0 Q (F0 m 34 ls [])) ?_ ls H locs (lv_sub hl [2, 3, 4, 5, 1, 0] rfl) hP hD hS
        intro i15 i16 mo17 lo18 h ls H locs hl hP hD hS
        refine lv_iload hx hb dX4_ahead_34 (lv_at hl 5 rfl) ?_
        refine lv_iload_n hx hb dX4_ahead_36 rfl (lv_at hl 2 rfl) ?_
        refine lv_icmp_ge (tgt := 72) hx hb dX4_ahead_37 (by decide) (fun c19 => ?_) (fun c19 => ?_)
        · have h := br1 h c19
          refine lv_iload_n hx hb dX4_ahead_72 rfl (lv_at hl 3 rfl) ?_
          refine lv_if_ne (tgt := 85) hx hb dX4_ahead_73 (by decide) (fun c20 => ?_) (fun c20 => ?_)
          · have h := br2 h c20
            refine lv_iload hx hb dX4_ahead_85 (lv_at hl 4 rfl) ?_
            exact hret i15 (mo17, lo18) H locs ls _ h hP hD hS dX4_ahead_87
          · have h := br1 h c20
            refine lv_aload_n hx hb dX4_ahead_76 rfl (lv_at hl 0 rfl) ?_
            refine lv_iload_n hx hb dX4_ahead_77 rfl (lv_at hl 1 rfl) ?_
            refine lv_iconst (v := 1) hx hb dX4_ahead_78 (by decide) ?_
            refine q_cVi (As := [.int p1, .int 1]) (rest := []) ⟨hx, hb, hml, hown, hts⟩ hK (c_X4_of l D kc a p1 (1 : Int32) mo17 lo18 H.size _ h) (cwV 2 hts gX4_ahead_X4_of rfl rfl rfl (by decide +kernel) ⟨Nat.le_of_ble_eq_true rfl, Nat.le_of_ble_eq_true rfl⟩) (cut_same (fun u : S2 × SL => cM kc a u.1 u.2) (mo17, lo18)) hP hD hS hA 4 0 rfl rfl rfl hl.1 rfl (Nat.le_of_ble_eq_true rfl) dX4_ahead_79 ⟨Nat.zero_le _, Nat.zero_le _⟩ (fun r23 u24 H locs h hP hD hS => ?_)
            obtain ⟨mo21, lo22⟩ := u24
            have hP : va_P D vwCl (cM kc a mo21 lo22) H := hP
            have hD : va_D A (cM kc a mo21 lo22) := hD
            refine lv_goto (tgt := 87) hx hb dX4_ahead_82 (by decide) ?_
            exact hret r23 (mo21, lo22) H locs ls _ h hP hD hS dX4_ahead_87
        · have h := br2 h c19
          refine lv_aload_n hx hb dX4_ahead_40 rfl (lv_at hl 0 rfl) ?_
          refine q_cVv (As := []) (rest := []) ⟨hx, hb, hml, hown, hts⟩ hK (c_X4_quarterGoes l D kc a mo17 lo18 H.size _ h) (cwV 0 hts gX4_ahead_X4_quarterGoes rfl rfl rfl (by decide +kernel) ⟨Nat.le_of_ble_eq_true rfl, Nat.le_of_ble_eq_true rfl⟩) (cut_same (fun u : S2 × SL => cM kc a u.1 u.2) (mo17, lo18)) hP hD hS hA 4 0 rfl rfl rfl hl.1 rfl (Nat.le_of_ble_eq_true rfl) dX4_ahead_41 ⟨Nat.zero_le _, Nat.zero_le _⟩ (fun u27 H locs h hP hD hS => ?_)
          obtain ⟨mo25, lo26⟩ := u27
          have hP : va_P D vwCl (cM kc a mo25 lo26) H := hP
          have hD : va_D A (cM kc a mo25 lo26) := hD
          refine lv_iload hx hb dX4_ahead_44 (lv_at hl 4 rfl) ?_
          refine lv_aload_n hx hb dX4_ahead_46 rfl (lv_at hl 0 rfl) ?_
          refine lv_iload_n hx hb dX4_ahead_47 rfl (lv_at hl 1 rfl) ?_
          refine lv_iconst (v := 1) hx hb dX4_ahead_48 (by decide) ?_
          refine q_cVi (As := [.int p1, .int 1]) (rest := [.int i15]) ⟨hx, hb, hml, hown, hts⟩ hK (c_X4_of l D kc a p1 (1 : Int32) mo25 lo26 H.size _ h) (cwV 2 hts gX4_ahead_X4_of rfl rfl rfl (by decide +kernel) ⟨Nat.le_of_ble_eq_true rfl, Nat.le_of_ble_eq_true rfl⟩) (cut_same (fun u : S2 × SL => cM kc a u.1 u.2) (mo25, lo26)) hP hD hS hA 4 0 rfl rfl rfl hl.1 rfl (Nat.le_of_ble_eq_true rfl) dX4_ahead_49 ⟨Nat.zero_le _, Nat.zero_le _⟩ (fun r30 u31 H locs h hP hD hS => ?_)
          obtain ⟨mo28, lo29⟩ := u31
          have hP : va_P D vwCl (cM kc a mo28 lo29) H := hP
          have hD : va_D A (cM kc a mo28 lo29) := hD
          refine jn_elim h (fun J60 eJ60 h => ?_)
          have hJ_60 : ∀ (k32 : Int32) (ls : Array Slot), J60 k32 → lv_has ls 6 [(0, .ref (a 0)), (1, .int p1), (2, .int p2), (3, .int p3), (5, .int i16)] → W p l e rm_X4_ahead s m args below meth c H locs 0 0 Q (F0 m 60 ls [.int k32, .int i15]) := by
            intro k32 ls h hl
            subst eJ60
            refine q_cSi (As := [.int k32]) (rest := [.int i15]) ⟨hx, hb, hml, hown, hts⟩ hK (c_X4_flag l D kc k32 H.size _ h) (va_cwS 1 hts gX4_ahead_X4_flag rfl rfl rfl (by decide +kernel) ⟨Nat.le_of_ble_eq_true rfl, Nat.le_of_ble_eq_true rfl⟩) (cut_nil _) hP hD hS hA rfl hl.1 rfl (Nat.le_of_ble_eq_true rfl) dX4_ahead_60 ⟨Nat.zero_le _, Nat.zero_le _⟩ (fun r33 _ H locs h hP hD hS => ?_)
            have hP : va_P D vwCl (cM kc a mo28 lo29) H := hP
            have hD : va_D A (cM kc a mo28 lo29) := hD
            refine lv_iadd hx hb dX4_ahead_63 ?_
            refine lv_topi (fun x35 ex35 => ?_)
            have h := nm_out h x35 ex35
            refine lv_istore (lv' := [(4, .int x35), (0, .ref (a 0)), (1, .int p1), (2, .int p2), (3, .int p3), (5, .int i16)]) hx hb dX4_ahead_64 hl (by decide) rfl (fun ls hl => ?_)
            obtain ⟨x36, ex36⟩ : ∃ z : Int32, z = i16 + 1 := ⟨_, rfl⟩
            have h := nm_out h x36 ex36
            refine lv_iinc (v := x36) (lv' := [(5, .int x36), (4, .int x35), (0, .ref (a 0)), (1, .int p1), (2, .int p2), (3, .int p3)]) hx hb dX4_ahead_66 hl (k := 5) rfl (by rw [ex36]; rfl) (by decide) rfl (fun ls hl => ?_)
            refine lv_goto (tgt := 34) hx hb dX4_ahead_69 (by decide) ?_
            exact h ls H locs (lv_sub hl [2, 3, 4, 5, 1, 0] rfl) hP hD hS
          refine lv_if_ne (tgt := 59) hx hb dX4_ahead_52 (by decide) (fun c37 => ?_) (fun c37 => ?_)
          · have h := br2 h c37
            refine lv_iconst (v := 0) hx hb dX4_ahead_59 (by decide) ?_
            exact hJ_60 0 ls h (lv_sub hl [0, 1, 2, 3, 5] rfl)
          · have h := br1 h c37
            refine lv_iconst (v := 1) hx hb dX4_ahead_55 (by decide) ?_
            refine lv_goto (tgt := 60) hx hb dX4_ahead_56 (by decide) ?_
            exact hJ_60 1 ls h (lv_sub hl [0, 1, 2, 3, 5] rfl)
      · have h := br1 h c11
        refine lv_iconst (v := -1) hx hb dX4_ahead_22 (by decide) ?_
        exact hret (-1) (mo1, lo2) H locs ls _ h hP hD hS dX4_ahead_23

def w_X4_quartersTo (p1 : Int32) (mo : S2) (lo : SL) (K : Int32 → S2 → SL → Prop) : Prop := lfp3 (fun G2 (i1 : Int32) (mo2 : S2) (lo3 : SL) => br (60 < i1) (K (-4) mo2 lo3) (br ((mo2 2 (22 : Int32).toNatClampNeg) = p1) (K i1 mo2 lo3) (w_X4_quarterGoes mo2 lo3 (fun mo6 lo7 => nm (i1 + 1 : Int32) (fun x9 => G2 x9 mo6 lo7))))) 0 mo lo
abbrev rm_X4_quartersTo : Room := { frames := 4, cells := 0, slots := 0, locals := 88 }
set_option maxHeartbeats 4000000 in
set_option maxRecDepth 100000 in
theorem c_X4_quartersTo (l : Launch) (D : va_G) (kc : Nat → ClassId) (a : Nat → Nat) (p1 : Int32) (mo : S2) (lo : SL) (sz : Nat) (K : Int32 → S2 → SL → Prop) (h : w_X4_quartersTo p1 mo lo K) : MetI l yX4_quartersTo wsX4_quartersTo rm_X4_quartersTo D kc (fun u : S2 × SL => cM kc a u.1 u.2) (mo, lo) [.ref (a 0), .int p1] sz (fun r u => K r u.1 u.2) := by
  refine q_ei (code := cX4_quartersTo) (maxL := 3) (by decide) rfl (Nat.le_of_ble_eq_true rfl) ?_
  intro p e s m args below meth c Q A hx hb hml hts hown hK hA hret ls hl hP hD hS
  have hown : s.vm.findClass RX4 = some m.cls := hown
  have hl : lv_has ls 3 [(0, .ref (a 0)), (1, .int p1)] := hl
  have hP : va_P D vwCl (cM kc a mo lo) s.heap := hP
  have hD : va_D A (cM kc a mo lo) := hD
  have hS : va_S A s.heap s.heap [] := hS
  obtain ⟨H, eH⟩ : ∃ z, z = s.heap := ⟨_, rfl⟩
  obtain ⟨locs, eL⟩ : ∃ z : List Loc, z = [] := ⟨_, rfl⟩
  have hP := q_heap hP eH
  have hS := q_heapS hS eH eL
  refine q_start eH eL ?_
  clear eH eL
  have hi4 : ∀ w ∈ u_ws RX4 TX4 29, w ∈ wsX4_quartersTo := by decide +kernel
  unfold w_X4_quartersTo at h
  refine lv_iconst (v := 0) hx hb dX4_quartersTo_0 (by decide) ?_
  refine lv_istore_n (lv' := [(2, .int 0), (0, .ref (a 0)), (1, .int p1)]) hx hb dX4_quartersTo_1 rfl hl (by decide) rfl (fun ls hl => ?_)
  refine h (fun (i1 : Int32) (mo2 : S2) (lo3 : SL) => ∀ (ls : Array Slot) (H : Heap) (locs : List Loc), lv_has ls 3 [(0, .ref (a 0)), (1, .int p1), (2, .int i1)] → va_P D vwCl (cM kc a mo2 lo3) H → va_D A (cM kc a mo2 lo3) → va_S A s.heap H locs → W p l e rm_X4_quartersTo s m args below meth c H locs 0 0 Q (F0 m 2 ls [])) ?_ ls H locs (lv_sub hl [1, 2, 0] rfl) hP hD hS
  intro i1 mo2 lo3 h ls H locs hl hP hD hS
  refine lv_iload_n hx hb dX4_quartersTo_2 rfl (lv_at hl 2 rfl) ?_
  refine lv_bipush (v := 60) hx hb dX4_quartersTo_3 (by decide) ?_
  refine lv_icmp_gt (tgt := 31) hx hb dX4_quartersTo_5 (by decide) (fun c4 => ?_) (fun c4 => ?_)
  · have h := br1 h c4
    refine lv_bipush (v := -4) hx hb dX4_quartersTo_31 (by decide) ?_
    exact hret (-4) (mo2, lo3) H locs ls _ h hP hD hS dX4_quartersTo_33
  · have h := br2 h c4
    refine lv_aload_n hx hb dX4_quartersTo_8 rfl (lv_at hl 0 rfl) ?_
    refine va_get (D := D) (ci := 4) (v := .ref (a 2)) (C := RX4) (T := TX4) (N := 29) hx hb hts hi4 hown hK.1 hP 0 rfl rfl 1 (by decide) (hts (.fieldLink RX4 13 "LastPennyModel" "now" "[I") (by decide +kernel)) (fun _ h9 => h9) rfl dX4_quartersTo_9 ?_
    refine lv_bipush (v := 22) hx hb dX4_quartersTo_12 (by decide) ?_
    refine va_iald hx hb hK.1 hP 2 0 rfl rfl (by unfold vp_in; decide) dX4_quartersTo_14 ?_
    refine lv_iload_n hx hb dX4_quartersTo_15 rfl (lv_at hl 1 rfl) ?_
    refine lv_icmp_ne (tgt := 21) hx hb dX4_quartersTo_16 (by decide) (fun c5 => ?_) (fun c5 => ?_)
    · have h := br2 h c5
      refine lv_aload_n hx hb dX4_quartersTo_21 rfl (lv_at hl 0 rfl) ?_
      refine q_cVv (As := []) (rest := []) ⟨hx, hb, hml, hown, hts⟩ hK (c_X4_quarterGoes l D kc a mo2 lo3 H.size _ h) (cwV 0 hts gX4_quartersTo_X4_quarterGoes rfl rfl rfl (by decide +kernel) ⟨Nat.le_of_ble_eq_true rfl, Nat.le_of_ble_eq_true rfl⟩) (cut_same (fun u : S2 × SL => cM kc a u.1 u.2) (mo2, lo3)) hP hD hS hA 4 0 rfl rfl rfl hl.1 rfl (Nat.le_of_ble_eq_true rfl) dX4_quartersTo_22 ⟨Nat.zero_le _, Nat.zero_le _⟩ (fun u8 H locs h hP hD hS => ?_)
      obtain ⟨mo6, lo7⟩ := u8
      have hP : va_P D vwCl (cM kc a mo6 lo7) H := hP
      have hD : va_D A (cM kc a mo6 lo7) := hD
      obtain ⟨x9, ex9⟩ : ∃ z : Int32, z = i1 + 1 := ⟨_, rfl⟩
      have h := nm_out h x9 ex9
      refine lv_iinc (v := x9) (lv' := [(2, .int x9), (0, .ref (a 0)), (1, .int p1)]) hx hb dX4_quartersTo_25 hl (k := 2) rfl (by rw [ex9]; rfl) (by decide) rfl (fun ls hl => ?_)
      refine lv_goto (tgt := 2) hx hb dX4_quartersTo_28 (by decide) ?_
      exact h ls H locs (lv_sub hl [1, 2, 0] rfl) hP hD hS
    · have h := br1 h c5
      refine lv_iload_n hx hb dX4_quartersTo_19 rfl (lv_at hl 2 rfl) ?_
      exact hret i1 (mo2, lo3) H locs ls _ h hP hD hS dX4_quartersTo_20

def w_X4_soonest (p1 : Int32) (mo : S2) (lo : SL) (K : Int32 → S2 → SL → Prop) : Prop := w_X4_isOne p1 mo lo (fun r3 mo1 lo2 => br (r3 = 0) (K (-1) mo1 lo2) (w_X4_starts mo1 lo2 (fun mo6 lo7 => w_X4_quartersTo p1 mo6 lo7 (fun r11 mo9 lo10 => K r11 mo9 lo10))))
abbrev rm_X4_soonest : Room := { frames := 5, cells := 0, slots := 0, locals := 110 }
set_option maxHeartbeats 4000000 in
set_option maxRecDepth 100000 in
theorem c_X4_soonest (l : Launch) (D : va_G) (kc : Nat → ClassId) (a : Nat → Nat) (p1 : Int32) (mo : S2) (lo : SL) (sz : Nat) (K : Int32 → S2 → SL → Prop) (h : w_X4_soonest p1 mo lo K) : MetI l yX4_soonest wsX4_soonest rm_X4_soonest D kc (fun u : S2 × SL => cM kc a u.1 u.2) (mo, lo) [.ref (a 0), .int p1] sz (fun r u => K r u.1 u.2) := by
  refine q_ei (code := cX4_soonest) (maxL := 2) (by decide) rfl (Nat.le_of_ble_eq_true rfl) ?_
  intro p e s m args below meth c Q A hx hb hml hts hown hK hA hret ls hl hP hD hS
  have hown : s.vm.findClass RX4 = some m.cls := hown
  have hl : lv_has ls 2 [(0, .ref (a 0)), (1, .int p1)] := hl
  have hP : va_P D vwCl (cM kc a mo lo) s.heap := hP
  have hD : va_D A (cM kc a mo lo) := hD
  have hS : va_S A s.heap s.heap [] := hS
  obtain ⟨H, eH⟩ : ∃ z, z = s.heap := ⟨_, rfl⟩
  obtain ⟨locs, eL⟩ : ∃ z : List Loc, z = [] := ⟨_, rfl⟩
  have hP := q_heap hP eH
  have hS := q_heapS hS eH eL
  refine q_start eH eL ?_
  clear eH eL
  unfold w_X4_soonest at h
  refine lv_aload_n hx hb dX4_soonest_0 rfl (lv_at hl 0 rfl) ?_
  refine lv_iload_n hx hb dX4_soonest_1 rfl (lv_at hl 1 rfl) ?_
  refine q_cVi (As := [.int p1]) (rest := []) ⟨hx, hb, hml, hown, hts⟩ hK (c_X4_isOne l D kc a p1 mo lo H.size _ h) (cwV 1 hts gX4_soonest_X4_isOne rfl rfl rfl (by decide +kernel) ⟨Nat.le_of_ble_eq_true rfl, Nat.le_of_ble_eq_true rfl⟩) (cut_same (fun u : S2 × SL => cM kc a u.1 u.2) (mo, lo)) hP hD hS hA 4 0 rfl rfl rfl hl.1 rfl (Nat.le_of_ble_eq_true rfl) dX4_soonest_2 ⟨Nat.zero_le _, Nat.zero_le _⟩ (fun r3 u4 H locs h hP hD hS => ?_)
  obtain ⟨mo1, lo2⟩ := u4
  have hP : va_P D vwCl (cM kc a mo1 lo2) H := hP
  have hD : va_D A (cM kc a mo1 lo2) := hD
  refine lv_if_ne (tgt := 10) hx hb dX4_soonest_5 (by decide) (fun c5 => ?_) (fun c5 => ?_)
  · have h := br2 h c5
    refine lv_aload_n hx hb dX4_soonest_10 rfl (lv_at hl 0 rfl) ?_
    refine q_cVv (As := []) (rest := []) ⟨hx, hb, hml, hown, hts⟩ hK (c_X4_starts l D kc a mo1 lo2 H.size _ h) (cwV 0 hts gX4_soonest_X4_starts rfl rfl rfl (by decide +kernel) ⟨Nat.le_of_ble_eq_true rfl, Nat.le_of_ble_eq_true rfl⟩) (cut_same (fun u : S2 × SL => cM kc a u.1 u.2) (mo1, lo2)) hP hD hS hA 4 0 rfl rfl rfl hl.1 rfl (Nat.le_of_ble_eq_true rfl) dX4_soonest_11 ⟨Nat.zero_le _, Nat.zero_le _⟩ (fun u8 H locs h hP hD hS => ?_)
    obtain ⟨mo6, lo7⟩ := u8
    have hP : va_P D vwCl (cM kc a mo6 lo7) H := hP
    have hD : va_D A (cM kc a mo6 lo7) := hD
    refine lv_aload_n hx hb dX4_soonest_14 rfl (lv_at hl 0 rfl) ?_
    refine lv_iload_n hx hb dX4_soonest_15 rfl (lv_at hl 1 rfl) ?_
    refine q_cVi (As := [.int p1]) (rest := []) ⟨hx, hb, hml, hown, hts⟩ hK (c_X4_quartersTo l D kc a p1 mo6 lo7 H.size _ h) (cwV 1 hts gX4_soonest_X4_quartersTo rfl rfl rfl (by decide +kernel) ⟨Nat.le_of_ble_eq_true rfl, Nat.le_of_ble_eq_true rfl⟩) (cut_same (fun u : S2 × SL => cM kc a u.1 u.2) (mo6, lo7)) hP hD hS hA 4 0 rfl rfl rfl hl.1 rfl (Nat.le_of_ble_eq_true rfl) dX4_soonest_16 ⟨Nat.zero_le _, Nat.zero_le _⟩ (fun r11 u12 H locs h hP hD hS => ?_)
    obtain ⟨mo9, lo10⟩ := u12
    have hP : va_P D vwCl (cM kc a mo9 lo10) H := hP
    have hD : va_D A (cM kc a mo9 lo10) := hD
    exact hret r11 (mo9, lo10) H locs ls _ h hP hD hS dX4_soonest_19
  · have h := br1 h c5
    refine lv_iconst (v := -1) hx hb dX4_soonest_8 (by decide) ?_
    exact hret (-1) (mo1, lo2) H locs ls _ h hP hD hS dX4_soonest_9

def w_X4_common (p0 : Int64) (p2 : Int64) (K : Int64 → Prop) : Prop := lfp2 (fun G6 (i1 : Int64) (i2 : Int64) => br ((lg_cmp i2 0) = 0) (K i1) ((¬ i2 = 0) ∧ (nm ((i1 - i1 / i2 * i2) : Int64) (fun x5 => G6 i2 x5)))) p0 p2
abbrev rm_X4_common : Room := { frames := 0, cells := 0, slots := 0, locals := 0 }
set_option maxHeartbeats 4000000 in
set_option maxRecDepth 100000 in
theorem c_X4_common (l : Launch) (D : va_G) (kc : Nat → ClassId) (p0 : Int64) (p2 : Int64) (sz : Nat) (K : Int64 → Prop) (h : w_X4_common p0 p2 K) : MetL l yX4_common wsX4_common rm_X4_common D kc (fun _ : Unit => []) () [.long p0, .long p2] sz (fun r _ => K r) := by
  refine q_el (code := cX4_common) (maxL := 10) (by decide) rfl (Nat.le_of_ble_eq_true rfl) ?_
  intro p e s m args below meth c Q A hx hb hml hts hown hK hA hret ls hl hP hD hS
  have hown : s.vm.findClass RX4 = some m.cls := hown
  have hl : lv_has ls 10 [(0, .long p0), (2, .long p2)] := hl
  have hP : va_P D vwCl [] s.heap := hP
  have hS : va_S A s.heap s.heap [] := hS
  obtain ⟨H, eH⟩ : ∃ z, z = s.heap := ⟨_, rfl⟩
  obtain ⟨locs, eL⟩ : ∃ z : List Loc, z = [] := ⟨_, rfl⟩
  have hP := q_heap hP eH
  have hS := q_heapS hS eH eL
  refine q_start eH eL ?_
  clear eH eL
  unfold w_X4_common at h
  refine lv_lload_n hx hb dX4_common_0 rfl (lv_at hl 0 rfl) ?_
  refine lv_lstore (lv' := [(4, .long p0), (0, .long p0), (2, .long p2)]) hx hb dX4_common_1 hl (by decide) rfl (fun ls hl => ?_)
  refine lv_lload_n hx hb dX4_common_3 rfl (lv_at hl 2 rfl) ?_
  refine lv_lstore (lv' := [(6, .long p2), (4, .long p0), (0, .long p0), (2, .long p2)]) hx hb dX4_common_4 hl (by decide) rfl (fun ls hl => ?_)
  refine h (fun (i1 : Int64) (i2 : Int64) => ∀ (ls : Array Slot), lv_has ls 10 [(4, .long i1), (6, .long i2)] → W p l e rm_X4_common s m args below meth c H locs 0 0 Q (F0 m 6 ls [])) ?_ ls (lv_sub hl [1, 0] rfl)
  intro i1 i2 h ls hl
  refine lv_lload hx hb dX4_common_6 (lv_at hl 1 rfl) ?_
  refine lv_lconst (v := 0) hx hb dX4_common_8 (by decide) ?_
  refine W.lcmp hx hb dX4_common_9 ?_
  refine lv_if_eq (tgt := 31) hx hb dX4_common_10 (by decide) (fun c3 => ?_) (fun c3 => ?_)
  · have h := br1 h c3
    refine lv_lload hx hb dX4_common_31 (lv_at hl 0 rfl) ?_
    exact hret i1 () H locs ls _ h hP hD hS dX4_common_33
  · have h := br2 h c3
    refine lv_lload hx hb dX4_common_13 (lv_at hl 0 rfl) ?_
    refine lv_lload hx hb dX4_common_15 (lv_at hl 1 rfl) ?_
    obtain ⟨hn4, h⟩ := h
    refine lv_lrem hx hb dX4_common_17 hn4 ?_
    refine lv_topl (fun x5 ex5 => ?_)
    have h := nm_out h x5 ex5
    refine lv_lstore (lv' := [(8, .long x5), (4, .long i1), (6, .long i2)]) hx hb dX4_common_18 hl (by decide) rfl (fun ls hl => ?_)
    refine lv_lload hx hb dX4_common_20 (lv_at hl 2 rfl) ?_
    refine lv_lstore (lv' := [(4, .long i2), (8, .long x5), (6, .long i2)]) hx hb dX4_common_22 hl (by decide) rfl (fun ls hl => ?_)
    refine lv_lload hx hb dX4_common_24 (lv_at hl 1 rfl) ?_
    refine lv_lstore (lv' := [(6, .long x5), (4, .long i2), (8, .long x5)]) hx hb dX4_common_26 hl (by decide) rfl (fun ls hl => ?_)
    refine lv_goto (tgt := 6) hx hb dX4_common_28 (by decide) ?_
    exact h ls (lv_sub hl [1, 0] rfl)

def w_X4_told (p0 : Int64) (p2 : Int64) (p4 : Int32) (K : Int64 → Prop) : Prop := w_X4_common p2 p0 (fun r1 => br (p4 = 0) ((¬ r1 = 0) ∧ (K (p0 / r1))) ((¬ r1 = 0) ∧ (K (p2 / r1))))
abbrev rm_X4_told : Room := { frames := 1, cells := 0, slots := 0, locals := 29 }
set_option maxHeartbeats 4000000 in
set_option maxRecDepth 100000 in
theorem c_X4_told (l : Launch) (D : va_G) (kc : Nat → ClassId) (p0 : Int64) (p2 : Int64) (p4 : Int32) (sz : Nat) (K : Int64 → Prop) (h : w_X4_told p0 p2 p4 K) : MetL l yX4_told wsX4_told rm_X4_told D kc (fun _ : Unit => []) () [.long p0, .long p2, .int p4] sz (fun r _ => K r) := by
  refine q_el (code := cX4_told) (maxL := 7) (by decide) rfl (Nat.le_of_ble_eq_true rfl) ?_
  intro p e s m args below meth c Q A hx hb hml hts hown hK hA hret ls hl hP hD hS
  have hown : s.vm.findClass RX4 = some m.cls := hown
  have hl : lv_has ls 7 [(0, .long p0), (2, .long p2), (4, .int p4)] := hl
  have hP : va_P D vwCl [] s.heap := hP
  have hS : va_S A s.heap s.heap [] := hS
  obtain ⟨H, eH⟩ : ∃ z, z = s.heap := ⟨_, rfl⟩
  obtain ⟨locs, eL⟩ : ∃ z : List Loc, z = [] := ⟨_, rfl⟩
  have hP := q_heap hP eH
  have hS := q_heapS hS eH eL
  refine q_start eH eL ?_
  clear eH eL
  unfold w_X4_told at h
  refine lv_lload_n hx hb dX4_told_0 rfl (lv_at hl 1 rfl) ?_
  refine lv_lload_n hx hb dX4_told_1 rfl (lv_at hl 0 rfl) ?_
  refine q_cSl (As := [.long p2, .long p0]) (rest := []) ⟨hx, hb, hml, hown, hts⟩ hK (c_X4_common l D kc p2 p0 H.size _ h) (va_cwS 2 hts gX4_told_X4_common rfl rfl rfl (by decide +kernel) ⟨Nat.le_of_ble_eq_true rfl, Nat.le_of_ble_eq_true rfl⟩) (cut_nil _) hP hD hS hA rfl hl.1 rfl (Nat.le_of_ble_eq_true rfl) dX4_told_2 ⟨Nat.zero_le _, Nat.zero_le _⟩ (fun r1 _ H locs h hP hD hS => ?_)
  have hP : va_P D vwCl ([]) H := hP
  have hD : va_D A ([]) := hD
  refine lv_lstore (lv' := [(5, .long r1), (0, .long p0), (2, .long p2), (4, .int p4)]) hx hb dX4_told_5 hl (by decide) rfl (fun ls hl => ?_)
  refine lv_iload hx hb dX4_told_7 (lv_at hl 3 rfl) ?_
  refine lv_if_ne (tgt := 19) hx hb dX4_told_9 (by decide) (fun c3 => ?_) (fun c3 => ?_)
  · have h := br2 h c3
    refine lv_lload_n hx hb dX4_told_19 rfl (lv_at hl 2 rfl) ?_
    refine lv_lload hx hb dX4_told_20 (lv_at hl 0 rfl) ?_
    obtain ⟨hn4, h⟩ := h
    refine lv_ldiv hx hb dX4_told_22 hn4 ?_
    exact hret (p2 / r1) () H locs ls _ h hP hD hS dX4_told_23
  · have h := br1 h c3
    refine lv_lload_n hx hb dX4_told_12 rfl (lv_at hl 1 rfl) ?_
    refine lv_lload hx hb dX4_told_13 (lv_at hl 0 rfl) ?_
    obtain ⟨hn5, h⟩ := h
    refine lv_ldiv hx hb dX4_told_15 hn5 ?_
    refine lv_goto (tgt := 23) hx hb dX4_told_16 (by decide) ?_
    exact hret (p0 / r1) () H locs ls _ h hP hD hS dX4_told_23

def w_X4_share (p1 : Int32) (p2 : Int32) (p3 : Int32) (mo : S2) (lo : SL) (K : Int64 → S2 → SL → Prop) : Prop := w_X4_isOne p1 mo lo (fun r3 mo1 lo2 => br (r3 = 0) (K (-1) mo1 lo2) (w_X4_in (p2.toInt64) (1 : Int64) (60 : Int64) (fun r6 => br (r6 = 0) (K (-1) mo1 lo2) (w_X4_isPart p3 (fun r9 => br (r9 = 0) (K (-1) mo1 lo2) (w_X4_starts mo1 lo2 (fun mo12 lo13 => lfp4 (fun G41 (i15 : Int32) (i16 : Int32) (mo17 : S2) (lo18 : SL) => br (p2 ≤ i16) (w_X4_told (i15.toInt64) (p2.toInt64) p3 (fun r20 => K r20 mo17 lo18)) (w_X4_quarterGoes mo17 lo18 (fun mo22 lo23 => jn (fun (k25 : Int32) => w_X4_flag k25 (fun r26 => nm ((i15 + r26) : Int32) (fun x28 => nm (i16 + 1 : Int32) (fun x29 => G41 x28 x29 mo22 lo23)))) (fun J69 => br ((mo22 2 (22 : Int32).toNatClampNeg) = p1) (J69 1) (J69 0))))) 0 0 mo12 lo13)))))))
abbrev rm_X4_share : Room := { frames := 4, cells := 0, slots := 0, locals := 88 }
set_option maxHeartbeats 4000000 in
set_option maxRecDepth 100000 in
theorem c_X4_share (l : Launch) (D : va_G) (kc : Nat → ClassId) (a : Nat → Nat) (p1 : Int32) (p2 : Int32) (p3 : Int32) (mo : S2) (lo : SL) (sz : Nat) (K : Int64 → S2 → SL → Prop) (h : w_X4_share p1 p2 p3 mo lo K) : MetL l yX4_share wsX4_share rm_X4_share D kc (fun u : S2 × SL => cM kc a u.1 u.2) (mo, lo) [.ref (a 0), .int p1, .int p2, .int p3] sz (fun r u => K r u.1 u.2) := by
  refine q_el (code := cX4_share) (maxL := 6) (by decide) rfl (Nat.le_of_ble_eq_true rfl) ?_
  intro p e s m args below meth c Q A hx hb hml hts hown hK hA hret ls hl hP hD hS
  have hown : s.vm.findClass RX4 = some m.cls := hown
  have hl : lv_has ls 6 [(0, .ref (a 0)), (1, .int p1), (2, .int p2), (3, .int p3)] := hl
  have hP : va_P D vwCl (cM kc a mo lo) s.heap := hP
  have hD : va_D A (cM kc a mo lo) := hD
  have hS : va_S A s.heap s.heap [] := hS
  obtain ⟨H, eH⟩ : ∃ z, z = s.heap := ⟨_, rfl⟩
  obtain ⟨locs, eL⟩ : ∃ z : List Loc, z = [] := ⟨_, rfl⟩
  have hP := q_heap hP eH
  have hS := q_heapS hS eH eL
  refine q_start eH eL ?_
  clear eH eL
  have hi4 : ∀ w ∈ u_ws RX4 TX4 29, w ∈ wsX4_share := by decide +kernel
  unfold w_X4_share at h
  refine lv_aload_n hx hb dX4_share_0 rfl (lv_at hl 0 rfl) ?_
  refine lv_iload_n hx hb dX4_share_1 rfl (lv_at hl 1 rfl) ?_
  refine q_cVi (As := [.int p1]) (rest := []) ⟨hx, hb, hml, hown, hts⟩ hK (c_X4_isOne l D kc a p1 mo lo H.size _ h) (cwV 1 hts gX4_share_X4_isOne rfl rfl rfl (by decide +kernel) ⟨Nat.le_of_ble_eq_true rfl, Nat.le_of_ble_eq_true rfl⟩) (cut_same (fun u : S2 × SL => cM kc a u.1 u.2) (mo, lo)) hP hD hS hA 4 0 rfl rfl rfl hl.1 rfl (Nat.le_of_ble_eq_true rfl) dX4_share_2 ⟨Nat.zero_le _, Nat.zero_le _⟩ (fun r3 u4 H locs h hP hD hS => ?_)
  obtain ⟨mo1, lo2⟩ := u4
  have hP : va_P D vwCl (cM kc a mo1 lo2) H := hP
  have hD : va_D A (cM kc a mo1 lo2) := hD
  refine lv_if_eq (tgt := 27) hx hb dX4_share_5 (by decide) (fun c5 => ?_) (fun c5 => ?_)
  · have h := br1 h c5
    refine lv_ldc2 (v := -1) hx hb hown (hts (.constantLong RX4 235 (-1)) (by decide +kernel)) dX4_share_27 ?_
    exact hret (-1) (mo1, lo2) H locs ls _ h hP hD hS dX4_share_30
  · have h := br2 h c5
    refine lv_iload_n hx hb dX4_share_8 rfl (lv_at hl 2 rfl) ?_
    refine lv_i2l hx hb dX4_share_9 rfl ?_
    refine lv_lconst (v := 1) hx hb dX4_share_10 (by decide) ?_
    refine lv_ldc2 (v := 60) hx hb hown (hts (.constantLong RX4 220 (60)) (by decide +kernel)) dX4_share_11 ?_
    refine q_cSi (As := [.long (p2.toInt64), .long 1, .long 60]) (rest := []) ⟨hx, hb, hml, hown, hts⟩ hK (c_X4_in l D kc (p2.toInt64) (1 : Int64) (60 : Int64) H.size _ h) (va_cwS 3 hts gX4_share_X4_in rfl rfl rfl (by decide +kernel) ⟨Nat.le_of_ble_eq_true rfl, Nat.le_of_ble_eq_true rfl⟩) (cut_nil _) hP hD hS hA rfl hl.1 rfl (Nat.le_of_ble_eq_true rfl) dX4_share_14 ⟨Nat.zero_le _, Nat.zero_le _⟩ (fun r6 _ H locs h hP hD hS => ?_)
    have hP : va_P D vwCl (cM kc a mo1 lo2) H := hP
    have hD : va_D A (cM kc a mo1 lo2) := hD
    refine lv_if_eq (tgt := 27) hx hb dX4_share_17 (by decide) (fun c8 => ?_) (fun c8 => ?_)
    · have h := br1 h c8
      refine lv_ldc2 (v := -1) hx hb hown (hts (.constantLong RX4 235 (-1)) (by decide +kernel)) dX4_share_27 ?_
      exact hret (-1) (mo1, lo2) H locs ls _ h hP hD hS dX4_share_30
    · have h := br2 h c8
      refine lv_iload_n hx hb dX4_share_20 rfl (lv_at hl 3 rfl) ?_
      refine q_cSi (As := [.int p3]) (rest := []) ⟨hx, hb, hml, hown, hts⟩ hK (c_X4_isPart l D kc p3 H.size _ h) (va_cwS 1 hts gX4_share_X4_isPart rfl rfl rfl (by decide +kernel) ⟨Nat.le_of_ble_eq_true rfl, Nat.le_of_ble_eq_true rfl⟩) (cut_nil _) hP hD hS hA rfl hl.1 rfl (Nat.le_of_ble_eq_true rfl) dX4_share_21 ⟨Nat.zero_le _, Nat.zero_le _⟩ (fun r9 _ H locs h hP hD hS => ?_)
      have hP : va_P D vwCl (cM kc a mo1 lo2) H := hP
      have hD : va_D A (cM kc a mo1 lo2) := hD
      refine lv_if_ne (tgt := 31) hx hb dX4_share_24 (by decide) (fun c11 => ?_) (fun c11 => ?_)
      · have h := br2 h c11
        refine lv_iconst (v := 0) hx hb dX4_share_31 (by decide) ?_
        refine lv_istore (lv' := [(4, .int 0), (0, .ref (a 0)), (1, .int p1), (2, .int p2), (3, .int p3)]) hx hb dX4_share_32 hl (by decide) rfl (fun ls hl => ?_)
        refine lv_aload_n hx hb dX4_share_34 rfl (lv_at hl 1 rfl) ?_
        refine q_cVv (As := []) (rest := []) ⟨hx, hb, hml, hown, hts⟩ hK (c_X4_starts l D kc a mo1 lo2 H.size _ h) (cwV 0 hts gX4_share_X4_starts rfl rfl rfl (by decide +kernel) ⟨Nat.le_of_ble_eq_true rfl, Nat.le_of_ble_eq_true rfl⟩) (cut_same (fun u : S2 × SL => cM kc a u.1 u.2) (mo1, lo2)) hP hD hS hA 4 0 rfl rfl rfl hl.1 rfl (Nat.le_of_ble_eq_true rfl) dX4_share_35 ⟨Nat.zero_le _, Nat.zero_le _⟩ (fun u14 H locs h hP hD hS => ?_)
        obtain ⟨mo12, lo13⟩ := u14
        have hP : va_P D vwCl (cM kc a mo12 lo13) H := hP
        have hD : va_D A (cM kc a mo12 lo13) := hD
        refine lv_iconst (v := 0) hx hb dX4_share_38 (by decide) ?_
        refine lv_istore (lv' := [(5, .int 0), (4, .int 0), (0, .ref (a 0)), (1, .int p1), (2, .int p2), (3, .int p3)]) hx hb dX4_share_39 hl (by decide) rfl (fun ls hl => ?_)
        refine h (fun (i15 : Int32) (i16 : Int32) (mo17 : S2) (lo18 : SL) => ∀ (ls : Array Slot) (H : Heap) (locs : List Loc), lv_has ls 6 [(0, .ref (a 0)), (1, .int p1), (2, .int p2), (3, .int p3), (4, .int i15), (5, .int i16)] → va_P D vwCl (cM kc a mo17 lo18) H → va_D A (cM kc a mo17 lo18) → va_S A s.heap H locs → W p l e rm_X4_share s m args below meth c H locs 0 0 Q (F0 m 41 ls [])) ?_ ls H locs (lv_sub hl [2, 3, 4, 5, 1, 0] rfl) hP hD hS
        intro i15 i16 mo17 lo18 h ls H locs hl hP hD hS
        refine lv_iload hx hb dX4_share_41 (lv_at hl 5 rfl) ?_
        refine lv_iload_n hx hb dX4_share_43 rfl (lv_at hl 2 rfl) ?_
        refine lv_icmp_ge (tgt := 81) hx hb dX4_share_44 (by decide) (fun c19 => ?_) (fun c19 => ?_)
        · have h := br1 h c19
          refine lv_iload hx hb dX4_share_81 (lv_at hl 4 rfl) ?_
          refine lv_i2l hx hb dX4_share_83 rfl ?_
          refine lv_iload_n hx hb dX4_share_84 rfl (lv_at hl 2 rfl) ?_
          refine lv_i2l hx hb dX4_share_85 rfl ?_
          refine lv_iload_n hx hb dX4_share_86 rfl (lv_at hl 3 rfl) ?_
          refine q_cSl (As := [.long (i15.toInt64), .long (p2.toInt64), .int p3]) (rest := []) ⟨hx, hb, hml, hown, hts⟩ hK (c_X4_told l D kc (i15.toInt64) (p2.toInt64) p3 H.size _ h) (va_cwS 3 hts gX4_share_X4_told rfl rfl rfl (by decide +kernel) ⟨Nat.le_of_ble_eq_true rfl, Nat.le_of_ble_eq_true rfl⟩) (cut_nil _) hP hD hS hA rfl hl.1 rfl (Nat.le_of_ble_eq_true rfl) dX4_share_87 ⟨Nat.zero_le _, Nat.zero_le _⟩ (fun r20 _ H locs h hP hD hS => ?_)
          have hP : va_P D vwCl (cM kc a mo17 lo18) H := hP
          have hD : va_D A (cM kc a mo17 lo18) := hD
          exact hret r20 (mo17, lo18) H locs ls _ h hP hD hS dX4_share_90
        · have h := br2 h c19
          refine lv_aload_n hx hb dX4_share_47 rfl (lv_at hl 0 rfl) ?_
          refine q_cVv (As := []) (rest := []) ⟨hx, hb, hml, hown, hts⟩ hK (c_X4_quarterGoes l D kc a mo17 lo18 H.size _ h) (cwV 0 hts gX4_share_X4_quarterGoes rfl rfl rfl (by decide +kernel) ⟨Nat.le_of_ble_eq_true rfl, Nat.le_of_ble_eq_true rfl⟩) (cut_same (fun u : S2 × SL => cM kc a u.1 u.2) (mo17, lo18)) hP hD hS hA 4 0 rfl rfl rfl hl.1 rfl (Nat.le_of_ble_eq_true rfl) dX4_share_48 ⟨Nat.zero_le _, Nat.zero_le _⟩ (fun u24 H locs h hP hD hS => ?_)
          obtain ⟨mo22, lo23⟩ := u24
          have hP : va_P D vwCl (cM kc a mo22 lo23) H := hP
          have hD : va_D A (cM kc a mo22 lo23) := hD
          refine lv_iload hx hb dX4_share_51 (lv_at hl 4 rfl) ?_
          refine lv_aload_n hx hb dX4_share_53 rfl (lv_at hl 0 rfl) ?_
          refine va_get (D := D) (ci := 4) (v := .ref (a 2)) (C := RX4) (T := TX4) (N := 29) hx hb hts hi4 hown hK.1 hP 0 rfl rfl 1 (by decide) (hts (.fieldLink RX4 13 "LastPennyModel" "now" "[I") (by decide +kernel)) (fun _ h9 => h9) rfl dX4_share_54 ?_
          refine lv_bipush (v := 22) hx hb dX4_share_57 (by decide) ?_
          refine va_iald hx hb hK.1 hP 2 0 rfl rfl (by unfold vp_in; decide) dX4_share_59 ?_
          refine lv_iload_n hx hb dX4_share_60 rfl (lv_at hl 1 rfl) ?_
          refine jn_elim h (fun J69 eJ69 h => ?_)
          have hJ_69 : ∀ (k25 : Int32) (ls : Array Slot), J69 k25 → lv_has ls 6 [(0, .ref (a 0)), (1, .int p1), (2, .int p2), (3, .int p3), (5, .int i16)] → W p l e rm_X4_share s m args below meth c H locs 0 0 Q (F0 m 69 ls [.int k25, .int i15]) := by
            intro k25 ls h hl
            subst eJ69
            refine q_cSi (As := [.int k25]) (rest := [.int i15]) ⟨hx, hb, hml, hown, hts⟩ hK (c_X4_flag l D kc k25 H.size _ h) (va_cwS 1 hts gX4_share_X4_flag rfl rfl rfl (by decide +kernel) ⟨Nat.le_of_ble_eq_true rfl, Nat.le_of_ble_eq_true rfl⟩) (cut_nil _) hP hD hS hA rfl hl.1 rfl (Nat.le_of_ble_eq_true rfl) dX4_share_69 ⟨Nat.zero_le _, Nat.zero_le _⟩ (fun r26 _ H locs h hP hD hS => ?_)
            have hP : va_P D vwCl (cM kc a mo22 lo23) H := hP
            have hD : va_D A (cM kc a mo22 lo23) := hD
            refine lv_iadd hx hb dX4_share_72 ?_
            refine lv_topi (fun x28 ex28 => ?_)
            have h := nm_out h x28 ex28
            refine lv_istore (lv' := [(4, .int x28), (0, .ref (a 0)), (1, .int p1), (2, .int p2), (3, .int p3), (5, .int i16)]) hx hb dX4_share_73 hl (by decide) rfl (fun ls hl => ?_)
            obtain ⟨x29, ex29⟩ : ∃ z : Int32, z = i16 + 1 := ⟨_, rfl⟩
            have h := nm_out h x29 ex29
            refine lv_iinc (v := x29) (lv' := [(5, .int x29), (4, .int x28), (0, .ref (a 0)), (1, .int p1), (2, .int p2), (3, .int p3)]) hx hb dX4_share_75 hl (k := 5) rfl (by rw [ex29]; rfl) (by decide) rfl (fun ls hl => ?_)
            refine lv_goto (tgt := 41) hx hb dX4_share_78 (by decide) ?_
            exact h ls H locs (lv_sub hl [2, 3, 4, 5, 1, 0] rfl) hP hD hS
          refine lv_icmp_ne (tgt := 68) hx hb dX4_share_61 (by decide) (fun c30 => ?_) (fun c30 => ?_)
          · have h := br2 h c30
            refine lv_iconst (v := 0) hx hb dX4_share_68 (by decide) ?_
            exact hJ_69 0 ls h (lv_sub hl [0, 1, 2, 3, 5] rfl)
          · have h := br1 h c30
            refine lv_iconst (v := 1) hx hb dX4_share_64 (by decide) ?_
            refine lv_goto (tgt := 69) hx hb dX4_share_65 (by decide) ?_
            exact hJ_69 1 ls h (lv_sub hl [0, 1, 2, 3, 5] rfl)
      · have h := br1 h c11
        refine lv_ldc2 (v := -1) hx hb hown (hts (.constantLong RX4 235 (-1)) (by decide +kernel)) dX4_share_27 ?_
        exact hret (-1) (mo1, lo2) H locs ls _ h hP hD hS dX4_share_30

def w_X4_round (mo : S2) (lo : SL) (K : Int32 → S2 → SL → Prop) : Prop := br ((mo 0 3) = 0) (K (-4) mo lo) (w_X4_starts mo lo (fun mo2 lo3 => nm ((1 <<< ((mo2 2 (22 : Int32).toNatClampNeg) &&& 31)) : Int32) (fun x5 => lfp4 (fun G26 (i6 : Int32) (i7 : Int32) (mo8 : S2) (lo9 : SL) => br (60 < i7) (K (-4) mo8 lo9) (w_X4_quarterGoes mo8 lo9 (fun mo11 lo12 => nm ((i6 ||| (1 <<< ((mo11 2 (22 : Int32).toNatClampNeg) &&& 31))) : Int32) (fun x14 => br (x14 = ((1 <<< ((mo11 0 3) &&& 31)) - 1)) (K i7 mo11 lo12) (nm (i7 + 1 : Int32) (fun x16 => G26 x14 x16 mo11 lo12)))))) x5 1 mo2 lo3)))
abbrev rm_X4_round : Room := { frames := 4, cells := 0, slots := 0, locals := 88 }
set_option maxHeartbeats 4000000 in
set_option maxRecDepth 100000 in
theorem c_X4_round (l : Launch) (D : va_G) (kc : Nat → ClassId) (a : Nat → Nat) (mo : S2) (lo : SL) (sz : Nat) (K : Int32 → S2 → SL → Prop) (h : w_X4_round mo lo K) : MetI l yX4_round wsX4_round rm_X4_round D kc (fun u : S2 × SL => cM kc a u.1 u.2) (mo, lo) [.ref (a 0)] sz (fun r u => K r u.1 u.2) := by
  refine q_ei (code := cX4_round) (maxL := 3) (by decide) rfl (Nat.le_of_ble_eq_true rfl) ?_
  intro p e s m args below meth c Q A hx hb hml hts hown hK hA hret ls hl hP hD hS
  have hown : s.vm.findClass RX4 = some m.cls := hown
  have hl : lv_has ls 3 [(0, .ref (a 0))] := hl
  have hP : va_P D vwCl (cM kc a mo lo) s.heap := hP
  have hD : va_D A (cM kc a mo lo) := hD
  have hS : va_S A s.heap s.heap [] := hS
  obtain ⟨H, eH⟩ : ∃ z, z = s.heap := ⟨_, rfl⟩
  obtain ⟨locs, eL⟩ : ∃ z : List Loc, z = [] := ⟨_, rfl⟩
  have hP := q_heap hP eH
  have hS := q_heapS hS eH eL
  refine q_start eH eL ?_
  clear eH eL
  have hi4 : ∀ w ∈ u_ws RX4 TX4 29, w ∈ wsX4_round := by decide +kernel
  unfold w_X4_round at h
  refine lv_aload_n hx hb dX4_round_0 rfl (lv_at hl 0 rfl) ?_
  refine va_get (D := D) (ci := 4) (v := .int (mo 0 3)) (C := RX4) (T := TX4) (N := 29) hx hb hts hi4 hown hK.1 hP 0 rfl rfl 3 (by decide) (hts (.fieldLink RX4 67 "LastPennyModel" "people" "I") (by decide +kernel)) (fun _ h9 => h9) rfl dX4_round_1 ?_
  refine lv_if_ne (tgt := 10) hx hb dX4_round_4 (by decide) (fun c1 => ?_) (fun c1 => ?_)
  · have h := br2 h c1
    refine lv_aload_n hx hb dX4_round_10 rfl (lv_at hl 0 rfl) ?_
    refine q_cVv (As := []) (rest := []) ⟨hx, hb, hml, hown, hts⟩ hK (c_X4_starts l D kc a mo lo H.size _ h) (cwV 0 hts gX4_round_X4_starts rfl rfl rfl (by decide +kernel) ⟨Nat.le_of_ble_eq_true rfl, Nat.le_of_ble_eq_true rfl⟩) (cut_same (fun u : S2 × SL => cM kc a u.1 u.2) (mo, lo)) hP hD hS hA 4 0 rfl rfl rfl hl.1 rfl (Nat.le_of_ble_eq_true rfl) dX4_round_11 ⟨Nat.zero_le _, Nat.zero_le _⟩ (fun u4 H locs h hP hD hS => ?_)
    obtain ⟨mo2, lo3⟩ := u4
    have hP : va_P D vwCl (cM kc a mo2 lo3) H := hP
    have hD : va_D A (cM kc a mo2 lo3) := hD
    refine lv_iconst (v := 1) hx hb dX4_round_14 (by decide) ?_
    refine lv_aload_n hx hb dX4_round_15 rfl (lv_at hl 0 rfl) ?_
    refine va_get (D := D) (ci := 4) (v := .ref (a 2)) (C := RX4) (T := TX4) (N := 29) hx hb hts hi4 hown hK.1 hP 0 rfl rfl 1 (by decide) (hts (.fieldLink RX4 13 "LastPennyModel" "now" "[I") (by decide +kernel)) (fun _ h9 => h9) rfl dX4_round_16 ?_
    refine lv_bipush (v := 22) hx hb dX4_round_19 (by decide) ?_
    refine va_iald hx hb hK.1 hP 2 0 rfl rfl (by unfold vp_in; decide) dX4_round_21 ?_
    refine lv_ishl hx hb dX4_round_22 ?_
    refine lv_topi (fun x5 ex5 => ?_)
    have h := nm_out h x5 ex5
    refine lv_istore_n (lv' := [(1, .int x5), (0, .ref (a 0))]) hx hb dX4_round_23 rfl hl (by decide) rfl (fun ls hl => ?_)
    refine lv_iconst (v := 1) hx hb dX4_round_24 (by decide) ?_
    refine lv_istore_n (lv' := [(2, .int 1), (1, .int x5), (0, .ref (a 0))]) hx hb dX4_round_25 rfl hl (by decide) rfl (fun ls hl => ?_)
    refine h (fun (i6 : Int32) (i7 : Int32) (mo8 : S2) (lo9 : SL) => ∀ (ls : Array Slot) (H : Heap) (locs : List Loc), lv_has ls 3 [(0, .ref (a 0)), (1, .int i6), (2, .int i7)] → va_P D vwCl (cM kc a mo8 lo9) H → va_D A (cM kc a mo8 lo9) → va_S A s.heap H locs → W p l e rm_X4_round s m args below meth c H locs 0 0 Q (F0 m 26 ls [])) ?_ ls H locs (lv_sub hl [2, 1, 0] rfl) hP hD hS
    intro i6 i7 mo8 lo9 h ls H locs hl hP hD hS
    refine lv_iload_n hx hb dX4_round_26 rfl (lv_at hl 2 rfl) ?_
    refine lv_bipush (v := 60) hx hb dX4_round_27 (by decide) ?_
    refine lv_icmp_gt (tgt := 68) hx hb dX4_round_29 (by decide) (fun c10 => ?_) (fun c10 => ?_)
    · have h := br1 h c10
      refine lv_bipush (v := -4) hx hb dX4_round_68 (by decide) ?_
      exact hret (-4) (mo8, lo9) H locs ls _ h hP hD hS dX4_round_70
    · have h := br2 h c10
      refine lv_aload_n hx hb dX4_round_32 rfl (lv_at hl 0 rfl) ?_
      refine q_cVv (As := []) (rest := []) ⟨hx, hb, hml, hown, hts⟩ hK (c_X4_quarterGoes l D kc a mo8 lo9 H.size _ h) (cwV 0 hts gX4_round_X4_quarterGoes rfl rfl rfl (by decide +kernel) ⟨Nat.le_of_ble_eq_true rfl, Nat.le_of_ble_eq_true rfl⟩) (cut_same (fun u : S2 × SL => cM kc a u.1 u.2) (mo8, lo9)) hP hD hS hA 4 0 rfl rfl rfl hl.1 rfl (Nat.le_of_ble_eq_true rfl) dX4_round_33 ⟨Nat.zero_le _, Nat.zero_le _⟩ (fun u13 H locs h hP hD hS => ?_)
      obtain ⟨mo11, lo12⟩ := u13
      have hP : va_P D vwCl (cM kc a mo11 lo12) H := hP
      have hD : va_D A (cM kc a mo11 lo12) := hD
      refine lv_iload_n hx hb dX4_round_36 rfl (lv_at hl 1 rfl) ?_
      refine lv_iconst (v := 1) hx hb dX4_round_37 (by decide) ?_
      refine lv_aload_n hx hb dX4_round_38 rfl (lv_at hl 0 rfl) ?_
      refine va_get (D := D) (ci := 4) (v := .ref (a 2)) (C := RX4) (T := TX4) (N := 29) hx hb hts hi4 hown hK.1 hP 0 rfl rfl 1 (by decide) (hts (.fieldLink RX4 13 "LastPennyModel" "now" "[I") (by decide +kernel)) (fun _ h9 => h9) rfl dX4_round_39 ?_
      refine lv_bipush (v := 22) hx hb dX4_round_42 (by decide) ?_
      refine va_iald hx hb hK.1 hP 2 0 rfl rfl (by unfold vp_in; decide) dX4_round_44 ?_
      refine lv_ishl hx hb dX4_round_45 ?_
      refine lv_ior hx hb dX4_round_46 ?_
      refine lv_topi (fun x14 ex14 => ?_)
      have h := nm_out h x14 ex14
      refine lv_istore_n (lv' := [(1, .int x14), (0, .ref (a 0)), (2, .int i7)]) hx hb dX4_round_47 rfl hl (by decide) rfl (fun ls hl => ?_)
      refine lv_iload_n hx hb dX4_round_48 rfl (lv_at hl 0 rfl) ?_
      refine lv_iconst (v := 1) hx hb dX4_round_49 (by decide) ?_
      refine lv_aload_n hx hb dX4_round_50 rfl (lv_at hl 1 rfl) ?_
      refine va_get (D := D) (ci := 4) (v := .int (mo11 0 3)) (C := RX4) (T := TX4) (N := 29) hx hb hts hi4 hown hK.1 hP 0 rfl rfl 3 (by decide) (hts (.fieldLink RX4 67 "LastPennyModel" "people" "I") (by decide +kernel)) (fun _ h9 => h9) rfl dX4_round_51 ?_
      refine lv_ishl hx hb dX4_round_54 ?_
      refine lv_iconst (v := 1) hx hb dX4_round_55 (by decide) ?_
      refine lv_isub hx hb dX4_round_56 ?_
      refine lv_icmp_ne (tgt := 62) hx hb dX4_round_57 (by decide) (fun c15 => ?_) (fun c15 => ?_)
      · have h := br2 h c15
        obtain ⟨x16, ex16⟩ : ∃ z : Int32, z = i7 + 1 := ⟨_, rfl⟩
        have h := nm_out h x16 ex16
        refine lv_iinc (v := x16) (lv' := [(2, .int x16), (1, .int x14), (0, .ref (a 0))]) hx hb dX4_round_62 hl (k := 2) rfl (by rw [ex16]; rfl) (by decide) rfl (fun ls hl => ?_)
        refine lv_goto (tgt := 26) hx hb dX4_round_65 (by decide) ?_
        exact h ls H locs (lv_sub hl [2, 1, 0] rfl) hP hD hS
      · have h := br1 h c15
        refine lv_iload_n hx hb dX4_round_60 rfl (lv_at hl 2 rfl) ?_
        exact hret i7 (mo11, lo12) H locs ls _ h hP hD hS dX4_round_61
  · have h := br1 h c1
    refine lv_bipush (v := -4) hx hb dX4_round_7 (by decide) ?_
    exact hret (-4) (mo, lo) H locs ls _ h hP hD hS dX4_round_9

def w_X4_trade (p1 : Int32) (p2 : Int32) (mo : S2) (lo : SL) (K : Int32 → S2 → SL → Prop) : Prop := w_X4_isOne p1 mo lo (fun r3 mo1 lo2 => br (r3 = 0) (K (-1) mo1 lo2) (w_X4_isPart p2 (fun r6 => br (r6 = 0) (K (-1) mo1 lo2) (nm ((-4) : Int32) (fun x9 => lfp5 (fun G27 (i10 : Int32) (i11 : Int32) (i12 : Int32) (mo13 : S2) (lo14 : SL) => br (20 < i12) (br (i11 = (-4)) (K (-4) mo13 lo14) (br (p2 = 0) (K i11 mo13 lo14) (K i10 mo13 lo14))) (w_X4_starts mo13 lo14 (fun mo18 lo19 => w_X4_becomesOf p1 (2 : Int32) i12 mo18 lo19 (fun mo21 lo22 => w_X4_quartersTo p1 mo21 lo22 (fun r26 mo24 lo25 => jn (fun (k28 : Int32) => jn (fun (k29 : Int32) => jn (fun (k30 : Int32) => nm (i12 + 1 : Int32) (fun x31 => G27 k30 k29 x31 mo24 lo25)) (fun J98 => br (k28 = 0) (J98 i10) (J98 r26))) (fun J85 => br (k28 = 0) (J85 i11) (J85 i12))) (fun J71 => jn (fun (_ : Unit) => J71 0) (fun J70 => br (r26 = (-4)) (J70 ()) (br (i10 ≤ r26) (J70 ()) (J71 1))))))))) 61 x9 0 mo1 lo2)))))
abbrev rm_X4_trade : Room := { frames := 5, cells := 0, slots := 0, locals := 110 }
set_option maxHeartbeats 4000000 in
set_option maxRecDepth 100000 in
theorem c_X4_trade (l : Launch) (D : va_G) (kc : Nat → ClassId) (a : Nat → Nat) (p1 : Int32) (p2 : Int32) (mo : S2) (lo : SL) (sz : Nat) (K : Int32 → S2 → SL → Prop) (h : w_X4_trade p1 p2 mo lo K) : MetI l yX4_trade wsX4_trade rm_X4_trade D kc (fun u : S2 × SL => cM kc a u.1 u.2) (mo, lo) [.ref (a 0), .int p1, .int p2] sz (fun r u => K r u.1 u.2) := by
  refine q_ei (code := cX4_trade) (maxL := 8) (by decide) rfl (Nat.le_of_ble_eq_true rfl) ?_
  intro p e s m args below meth c Q A hx hb hml hts hown hK hA hret ls hl hP hD hS
  have hown : s.vm.findClass RX4 = some m.cls := hown
  have hl : lv_has ls 8 [(0, .ref (a 0)), (1, .int p1), (2, .int p2)] := hl
  have hP : va_P D vwCl (cM kc a mo lo) s.heap := hP
  have hD : va_D A (cM kc a mo lo) := hD
  have hS : va_S A s.heap s.heap [] := hS
  obtain ⟨H, eH⟩ : ∃ z, z = s.heap := ⟨_, rfl⟩
  obtain ⟨locs, eL⟩ : ∃ z : List Loc, z = [] := ⟨_, rfl⟩
  have hP := q_heap hP eH
  have hS := q_heapS hS eH eL
  refine q_start eH eL ?_
  clear eH eL
  unfold w_X4_trade at h
  refine lv_aload_n hx hb dX4_trade_0 rfl (lv_at hl 0 rfl) ?_
  refine lv_iload_n hx hb dX4_trade_1 rfl (lv_at hl 1 rfl) ?_
  refine q_cVi (As := [.int p1]) (rest := []) ⟨hx, hb, hml, hown, hts⟩ hK (c_X4_isOne l D kc a p1 mo lo H.size _ h) (cwV 1 hts gX4_trade_X4_isOne rfl rfl rfl (by decide +kernel) ⟨Nat.le_of_ble_eq_true rfl, Nat.le_of_ble_eq_true rfl⟩) (cut_same (fun u : S2 × SL => cM kc a u.1 u.2) (mo, lo)) hP hD hS hA 4 0 rfl rfl rfl hl.1 rfl (Nat.le_of_ble_eq_true rfl) dX4_trade_2 ⟨Nat.zero_le _, Nat.zero_le _⟩ (fun r3 u4 H locs h hP hD hS => ?_)
  obtain ⟨mo1, lo2⟩ := u4
  have hP : va_P D vwCl (cM kc a mo1 lo2) H := hP
  have hD : va_D A (cM kc a mo1 lo2) := hD
  refine lv_if_eq (tgt := 15) hx hb dX4_trade_5 (by decide) (fun c5 => ?_) (fun c5 => ?_)
  · have h := br1 h c5
    refine lv_iconst (v := -1) hx hb dX4_trade_15 (by decide) ?_
    exact hret (-1) (mo1, lo2) H locs ls _ h hP hD hS dX4_trade_16
  · have h := br2 h c5
    refine lv_iload_n hx hb dX4_trade_8 rfl (lv_at hl 2 rfl) ?_
    refine q_cSi (As := [.int p2]) (rest := []) ⟨hx, hb, hml, hown, hts⟩ hK (c_X4_isPart l D kc p2 H.size _ h) (va_cwS 1 hts gX4_trade_X4_isPart rfl rfl rfl (by decide +kernel) ⟨Nat.le_of_ble_eq_true rfl, Nat.le_of_ble_eq_true rfl⟩) (cut_nil _) hP hD hS hA rfl hl.1 rfl (Nat.le_of_ble_eq_true rfl) dX4_trade_9 ⟨Nat.zero_le _, Nat.zero_le _⟩ (fun r6 _ H locs h hP hD hS => ?_)
    have hP : va_P D vwCl (cM kc a mo1 lo2) H := hP
    have hD : va_D A (cM kc a mo1 lo2) := hD
    refine lv_if_ne (tgt := 17) hx hb dX4_trade_12 (by decide) (fun c8 => ?_) (fun c8 => ?_)
    · have h := br2 h c8
      refine lv_bipush (v := 61) hx hb dX4_trade_17 (by decide) ?_
      refine lv_istore_n (lv' := [(3, .int 61), (0, .ref (a 0)), (1, .int p1), (2, .int p2)]) hx hb dX4_trade_19 rfl hl (by decide) rfl (fun ls hl => ?_)
      refine lv_bipush (v := -4) hx hb dX4_trade_20 (by decide) ?_
      refine lv_topi (fun x9 ex9 => ?_)
      have h := nm_out h x9 ex9
      refine lv_istore (lv' := [(4, .int x9), (3, .int 61), (0, .ref (a 0)), (1, .int p1), (2, .int p2)]) hx hb dX4_trade_22 hl (by decide) rfl (fun ls hl => ?_)
      refine lv_iconst (v := 0) hx hb dX4_trade_24 (by decide) ?_
      refine lv_istore (lv' := [(5, .int 0), (4, .int x9), (3, .int 61), (0, .ref (a 0)), (1, .int p1), (2, .int p2)]) hx hb dX4_trade_25 hl (by decide) rfl (fun ls hl => ?_)
      refine h (fun (i10 : Int32) (i11 : Int32) (i12 : Int32) (mo13 : S2) (lo14 : SL) => ∀ (ls : Array Slot) (H : Heap) (locs : List Loc), lv_has ls 8 [(0, .ref (a 0)), (1, .int p1), (2, .int p2), (3, .int i10), (4, .int i11), (5, .int i12)] → va_P D vwCl (cM kc a mo13 lo14) H → va_D A (cM kc a mo13 lo14) → va_S A s.heap H locs → W p l e rm_X4_trade s m args below meth c H locs 0 0 Q (F0 m 27 ls [])) ?_ ls H locs (lv_sub hl [3, 4, 5, 2, 1, 0] rfl) hP hD hS
      intro i10 i11 i12 mo13 lo14 h ls H locs hl hP hD hS
      refine lv_iload hx hb dX4_trade_27 (lv_at hl 5 rfl) ?_
      refine lv_bipush (v := 20) hx hb dX4_trade_29 (by decide) ?_
      refine lv_icmp_gt (tgt := 105) hx hb dX4_trade_31 (by decide) (fun c15 => ?_) (fun c15 => ?_)
      · have h := br1 h c15
        refine lv_iload hx hb dX4_trade_105 (lv_at hl 4 rfl) ?_
        refine lv_bipush (v := -4) hx hb dX4_trade_107 (by decide) ?_
        refine lv_icmp_ne (tgt := 117) hx hb dX4_trade_109 (by decide) (fun c16 => ?_) (fun c16 => ?_)
        · have h := br2 h c16
          refine lv_iload_n hx hb dX4_trade_117 rfl (lv_at hl 2 rfl) ?_
          refine lv_if_ne (tgt := 126) hx hb dX4_trade_118 (by decide) (fun c17 => ?_) (fun c17 => ?_)
          · have h := br2 h c17
            refine lv_iload_n hx hb dX4_trade_126 rfl (lv_at hl 3 rfl) ?_
            exact hret i10 (mo13, lo14) H locs ls _ h hP hD hS dX4_trade_127
          · have h := br1 h c17
            refine lv_iload hx hb dX4_trade_121 (lv_at hl 4 rfl) ?_
            refine lv_goto (tgt := 127) hx hb dX4_trade_123 (by decide) ?_
            exact hret i11 (mo13, lo14) H locs ls _ h hP hD hS dX4_trade_127
        · have h := br1 h c16
          refine lv_bipush (v := -4) hx hb dX4_trade_112 (by decide) ?_
          refine lv_goto (tgt := 127) hx hb dX4_trade_114 (by decide) ?_
          exact hret (-4) (mo13, lo14) H locs ls _ h hP hD hS dX4_trade_127
      · have h := br2 h c15
        refine lv_aload_n hx hb dX4_trade_34 rfl (lv_at hl 0 rfl) ?_
        refine q_cVv (As := []) (rest := []) ⟨hx, hb, hml, hown, hts⟩ hK (c_X4_starts l D kc a mo13 lo14 H.size _ h) (cwV 0 hts gX4_trade_X4_starts rfl rfl rfl (by decide +kernel) ⟨Nat.le_of_ble_eq_true rfl, Nat.le_of_ble_eq_true rfl⟩) (cut_same (fun u : S2 × SL => cM kc a u.1 u.2) (mo13, lo14)) hP hD hS hA 4 0 rfl rfl rfl hl.1 rfl (Nat.le_of_ble_eq_true rfl) dX4_trade_35 ⟨Nat.zero_le _, Nat.zero_le _⟩ (fun u20 H locs h hP hD hS => ?_)
        obtain ⟨mo18, lo19⟩ := u20
        have hP : va_P D vwCl (cM kc a mo18 lo19) H := hP
        have hD : va_D A (cM kc a mo18 lo19) := hD
        refine lv_aload_n hx hb dX4_trade_38 rfl (lv_at hl 0 rfl) ?_
        refine lv_iload_n hx hb dX4_trade_39 rfl (lv_at hl 1 rfl) ?_
        refine lv_iconst (v := 2) hx hb dX4_trade_40 (by decide) ?_
        refine lv_iload hx hb dX4_trade_41 (lv_at hl 5 rfl) ?_
        refine q_cVv (As := [.int p1, .int 2, .int i12]) (rest := []) ⟨hx, hb, hml, hown, hts⟩ hK (c_X4_becomesOf l D kc a p1 (2 : Int32) i12 mo18 lo19 H.size _ h) (cwV 3 hts gX4_trade_X4_becomesOf rfl rfl rfl (by decide +kernel) ⟨Nat.le_of_ble_eq_true rfl, Nat.le_of_ble_eq_true rfl⟩) (cut_same (fun u : S2 × SL => cM kc a u.1 u.2) (mo18, lo19)) hP hD hS hA 4 0 rfl rfl rfl hl.1 rfl (Nat.le_of_ble_eq_true rfl) dX4_trade_43 ⟨Nat.zero_le _, Nat.zero_le _⟩ (fun u23 H locs h hP hD hS => ?_)
        obtain ⟨mo21, lo22⟩ := u23
        have hP : va_P D vwCl (cM kc a mo21 lo22) H := hP
        have hD : va_D A (cM kc a mo21 lo22) := hD
        refine lv_aload_n hx hb dX4_trade_46 rfl (lv_at hl 0 rfl) ?_
        refine lv_iload_n hx hb dX4_trade_47 rfl (lv_at hl 1 rfl) ?_
        refine q_cVi (As := [.int p1]) (rest := []) ⟨hx, hb, hml, hown, hts⟩ hK (c_X4_quartersTo l D kc a p1 mo21 lo22 H.size _ h) (cwV 1 hts gX4_trade_X4_quartersTo rfl rfl rfl (by decide +kernel) ⟨Nat.le_of_ble_eq_true rfl, Nat.le_of_ble_eq_true rfl⟩) (cut_same (fun u : S2 × SL => cM kc a u.1 u.2) (mo21, lo22)) hP hD hS hA 4 0 rfl rfl rfl hl.1 rfl (Nat.le_of_ble_eq_true rfl) dX4_trade_48 ⟨Nat.zero_le _, Nat.zero_le _⟩ (fun r26 u27 H locs h hP hD hS => ?_)
        obtain ⟨mo24, lo25⟩ := u27
        have hP : va_P D vwCl (cM kc a mo24 lo25) H := hP
        have hD : va_D A (cM kc a mo24 lo25) := hD
        refine lv_istore (lv' := [(6, .int r26), (0, .ref (a 0)), (1, .int p1), (2, .int p2), (3, .int i10), (4, .int i11), (5, .int i12)]) hx hb dX4_trade_51 hl (by decide) rfl (fun ls hl => ?_)
        refine lv_iload hx hb dX4_trade_53 (lv_at hl 0 rfl) ?_
        refine lv_bipush (v := -4) hx hb dX4_trade_55 (by decide) ?_
        refine jn_elim h (fun J71 eJ71 h => ?_)
        have hJ_71 : ∀ (k28 : Int32) (ls : Array Slot), J71 k28 → lv_has ls 8 [(0, .ref (a 0)), (1, .int p1), (2, .int p2), (3, .int i10), (4, .int i11), (5, .int i12), (6, .int r26)] → W p l e rm_X4_trade s m args below meth c H locs 0 0 Q (F0 m 71 ls [.int k28]) := by
          intro k28 ls h hl
          subst eJ71
          refine lv_istore (lv' := [(7, .int k28), (0, .ref (a 0)), (1, .int p1), (2, .int p2), (3, .int i10), (4, .int i11), (5, .int i12), (6, .int r26)]) hx hb dX4_trade_71 hl (by decide) rfl (fun ls hl => ?_)
          refine lv_iload hx hb dX4_trade_73 (lv_at hl 0 rfl) ?_
          refine jn_elim h (fun J85 eJ85 h => ?_)
          have hJ_85 : ∀ (k29 : Int32) (ls : Array Slot), J85 k29 → lv_has ls 8 [(0, .ref (a 0)), (1, .int p1), (2, .int p2), (3, .int i10), (5, .int i12), (6, .int r26), (7, .int k28)] → W p l e rm_X4_trade s m args below meth c H locs 0 0 Q (F0 m 85 ls [.int k29]) := by
            intro k29 ls h hl
            subst eJ85
            refine lv_istore (lv' := [(4, .int k29), (0, .ref (a 0)), (1, .int p1), (2, .int p2), (3, .int i10), (5, .int i12), (6, .int r26), (7, .int k28)]) hx hb dX4_trade_85 hl (by decide) rfl (fun ls hl => ?_)
            refine lv_iload hx hb dX4_trade_87 (lv_at hl 7 rfl) ?_
            refine jn_elim h (fun J98 eJ98 h => ?_)
            have hJ_98 : ∀ (k30 : Int32) (ls : Array Slot), J98 k30 → lv_has ls 8 [(0, .ref (a 0)), (1, .int p1), (2, .int p2), (4, .int k29), (5, .int i12)] → W p l e rm_X4_trade s m args below meth c H locs 0 0 Q (F0 m 98 ls [.int k30]) := by
              intro k30 ls h hl
              subst eJ98
              refine lv_istore_n (lv' := [(3, .int k30), (0, .ref (a 0)), (1, .int p1), (2, .int p2), (4, .int k29), (5, .int i12)]) hx hb dX4_trade_98 rfl hl (by decide) rfl (fun ls hl => ?_)
              obtain ⟨x31, ex31⟩ : ∃ z : Int32, z = i12 + 1 := ⟨_, rfl⟩
              have h := nm_out h x31 ex31
              refine lv_iinc (v := x31) (lv' := [(5, .int x31), (3, .int k30), (0, .ref (a 0)), (1, .int p1), (2, .int p2), (4, .int k29)]) hx hb dX4_trade_99 hl (k := 5) rfl (by rw [ex31]; rfl) (by decide) rfl (fun ls hl => ?_)
              refine lv_goto (tgt := 27) hx hb dX4_trade_102 (by decide) ?_
              exact h ls H locs (lv_sub hl [2, 3, 4, 1, 5, 0] rfl) hP hD hS
            refine lv_if_eq (tgt := 97) hx hb dX4_trade_89 (by decide) (fun c32 => ?_) (fun c32 => ?_)
            · have h := br1 h c32
              refine lv_iload_n hx hb dX4_trade_97 rfl (lv_at hl 4 rfl) ?_
              exact hJ_98 i10 ls h (lv_sub hl [1, 2, 3, 0, 5] rfl)
            · have h := br2 h c32
              refine lv_iload hx hb dX4_trade_92 (lv_at hl 6 rfl) ?_
              refine lv_goto (tgt := 98) hx hb dX4_trade_94 (by decide) ?_
              exact hJ_98 r26 ls h (lv_sub hl [1, 2, 3, 0, 5] rfl)
          refine lv_if_eq (tgt := 83) hx hb dX4_trade_75 (by decide) (fun c33 => ?_) (fun c33 => ?_)
          · have h := br1 h c33
            refine lv_iload hx hb dX4_trade_83 (lv_at hl 5 rfl) ?_
            exact hJ_85 i11 ls h (lv_sub hl [1, 2, 3, 4, 6, 7, 0] rfl)
          · have h := br2 h c33
            refine lv_iload hx hb dX4_trade_78 (lv_at hl 6 rfl) ?_
            refine lv_goto (tgt := 85) hx hb dX4_trade_80 (by decide) ?_
            exact hJ_85 i12 ls h (lv_sub hl [1, 2, 3, 4, 6, 7, 0] rfl)
        refine jn_elim h (fun J70 eJ70 h => ?_)
        have hJ_70 : ∀  (ls : Array Slot), J70 () → lv_has ls 8 [(0, .ref (a 0)), (1, .int p1), (2, .int p2), (3, .int i10), (4, .int i11), (5, .int i12), (6, .int r26)] → W p l e rm_X4_trade s m args below meth c H locs 0 0 Q (F0 m 70 ls []) := by
          intro  ls h hl
          subst eJ70
          refine lv_iconst (v := 0) hx hb dX4_trade_70 (by decide) ?_
          exact hJ_71 0 ls h (lv_sub hl [0, 1, 2, 3, 4, 5, 6] rfl)
        refine lv_icmp_eq (tgt := 70) hx hb dX4_trade_57 (by decide) (fun c34 => ?_) (fun c34 => ?_)
        · have h := br1 h c34
          exact hJ_70 ls h (lv_sub hl [1, 2, 3, 4, 5, 6, 0] rfl)
        · have h := br2 h c34
          refine lv_iload hx hb dX4_trade_60 (lv_at hl 0 rfl) ?_
          refine lv_iload_n hx hb dX4_trade_62 rfl (lv_at hl 4 rfl) ?_
          refine lv_icmp_ge (tgt := 70) hx hb dX4_trade_63 (by decide) (fun c35 => ?_) (fun c35 => ?_)
          · have h := br1 h c35
            exact hJ_70 ls h (lv_sub hl [1, 2, 3, 4, 5, 6, 0] rfl)
          · have h := br2 h c35
            refine lv_iconst (v := 1) hx hb dX4_trade_66 (by decide) ?_
            refine lv_goto (tgt := 71) hx hb dX4_trade_67 (by decide) ?_
            exact hJ_71 1 ls h (lv_sub hl [1, 2, 3, 4, 5, 6, 0] rfl)
    · have h := br1 h c8
      refine lv_iconst (v := -1) hx hb dX4_trade_15 (by decide) ?_
      exact hret (-1) (mo1, lo2) H locs ls _ h hP hD hS dX4_trade_16

