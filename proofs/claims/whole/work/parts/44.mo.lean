def w_X4_poorest (p1 : Int32) (mo : S2) (lo : SL) (K : Int32 → S2 → SL → Prop) : Prop := nm ((-4) : Int32) (fun x1 => lfp4 (fun G5 (i2 : Int32) (i3 : Int32) (mo4 : S2) (lo5 : SL) => br ((mo4 0 3) ≤ i3) (K i2 mo4 lo5) ((¬ (mo4 0 3) = 0) ∧ (nm (((p1 + i3) - (p1 + i3) / (mo4 0 3) * (mo4 0 3)) : Int32) (fun x8 => jn (fun (k9 : Int32) (mo10 : S2) (lo11 : SL) => nm (i3 + 1 : Int32) (fun x12 => G5 k9 x12 mo10 lo11)) (fun J51 => jn (fun (mo13 : S2) (lo14 : SL) => J51 x8 mo13 lo14) (fun J45 => br (i2 = (-4)) (J45 mo4 lo5) (w_X4_of x8 (1 : Int32) mo4 lo5 (fun r18 mo16 lo17 => w_X4_of i2 (1 : Int32) mo16 lo17 (fun r22 mo20 lo21 => br (r22 ≤ r18) (J51 i2 mo20 lo21) (J45 mo20 lo21)))))))))) x1 1 mo lo)
abbrev rm_X4_poorest : Room := { frames := 1, cells := 0, slots := 0, locals := 22 }
set_option maxHeartbeats 4000000 in
set_option maxRecDepth 100000 in
theorem c_X4_poorest (l : Launch) (D : va_G) (kc : Nat → ClassId) (a : Nat → Nat) (p1 : Int32) (mo : S2) (lo : SL) (sz : Nat) (K : Int32 → S2 → SL → Prop) (h : w_X4_poorest p1 mo lo K) : MetI l yX4_poorest wsX4_poorest rm_X4_poorest D kc (fun u : S2 × SL => cM kc a u.1 u.2) (mo, lo) [.ref (a 0), .int p1] sz (fun r u => K r u.1 u.2) := by
  refine q_ei (code := cX4_poorest) (maxL := 5) (by decide) rfl (Nat.le_of_ble_eq_true rfl) ?_
  intro p e s m args below meth c Q A hx hb hml hts hown hK hA hret ls hl hP hD hS
  have hown : s.vm.findClass RX4 = some m.cls := hown
  have hl : lv_has ls 5 [(0, .ref (a 0)), (1, .int p1)] := hl
  have hP : va_P D vwCl (cM kc a mo lo) s.heap := hP
  have hD : va_D A (cM kc a mo lo) := hD
  have hS : va_S A s.heap s.heap [] := hS
  obtain ⟨H, eH⟩ : ∃ z, z = s.heap := ⟨_, rfl⟩
  obtain ⟨locs, eL⟩ : ∃ z : List Loc, z = [] := ⟨_, rfl⟩
  have hP := q_heap hP eH
  have hS := q_heapS hS eH eL
  refine q_start eH eL ?_
  clear eH eL
  have hi4 : ∀ w ∈ u_ws RX4 TX4 29, w ∈ wsX4_poorest := by decide +kernel
  unfold w_X4_poorest at h
  refine lv_bipush (v := -4) hx hb dX4_poorest_0 (by decide) ?_
  refine lv_topi (fun x1 ex1 => ?_)
  have h := nm_out h x1 ex1
  refine lv_istore_n (lv' := [(2, .int x1), (0, .ref (a 0)), (1, .int p1)]) hx hb dX4_poorest_2 rfl hl (by decide) rfl (fun ls hl => ?_)
  refine lv_iconst (v := 1) hx hb dX4_poorest_3 (by decide) ?_
  refine lv_istore_n (lv' := [(3, .int 1), (2, .int x1), (0, .ref (a 0)), (1, .int p1)]) hx hb dX4_poorest_4 rfl hl (by decide) rfl (fun ls hl => ?_)
  refine h (fun (i2 : Int32) (i3 : Int32) (mo4 : S2) (lo5 : SL) => ∀ (ls : Array Slot) (H : Heap) (locs : List Loc), lv_has ls 5 [(0, .ref (a 0)), (1, .int p1), (2, .int i2), (3, .int i3)] → va_P D vwCl (cM kc a mo4 lo5) H → va_D A (cM kc a mo4 lo5) → va_S A s.heap H locs → W p l e rm_X4_poorest s m args below meth c H locs 0 0 Q (F0 m 5 ls [])) ?_ ls H locs (lv_sub hl [2, 3, 1, 0] rfl) hP hD hS
  intro i2 i3 mo4 lo5 h ls H locs hl hP hD hS
  refine lv_iload_n hx hb dX4_poorest_5 rfl (lv_at hl 3 rfl) ?_
  refine lv_aload_n hx hb dX4_poorest_6 rfl (lv_at hl 0 rfl) ?_
  refine va_get (D := D) (ci := 4) (v := .int (mo4 0 3)) (C := RX4) (T := TX4) (N := 29) hx hb hts hi4 hown hK.1 hP 0 rfl rfl 3 (by decide) (hts (.fieldLink RX4 67 "LastPennyModel" "people" "I") (by decide +kernel)) (fun _ h9 => h9) rfl dX4_poorest_7 ?_
  refine lv_icmp_ge (tgt := 58) hx hb dX4_poorest_10 (by decide) (fun c6 => ?_) (fun c6 => ?_)
  · have h := br1 h c6
    refine lv_iload_n hx hb dX4_poorest_58 rfl (lv_at hl 2 rfl) ?_
    exact hret i2 (mo4, lo5) H locs ls _ h hP hD hS dX4_poorest_59
  · have h := br2 h c6
    refine lv_iload_n hx hb dX4_poorest_13 rfl (lv_at hl 1 rfl) ?_
    refine lv_iload_n hx hb dX4_poorest_14 rfl (lv_at hl 3 rfl) ?_
    refine lv_iadd hx hb dX4_poorest_15 ?_
    refine lv_aload_n hx hb dX4_poorest_16 rfl (lv_at hl 0 rfl) ?_
    refine va_get (D := D) (ci := 4) (v := .int (mo4 0 3)) (C := RX4) (T := TX4) (N := 29) hx hb hts hi4 hown hK.1 hP 0 rfl rfl 3 (by decide) (hts (.fieldLink RX4 67 "LastPennyModel" "people" "I") (by decide +kernel)) (fun _ h9 => h9) rfl dX4_poorest_17 ?_
    obtain ⟨hn7, h⟩ := h
    refine lv_irem hx hb dX4_poorest_20 hn7 ?_
    refine lv_topi (fun x8 ex8 => ?_)
    have h := nm_out h x8 ex8
    refine lv_istore (lv' := [(4, .int x8), (0, .ref (a 0)), (1, .int p1), (2, .int i2), (3, .int i3)]) hx hb dX4_poorest_21 hl (by decide) rfl (fun ls hl => ?_)
    refine lv_iload_n hx hb dX4_poorest_23 rfl (lv_at hl 3 rfl) ?_
    refine lv_bipush (v := -4) hx hb dX4_poorest_24 (by decide) ?_
    refine jn_elim h (fun J51 eJ51 h => ?_)
    have hJ_51 : ∀ (k9 : Int32) (mo10 : S2) (lo11 : SL) (ls : Array Slot) (H : Heap) (locs : List Loc), J51 k9 mo10 lo11 → lv_has ls 5 [(0, .ref (a 0)), (1, .int p1), (3, .int i3)] → va_P D vwCl (cM kc a mo10 lo11) H → va_D A (cM kc a mo10 lo11) → va_S A s.heap H locs → W p l e rm_X4_poorest s m args below meth c H locs 0 0 Q (F0 m 51 ls [.int k9]) := by
      intro k9 mo10 lo11 ls H locs h hl hP hD hS
      subst eJ51
      refine lv_istore_n (lv' := [(2, .int k9), (0, .ref (a 0)), (1, .int p1), (3, .int i3)]) hx hb dX4_poorest_51 rfl hl (by decide) rfl (fun ls hl => ?_)
      obtain ⟨x12, ex12⟩ : ∃ z : Int32, z = i3 + 1 := ⟨_, rfl⟩
      have h := nm_out h x12 ex12
      refine lv_iinc (v := x12) (lv' := [(3, .int x12), (2, .int k9), (0, .ref (a 0)), (1, .int p1)]) hx hb dX4_poorest_52 hl (k := 3) rfl (by rw [ex12]; rfl) (by decide) rfl (fun ls hl => ?_)
      refine lv_goto (tgt := 5) hx hb dX4_poorest_55 (by decide) ?_
      exact h ls H locs (lv_sub hl [2, 3, 1, 0] rfl) hP hD hS
    refine jn_elim h (fun J45 eJ45 h => ?_)
    have hJ_45 : ∀ (mo13 : S2) (lo14 : SL) (ls : Array Slot) (H : Heap) (locs : List Loc), J45 mo13 lo14 → lv_has ls 5 [(0, .ref (a 0)), (1, .int p1), (3, .int i3), (4, .int x8)] → va_P D vwCl (cM kc a mo13 lo14) H → va_D A (cM kc a mo13 lo14) → va_S A s.heap H locs → W p l e rm_X4_poorest s m args below meth c H locs 0 0 Q (F0 m 45 ls []) := by
      intro mo13 lo14 ls H locs h hl hP hD hS
      subst eJ45
      refine lv_iload hx hb dX4_poorest_45 (lv_at hl 3 rfl) ?_
      refine lv_goto (tgt := 51) hx hb dX4_poorest_47 (by decide) ?_
      exact hJ_51 x8 mo13 lo14 ls H locs h (lv_sub hl [0, 1, 2] rfl) hP hD hS
    refine lv_icmp_eq (tgt := 45) hx hb dX4_poorest_26 (by decide) (fun c15 => ?_) (fun c15 => ?_)
    · have h := br1 h c15
      exact hJ_45 mo4 lo5 ls H locs h (lv_sub hl [1, 2, 4, 0] rfl) hP hD hS
    · have h := br2 h c15
      refine lv_aload_n hx hb dX4_poorest_29 rfl (lv_at hl 1 rfl) ?_
      refine lv_iload hx hb dX4_poorest_30 (lv_at hl 0 rfl) ?_
      refine lv_iconst (v := 1) hx hb dX4_poorest_32 (by decide) ?_
      refine q_cVi (As := [.int x8, .int 1]) (rest := []) ⟨hx, hb, hml, hown, hts⟩ hK (c_X4_of l D kc a x8 (1 : Int32) mo4 lo5 H.size _ h) (cwV 2 hts gX4_poorest_X4_of rfl rfl rfl (by decide +kernel) ⟨Nat.le_of_ble_eq_true rfl, Nat.le_of_ble_eq_true rfl⟩) (cut_same (fun u : S2 × SL => cM kc a u.1 u.2) (mo4, lo5)) hP hD hS hA 4 0 rfl rfl rfl hl.1 rfl (Nat.le_of_ble_eq_true rfl) dX4_poorest_33 ⟨Nat.zero_le _, Nat.zero_le _⟩ (fun r18 u19 H locs h hP hD hS => ?_)
      obtain ⟨mo16, lo17⟩ := u19
      have hP : va_P D vwCl (cM kc a mo16 lo17) H := hP
      have hD : va_D A (cM kc a mo16 lo17) := hD
      refine lv_aload_n hx hb dX4_poorest_36 rfl (lv_at hl 1 rfl) ?_
      refine lv_iload_n hx hb dX4_poorest_37 rfl (lv_at hl 3 rfl) ?_
      refine lv_iconst (v := 1) hx hb dX4_poorest_38 (by decide) ?_
      refine q_cVi (As := [.int i2, .int 1]) (rest := [.int r18]) ⟨hx, hb, hml, hown, hts⟩ hK (c_X4_of l D kc a i2 (1 : Int32) mo16 lo17 H.size _ h) (cwV 2 hts gX4_poorest_X4_of rfl rfl rfl (by decide +kernel) ⟨Nat.le_of_ble_eq_true rfl, Nat.le_of_ble_eq_true rfl⟩) (cut_same (fun u : S2 × SL => cM kc a u.1 u.2) (mo16, lo17)) hP hD hS hA 4 0 rfl rfl rfl hl.1 rfl (Nat.le_of_ble_eq_true rfl) dX4_poorest_39 ⟨Nat.zero_le _, Nat.zero_le _⟩ (fun r22 u23 H locs h hP hD hS => ?_)
      obtain ⟨mo20, lo21⟩ := u23
      have hP : va_P D vwCl (cM kc a mo20 lo21) H := hP
      have hD : va_D A (cM kc a mo20 lo21) := hD
      refine lv_icmp_ge (tgt := 50) hx hb dX4_poorest_42 (by decide) (fun c24 => ?_) (fun c24 => ?_)
      · have h := br1 h c24
        refine lv_iload_n hx hb dX4_poorest_50 rfl (lv_at hl 3 rfl) ?_
        exact hJ_51 i2 mo20 lo21 ls H locs h (lv_sub hl [1, 2, 4] rfl) hP hD hS
      · have h := br2 h c24
        exact hJ_45 mo20 lo21 ls H locs h (lv_sub hl [1, 2, 4, 0] rfl) hP hD hS

def w_X4_quarterGoes (mo : S2) (lo : SL) (K : S2 → SL → Prop) : Prop := w_X4_giftsGo mo lo (fun mo1 lo2 => lfp3 (fun G6 (i4 : Int32) (mo5 : S2) (lo6 : SL) => br ((mo5 0 3) ≤ i4) (lfp3 (fun G33 (i8 : Int32) (mo9 : S2) (lo10 : SL) => br ((mo9 0 3) ≤ i8) (nm ((mo9 2 (22 : Int32).toNatClampNeg) : Int32) (fun x12 => jn (fun (mo13 : S2) (lo14 : SL) => nm ((va_up mo13 2 (upd (mo13 2) (20 : Int32).toNatClampNeg ((mo13 2 (20 : Int32).toNatClampNeg) + 1))) : S2) (fun mo15 => K mo15 lo14)) (fun J173 => br (x12 = (-4)) (J173 mo9 lo10) (jn (fun (k17 : Int32) (mo18 : S2) (lo19 : SL) => br (k17 = 0) (w_X4_of x12 (3 : Int32) mo18 lo19 (fun r23 mo21 lo22 => w_X4_becomesOf x12 (3 : Int32) (r23 + 1) mo21 lo22 (fun mo25 lo26 => J173 mo25 lo26))) (w_X4_poorest x12 mo18 lo19 (fun r30 mo28 lo29 => nm ((va_up mo28 2 (upd (mo28 2) (22 : Int32).toNatClampNeg r30)) : S2) (fun mo32 => nm ((va_up mo32 0 (upd (mo32 0) 18 ((mo32 0 18) + 1))) : S2) (fun mo33 => J173 mo33 lo29))))) (fun J129 => jn (fun (mo34 : S2) (lo35 : SL) => J129 0 mo34 lo35) (fun J128 => br ((mo9 0 3) ≤ 1) (J128 mo9 lo10) (w_X4_of x12 (0 : Int32) mo9 lo10 (fun r39 mo37 lo38 => jn (fun (mo41 : S2) (lo42 : SL) => J129 1 mo41 lo42) (fun J124 => br (r39 = 1) (w_X4_of x12 (1 : Int32) mo37 lo38 (fun r51 mo49 lo50 => br (r51 = 0) (J124 mo49 lo50) (J128 mo49 lo50))) (w_X4_of x12 (1 : Int32) mo37 lo38 (fun r46 mo44 lo45 => br (r46 < 10) (J128 mo44 lo45) (J124 mo44 lo45)))))))))))) (w_X4_of i8 (1 : Int32) mo9 lo10 (fun r56 mo54 lo55 => vp_in i8 5 ∧ (w_X4_within (r56 + (mo54 6 i8.toNatClampNeg)) (fun r59 => w_X4_becomesOf i8 (1 : Int32) r59 mo54 lo55 (fun mo61 lo62 => nm (i8 + 1 : Int32) (fun x64 => G33 x64 mo61 lo62))))))) 0 mo5 lo6) (w_X4_brings i4 mo5 lo6 (fun r67 mo65 lo66 => vp_in i4 5 ∧ (nm ((va_up mo65 6 (upd (mo65 6) i4.toNatClampNeg r67)) : S2) (fun mo70 => nm (i4 + 1 : Int32) (fun x71 => G6 x71 mo70 lo66)))))) 0 mo1 lo2)
abbrev rm_X4_quarterGoes : Room := { frames := 3, cells := 0, slots := 0, locals := 66 }
set_option maxHeartbeats 4000000 in
set_option maxRecDepth 100000 in
theorem c_X4_quarterGoes (l : Launch) (D : va_G) (kc : Nat → ClassId) (a : Nat → Nat) (mo : S2) (lo : SL) (sz : Nat) (K : S2 → SL → Prop) (h : w_X4_quarterGoes mo lo K) : MetV l yX4_quarterGoes wsX4_quarterGoes rm_X4_quarterGoes D kc (fun u : S2 × SL => cM kc a u.1 u.2) (mo, lo) [.ref (a 0)] sz (fun u => K u.1 u.2) := by
  refine q_ev (code := cX4_quarterGoes) (maxL := 3) (by decide) rfl (Nat.le_of_ble_eq_true rfl) ?_
  intro p e s m args below meth c Q A hx hb hml hts hown hK hA hret ls hl hP hD hS
  have hown : s.vm.findClass RX4 = some m.cls := hown
  have hl : lv_has ls 3 [(0, .ref (a 0))] := hl
  have hP : va_P D vwCl (cM kc a mo lo) s.heap := hP
  have hD : va_D A (cM kc a mo lo) := hD
  have hS : va_S A s.heap s.heap [] := hS
  obtain ⟨H, eH⟩ : ∃ z, z = s.heap := ⟨_, rfl⟩
  obtain ⟨locs, eL⟩ : ∃ z : List Loc, z = [] := ⟨_, rfl⟩
  have hP := q_heap hP eH
  have hS := q_heapS hS eH eL
  refine q_start eH eL ?_
  clear eH eL
  have hi4 : ∀ w ∈ u_ws RX4 TX4 29, w ∈ wsX4_quarterGoes := by decide +kernel
  unfold w_X4_quarterGoes at h
  refine lv_aload_n hx hb dX4_quarterGoes_0 rfl (lv_at hl 0 rfl) ?_
  refine q_cVv (As := []) (rest := []) ⟨hx, hb, hml, hown, hts⟩ hK (c_X4_giftsGo l D kc a mo lo H.size _ h) (cwV 0 hts gX4_quarterGoes_X4_giftsGo rfl rfl rfl (by decide +kernel) ⟨Nat.le_of_ble_eq_true rfl, Nat.le_of_ble_eq_true rfl⟩) (cut_same (fun u : S2 × SL => cM kc a u.1 u.2) (mo, lo)) hP hD hS hA 4 0 rfl rfl rfl hl.1 rfl (Nat.le_of_ble_eq_true rfl) dX4_quarterGoes_1 ⟨Nat.zero_le _, Nat.zero_le _⟩ (fun u3 H locs h hP hD hS => ?_)
  obtain ⟨mo1, lo2⟩ := u3
  have hP : va_P D vwCl (cM kc a mo1 lo2) H := hP
  have hD : va_D A (cM kc a mo1 lo2) := hD
  refine lv_iconst (v := 0) hx hb dX4_quarterGoes_4 (by decide) ?_
  refine lv_istore_n (lv' := [(1, .int 0), (0, .ref (a 0))]) hx hb dX4_quarterGoes_5 rfl hl (by decide) rfl (fun ls hl => ?_)
  refine h (fun (i4 : Int32) (mo5 : S2) (lo6 : SL) => ∀ (ls : Array Slot) (H : Heap) (locs : List Loc), lv_has ls 3 [(0, .ref (a 0)), (1, .int i4)] → va_P D vwCl (cM kc a mo5 lo6) H → va_D A (cM kc a mo5 lo6) → va_S A s.heap H locs → W p l e rm_X4_quarterGoes s m args below meth c H locs 0 0 Q (F0 m 6 ls [])) ?_ ls H locs (lv_sub hl [1, 0] rfl) hP hD hS
  intro i4 mo5 lo6 h ls H locs hl hP hD hS
  refine lv_iload_n hx hb dX4_quarterGoes_6 rfl (lv_at hl 1 rfl) ?_
  refine lv_aload_n hx hb dX4_quarterGoes_7 rfl (lv_at hl 0 rfl) ?_
  refine va_get (D := D) (ci := 4) (v := .int (mo5 0 3)) (C := RX4) (T := TX4) (N := 29) hx hb hts hi4 hown hK.1 hP 0 rfl rfl 3 (by decide) (hts (.fieldLink RX4 67 "LastPennyModel" "people" "I") (by decide +kernel)) (fun _ h9 => h9) rfl dX4_quarterGoes_8 ?_
  refine lv_icmp_ge (tgt := 31) hx hb dX4_quarterGoes_11 (by decide) (fun c7 => ?_) (fun c7 => ?_)
  · have h := br1 h c7
    refine lv_iconst (v := 0) hx hb dX4_quarterGoes_31 (by decide) ?_
    refine lv_istore_n (lv' := [(1, .int 0), (0, .ref (a 0))]) hx hb dX4_quarterGoes_32 rfl hl (by decide) rfl (fun ls hl => ?_)
    refine h (fun (i8 : Int32) (mo9 : S2) (lo10 : SL) => ∀ (ls : Array Slot) (H : Heap) (locs : List Loc), lv_has ls 3 [(0, .ref (a 0)), (1, .int i8)] → va_P D vwCl (cM kc a mo9 lo10) H → va_D A (cM kc a mo9 lo10) → va_S A s.heap H locs → W p l e rm_X4_quarterGoes s m args below meth c H locs 0 0 Q (F0 m 33 ls [])) ?_ ls H locs (lv_sub hl [1, 0] rfl) hP hD hS
    intro i8 mo9 lo10 h ls H locs hl hP hD hS
    refine lv_iload_n hx hb dX4_quarterGoes_33 rfl (lv_at hl 1 rfl) ?_
    refine lv_aload_n hx hb dX4_quarterGoes_34 rfl (lv_at hl 0 rfl) ?_
    refine va_get (D := D) (ci := 4) (v := .int (mo9 0 3)) (C := RX4) (T := TX4) (N := 29) hx hb hts hi4 hown hK.1 hP 0 rfl rfl 3 (by decide) (hts (.fieldLink RX4 67 "LastPennyModel" "people" "I") (by decide +kernel)) (fun _ h9 => h9) rfl dX4_quarterGoes_35 ?_
    refine lv_icmp_ge (tgt := 69) hx hb dX4_quarterGoes_38 (by decide) (fun c11 => ?_) (fun c11 => ?_)
    · have h := br1 h c11
      refine lv_aload_n hx hb dX4_quarterGoes_69 rfl (lv_at hl 0 rfl) ?_
      refine va_get (D := D) (ci := 4) (v := .ref (a 2)) (C := RX4) (T := TX4) (N := 29) hx hb hts hi4 hown hK.1 hP 0 rfl rfl 1 (by decide) (hts (.fieldLink RX4 13 "LastPennyModel" "now" "[I") (by decide +kernel)) (fun _ h9 => h9) rfl dX4_quarterGoes_70 ?_
      refine lv_bipush (v := 22) hx hb dX4_quarterGoes_73 (by decide) ?_
      refine va_iald hx hb hK.1 hP 2 0 rfl rfl (by unfold vp_in; decide) dX4_quarterGoes_75 ?_
      refine lv_topi (fun x12 ex12 => ?_)
      have h := nm_out h x12 ex12
      refine lv_istore_n (lv' := [(1, .int x12), (0, .ref (a 0))]) hx hb dX4_quarterGoes_76 rfl hl (by decide) rfl (fun ls hl => ?_)
      refine lv_iload_n hx hb dX4_quarterGoes_77 rfl (lv_at hl 0 rfl) ?_
      refine lv_bipush (v := -4) hx hb dX4_quarterGoes_78 (by decide) ?_
      refine jn_elim h (fun J173 eJ173 h => ?_)
      have hJ_173 : ∀ (mo13 : S2) (lo14 : SL) (ls : Array Slot) (H : Heap) (locs : List Loc), J173 mo13 lo14 → lv_has ls 3 [(0, .ref (a 0))] → va_P D vwCl (cM kc a mo13 lo14) H → va_D A (cM kc a mo13 lo14) → va_S A s.heap H locs → W p l e rm_X4_quarterGoes s m args below meth c H locs 0 0 Q (F0 m 173 ls []) := by
        intro mo13 lo14 ls H locs h hl hP hD hS
        subst eJ173
        refine lv_aload_n hx hb dX4_quarterGoes_173 rfl (lv_at hl 0 rfl) ?_
        refine va_get (D := D) (ci := 4) (v := .ref (a 2)) (C := RX4) (T := TX4) (N := 29) hx hb hts hi4 hown hK.1 hP 0 rfl rfl 1 (by decide) (hts (.fieldLink RX4 13 "LastPennyModel" "now" "[I") (by decide +kernel)) (fun _ h9 => h9) rfl dX4_quarterGoes_174 ?_
        refine lv_bipush (v := 20) hx hb dX4_quarterGoes_177 (by decide) ?_
        refine lv_dup2_11 hx hb dX4_quarterGoes_179 rfl rfl ?_
        refine va_iald hx hb hK.1 hP 2 0 rfl rfl (by unfold vp_in; decide) dX4_quarterGoes_180 ?_
        refine lv_iconst (v := 1) hx hb dX4_quarterGoes_181 (by decide) ?_
        refine lv_iadd hx hb dX4_quarterGoes_182 ?_
        refine va_iast hx hb hK.1 hP hD hS 2 0 rfl rfl (by unfold vp_in; decide) dX4_quarterGoes_183 (fun H locs hP hD hS => ?_)
        obtain ⟨mo15, emo15⟩ : ∃ z, z = (va_up mo13 2 (upd (mo13 2) (20 : Int32).toNatClampNeg ((mo13 2 (20 : Int32).toNatClampNeg) + 1))) := ⟨_, rfl⟩
        have h := nm_out h mo15 emo15
        have hP : va_P D vwCl (cM kc a mo15 lo14) H := q_to hP (by subst emo15; rfl)
        have hD : va_D A (cM kc a mo15 lo14) := q_toD hD (by subst emo15; rfl)
        exact hret (mo15, lo14) H locs ls _ h hP hD hS dX4_quarterGoes_184
      refine lv_icmp_eq (tgt := 173) hx hb dX4_quarterGoes_80 (by decide) (fun c16 => ?_) (fun c16 => ?_)
      · have h := br1 h c16
        exact hJ_173 mo9 lo10 ls H locs h (lv_sub hl [1] rfl) hP hD hS
      · have h := br2 h c16
        refine lv_aload_n hx hb dX4_quarterGoes_83 rfl (lv_at hl 1 rfl) ?_
        refine va_get (D := D) (ci := 4) (v := .int (mo9 0 3)) (C := RX4) (T := TX4) (N := 29) hx hb hts hi4 hown hK.1 hP 0 rfl rfl 3 (by decide) (hts (.fieldLink RX4 67 "LastPennyModel" "people" "I") (by decide +kernel)) (fun _ h9 => h9) rfl dX4_quarterGoes_84 ?_
        refine lv_iconst (v := 1) hx hb dX4_quarterGoes_87 (by decide) ?_
        refine jn_elim h (fun J129 eJ129 h => ?_)
        have hJ_129 : ∀ (k17 : Int32) (mo18 : S2) (lo19 : SL) (ls : Array Slot) (H : Heap) (locs : List Loc), J129 k17 mo18 lo19 → lv_has ls 3 [(0, .ref (a 0)), (1, .int x12)] → va_P D vwCl (cM kc a mo18 lo19) H → va_D A (cM kc a mo18 lo19) → va_S A s.heap H locs → W p l e rm_X4_quarterGoes s m args below meth c H locs 0 0 Q (F0 m 129 ls [.int k17]) := by
          intro k17 mo18 lo19 ls H locs h hl hP hD hS
          subst eJ129
          refine lv_istore_n (lv' := [(2, .int k17), (0, .ref (a 0)), (1, .int x12)]) hx hb dX4_quarterGoes_129 rfl hl (by decide) rfl (fun ls hl => ?_)
          refine lv_iload_n hx hb dX4_quarterGoes_130 rfl (lv_at hl 0 rfl) ?_
          refine lv_if_eq (tgt := 159) hx hb dX4_quarterGoes_131 (by decide) (fun c20 => ?_) (fun c20 => ?_)
          · have h := br1 h c20
            refine lv_aload_n hx hb dX4_quarterGoes_159 rfl (lv_at hl 1 rfl) ?_
            refine lv_iload_n hx hb dX4_quarterGoes_160 rfl (lv_at hl 2 rfl) ?_
            refine lv_iconst (v := 3) hx hb dX4_quarterGoes_161 (by decide) ?_
            refine lv_aload_n hx hb dX4_quarterGoes_162 rfl (lv_at hl 1 rfl) ?_
            refine lv_iload_n hx hb dX4_quarterGoes_163 rfl (lv_at hl 2 rfl) ?_
            refine lv_iconst (v := 3) hx hb dX4_quarterGoes_164 (by decide) ?_
            refine q_cVi (As := [.int x12, .int 3]) (rest := [.int 3, .int x12, .ref (a 0)]) ⟨hx, hb, hml, hown, hts⟩ hK (c_X4_of l D kc a x12 (3 : Int32) mo18 lo19 H.size _ h) (cwV 2 hts gX4_quarterGoes_X4_of rfl rfl rfl (by decide +kernel) ⟨Nat.le_of_ble_eq_true rfl, Nat.le_of_ble_eq_true rfl⟩) (cut_same (fun u : S2 × SL => cM kc a u.1 u.2) (mo18, lo19)) hP hD hS hA 4 0 rfl rfl rfl hl.1 rfl (Nat.le_of_ble_eq_true rfl) dX4_quarterGoes_165 ⟨Nat.zero_le _, Nat.zero_le _⟩ (fun r23 u24 H locs h hP hD hS => ?_)
            obtain ⟨mo21, lo22⟩ := u24
            have hP : va_P D vwCl (cM kc a mo21 lo22) H := hP
            have hD : va_D A (cM kc a mo21 lo22) := hD
            refine lv_iconst (v := 1) hx hb dX4_quarterGoes_168 (by decide) ?_
            refine lv_iadd hx hb dX4_quarterGoes_169 ?_
            refine q_cVv (As := [.int x12, .int 3, .int (r23 + 1)]) (rest := []) ⟨hx, hb, hml, hown, hts⟩ hK (c_X4_becomesOf l D kc a x12 (3 : Int32) (r23 + 1) mo21 lo22 H.size _ h) (cwV 3 hts gX4_quarterGoes_X4_becomesOf rfl rfl rfl (by decide +kernel) ⟨Nat.le_of_ble_eq_true rfl, Nat.le_of_ble_eq_true rfl⟩) (cut_same (fun u : S2 × SL => cM kc a u.1 u.2) (mo21, lo22)) hP hD hS hA 4 0 rfl rfl rfl hl.1 rfl (Nat.le_of_ble_eq_true rfl) dX4_quarterGoes_170 ⟨Nat.zero_le _, Nat.zero_le _⟩ (fun u27 H locs h hP hD hS => ?_)
            obtain ⟨mo25, lo26⟩ := u27
            have hP : va_P D vwCl (cM kc a mo25 lo26) H := hP
            have hD : va_D A (cM kc a mo25 lo26) := hD
            exact hJ_173 mo25 lo26 ls H locs h (lv_sub hl [1] rfl) hP hD hS
          · have h := br2 h c20
            refine lv_aload_n hx hb dX4_quarterGoes_134 rfl (lv_at hl 1 rfl) ?_
            refine va_get (D := D) (ci := 4) (v := .ref (a 2)) (C := RX4) (T := TX4) (N := 29) hx hb hts hi4 hown hK.1 hP 0 rfl rfl 1 (by decide) (hts (.fieldLink RX4 13 "LastPennyModel" "now" "[I") (by decide +kernel)) (fun _ h9 => h9) rfl dX4_quarterGoes_135 ?_
            refine lv_bipush (v := 22) hx hb dX4_quarterGoes_138 (by decide) ?_
            refine lv_aload_n hx hb dX4_quarterGoes_140 rfl (lv_at hl 1 rfl) ?_
            refine lv_iload_n hx hb dX4_quarterGoes_141 rfl (lv_at hl 2 rfl) ?_
            refine q_cVi (As := [.int x12]) (rest := [.int 22, .ref (a 2)]) ⟨hx, hb, hml, hown, hts⟩ hK (c_X4_poorest l D kc a x12 mo18 lo19 H.size _ h) (cwV 1 hts gX4_quarterGoes_X4_poorest rfl rfl rfl (by decide +kernel) ⟨Nat.le_of_ble_eq_true rfl, Nat.le_of_ble_eq_true rfl⟩) (cut_same (fun u : S2 × SL => cM kc a u.1 u.2) (mo18, lo19)) hP hD hS hA 4 0 rfl rfl rfl hl.1 rfl (Nat.le_of_ble_eq_true rfl) dX4_quarterGoes_142 ⟨Nat.zero_le _, Nat.zero_le _⟩ (fun r30 u31 H locs h hP hD hS => ?_)
            obtain ⟨mo28, lo29⟩ := u31
            have hP : va_P D vwCl (cM kc a mo28 lo29) H := hP
            have hD : va_D A (cM kc a mo28 lo29) := hD
            refine va_iast hx hb hK.1 hP hD hS 2 0 rfl rfl (by unfold vp_in; decide) dX4_quarterGoes_145 (fun H locs hP hD hS => ?_)
            obtain ⟨mo32, emo32⟩ : ∃ z, z = (va_up mo28 2 (upd (mo28 2) (22 : Int32).toNatClampNeg r30)) := ⟨_, rfl⟩
            have h := nm_out h mo32 emo32
            have hP : va_P D vwCl (cM kc a mo32 lo29) H := q_to hP (by subst emo32; rfl)
            have hD : va_D A (cM kc a mo32 lo29) := q_toD hD (by subst emo32; rfl)
            refine lv_aload_n hx hb dX4_quarterGoes_146 rfl (lv_at hl 1 rfl) ?_
            refine lv_dup hx hb dX4_quarterGoes_147 rfl ?_
            refine va_get (D := D) (ci := 4) (v := .int (mo32 0 18)) (C := RX4) (T := TX4) (N := 29) hx hb hts hi4 hown hK.1 hP 0 rfl rfl 18 (by decide) (hts (.fieldLink RX4 180 "LastPennyModel" "handed" "I") (by decide +kernel)) (fun _ h9 => h9) rfl dX4_quarterGoes_148 ?_
            refine lv_iconst (v := 1) hx hb dX4_quarterGoes_151 (by decide) ?_
            refine lv_iadd hx hb dX4_quarterGoes_152 ?_
            refine va_put (D := D) (ci := 4) (v := .int ((mo32 0 18) + 1)) (ty := .int) (C := RX4) (T := TX4) (N := 29) hx hb hts hi4 tyX4 tyX4_ok nmX4 hown hK.1 hP hD hS 0 rfl rfl 18 (by decide) (hts (.fieldLink RX4 180 "LastPennyModel" "handed" "I") (by decide +kernel)) (fun _ h9 => h9) rfl (by decide +kernel) rfl rfl (Nat.le_of_ble_eq_true rfl) dX4_quarterGoes_153 (fun H locs hP hD hS => ?_)
            obtain ⟨mo33, emo33⟩ : ∃ z, z = (va_up mo32 0 (upd (mo32 0) 18 ((mo32 0 18) + 1))) := ⟨_, rfl⟩
            have h := nm_out h mo33 emo33
            have hP : va_P D vwCl (cM kc a mo33 lo29) H := q_to hP (by subst emo33; rfl)
            have hD : va_D A (cM kc a mo33 lo29) := q_toD hD (by subst emo33; rfl)
            refine lv_goto (tgt := 173) hx hb dX4_quarterGoes_156 (by decide) ?_
            exact hJ_173 mo33 lo29 ls H locs h (lv_sub hl [1] rfl) hP hD hS
        refine jn_elim h (fun J128 eJ128 h => ?_)
        have hJ_128 : ∀ (mo34 : S2) (lo35 : SL) (ls : Array Slot) (H : Heap) (locs : List Loc), J128 mo34 lo35 → lv_has ls 3 [(0, .ref (a 0)), (1, .int x12)] → va_P D vwCl (cM kc a mo34 lo35) H → va_D A (cM kc a mo34 lo35) → va_S A s.heap H locs → W p l e rm_X4_quarterGoes s m args below meth c H locs 0 0 Q (F0 m 128 ls []) := by
          intro mo34 lo35 ls H locs h hl hP hD hS
          subst eJ128
          refine lv_iconst (v := 0) hx hb dX4_quarterGoes_128 (by decide) ?_
          exact hJ_129 0 mo34 lo35 ls H locs h (lv_sub hl [0, 1] rfl) hP hD hS
        refine lv_icmp_le (tgt := 128) hx hb dX4_quarterGoes_88 (by decide) (fun c36 => ?_) (fun c36 => ?_)
        · have h := br1 h c36
          exact hJ_128 mo9 lo10 ls H locs h (lv_sub hl [1, 0] rfl) hP hD hS
        · have h := br2 h c36
          refine lv_aload_n hx hb dX4_quarterGoes_91 rfl (lv_at hl 1 rfl) ?_
          refine lv_iload_n hx hb dX4_quarterGoes_92 rfl (lv_at hl 0 rfl) ?_
          refine lv_iconst (v := 0) hx hb dX4_quarterGoes_93 (by decide) ?_
          refine q_cVi (As := [.int x12, .int 0]) (rest := []) ⟨hx, hb, hml, hown, hts⟩ hK (c_X4_of l D kc a x12 (0 : Int32) mo9 lo10 H.size _ h) (cwV 2 hts gX4_quarterGoes_X4_of rfl rfl rfl (by decide +kernel) ⟨Nat.le_of_ble_eq_true rfl, Nat.le_of_ble_eq_true rfl⟩) (cut_same (fun u : S2 × SL => cM kc a u.1 u.2) (mo9, lo10)) hP hD hS hA 4 0 rfl rfl rfl hl.1 rfl (Nat.le_of_ble_eq_true rfl) dX4_quarterGoes_94 ⟨Nat.zero_le _, Nat.zero_le _⟩ (fun r39 u40 H locs h hP hD hS => ?_)
          obtain ⟨mo37, lo38⟩ := u40
          have hP : va_P D vwCl (cM kc a mo37 lo38) H := hP
          have hD : va_D A (cM kc a mo37 lo38) := hD
          refine lv_iconst (v := 1) hx hb dX4_quarterGoes_97 (by decide) ?_
          refine jn_elim h (fun J124 eJ124 h => ?_)
          have hJ_124 : ∀ (mo41 : S2) (lo42 : SL) (ls : Array Slot) (H : Heap) (locs : List Loc), J124 mo41 lo42 → lv_has ls 3 [(0, .ref (a 0)), (1, .int x12)] → va_P D vwCl (cM kc a mo41 lo42) H → va_D A (cM kc a mo41 lo42) → va_S A s.heap H locs → W p l e rm_X4_quarterGoes s m args below meth c H locs 0 0 Q (F0 m 124 ls []) := by
            intro mo41 lo42 ls H locs h hl hP hD hS
            subst eJ124
            refine lv_iconst (v := 1) hx hb dX4_quarterGoes_124 (by decide) ?_
            refine lv_goto (tgt := 129) hx hb dX4_quarterGoes_125 (by decide) ?_
            exact hJ_129 1 mo41 lo42 ls H locs h (lv_sub hl [0, 1] rfl) hP hD hS
          refine lv_icmp_ne (tgt := 113) hx hb dX4_quarterGoes_98 (by decide) (fun c43 => ?_) (fun c43 => ?_)
          · have h := br2 h c43
            refine lv_aload_n hx hb dX4_quarterGoes_113 rfl (lv_at hl 1 rfl) ?_
            refine lv_iload_n hx hb dX4_quarterGoes_114 rfl (lv_at hl 0 rfl) ?_
            refine lv_iconst (v := 1) hx hb dX4_quarterGoes_115 (by decide) ?_
            refine q_cVi (As := [.int x12, .int 1]) (rest := []) ⟨hx, hb, hml, hown, hts⟩ hK (c_X4_of l D kc a x12 (1 : Int32) mo37 lo38 H.size _ h) (cwV 2 hts gX4_quarterGoes_X4_of rfl rfl rfl (by decide +kernel) ⟨Nat.le_of_ble_eq_true rfl, Nat.le_of_ble_eq_true rfl⟩) (cut_same (fun u : S2 × SL => cM kc a u.1 u.2) (mo37, lo38)) hP hD hS hA 4 0 rfl rfl rfl hl.1 rfl (Nat.le_of_ble_eq_true rfl) dX4_quarterGoes_116 ⟨Nat.zero_le _, Nat.zero_le _⟩ (fun r46 u47 H locs h hP hD hS => ?_)
            obtain ⟨mo44, lo45⟩ := u47
            have hP : va_P D vwCl (cM kc a mo44 lo45) H := hP
            have hD : va_D A (cM kc a mo44 lo45) := hD
            refine lv_bipush (v := 10) hx hb dX4_quarterGoes_119 (by decide) ?_
            refine lv_icmp_lt (tgt := 128) hx hb dX4_quarterGoes_121 (by decide) (fun c48 => ?_) (fun c48 => ?_)
            · have h := br1 h c48
              exact hJ_128 mo44 lo45 ls H locs h (lv_sub hl [1, 0] rfl) hP hD hS
            · have h := br2 h c48
              exact hJ_124 mo44 lo45 ls H locs h (lv_sub hl [1, 0] rfl) hP hD hS
          · have h := br1 h c43
            refine lv_aload_n hx hb dX4_quarterGoes_101 rfl (lv_at hl 1 rfl) ?_
            refine lv_iload_n hx hb dX4_quarterGoes_102 rfl (lv_at hl 0 rfl) ?_
            refine lv_iconst (v := 1) hx hb dX4_quarterGoes_103 (by decide) ?_
            refine q_cVi (As := [.int x12, .int 1]) (rest := []) ⟨hx, hb, hml, hown, hts⟩ hK (c_X4_of l D kc a x12 (1 : Int32) mo37 lo38 H.size _ h) (cwV 2 hts gX4_quarterGoes_X4_of rfl rfl rfl (by decide +kernel) ⟨Nat.le_of_ble_eq_true rfl, Nat.le_of_ble_eq_true rfl⟩) (cut_same (fun u : S2 × SL => cM kc a u.1 u.2) (mo37, lo38)) hP hD hS hA 4 0 rfl rfl rfl hl.1 rfl (Nat.le_of_ble_eq_true rfl) dX4_quarterGoes_104 ⟨Nat.zero_le _, Nat.zero_le _⟩ (fun r51 u52 H locs h hP hD hS => ?_)
            obtain ⟨mo49, lo50⟩ := u52
            have hP : va_P D vwCl (cM kc a mo49 lo50) H := hP
            have hD : va_D A (cM kc a mo49 lo50) := hD
            refine lv_if_ne (tgt := 128) hx hb dX4_quarterGoes_107 (by decide) (fun c53 => ?_) (fun c53 => ?_)
            · have h := br2 h c53
              exact hJ_128 mo49 lo50 ls H locs h (lv_sub hl [1, 0] rfl) hP hD hS
            · have h := br1 h c53
              refine lv_goto (tgt := 124) hx hb dX4_quarterGoes_110 (by decide) ?_
              exact hJ_124 mo49 lo50 ls H locs h (lv_sub hl [1, 0] rfl) hP hD hS
    · have h := br2 h c11
      refine lv_aload_n hx hb dX4_quarterGoes_41 rfl (lv_at hl 0 rfl) ?_
      refine lv_iload_n hx hb dX4_quarterGoes_42 rfl (lv_at hl 1 rfl) ?_
      refine lv_iconst (v := 1) hx hb dX4_quarterGoes_43 (by decide) ?_
      refine lv_aload_n hx hb dX4_quarterGoes_44 rfl (lv_at hl 0 rfl) ?_
      refine lv_iload_n hx hb dX4_quarterGoes_45 rfl (lv_at hl 1 rfl) ?_
      refine lv_iconst (v := 1) hx hb dX4_quarterGoes_46 (by decide) ?_
      refine q_cVi (As := [.int i8, .int 1]) (rest := [.int 1, .int i8, .ref (a 0)]) ⟨hx, hb, hml, hown, hts⟩ hK (c_X4_of l D kc a i8 (1 : Int32) mo9 lo10 H.size _ h) (cwV 2 hts gX4_quarterGoes_X4_of rfl rfl rfl (by decide +kernel) ⟨Nat.le_of_ble_eq_true rfl, Nat.le_of_ble_eq_true rfl⟩) (cut_same (fun u : S2 × SL => cM kc a u.1 u.2) (mo9, lo10)) hP hD hS hA 4 0 rfl rfl rfl hl.1 rfl (Nat.le_of_ble_eq_true rfl) dX4_quarterGoes_47 ⟨Nat.zero_le _, Nat.zero_le _⟩ (fun r56 u57 H locs h hP hD hS => ?_)
      obtain ⟨mo54, lo55⟩ := u57
      have hP : va_P D vwCl (cM kc a mo54 lo55) H := hP
      have hD : va_D A (cM kc a mo54 lo55) := hD
      refine lv_aload_n hx hb dX4_quarterGoes_50 rfl (lv_at hl 0 rfl) ?_
      refine va_get (D := D) (ci := 4) (v := .ref (a 6)) (C := RX4) (T := TX4) (N := 29) hx hb hts hi4 hown hK.1 hP 0 rfl rfl 17 (by decide) (hts (.fieldLink RX4 26 "LastPennyModel" "brought" "[I") (by decide +kernel)) (fun _ h9 => h9) rfl dX4_quarterGoes_51 ?_
      refine lv_iload_n hx hb dX4_quarterGoes_54 rfl (lv_at hl 1 rfl) ?_
      obtain ⟨hi_58, h⟩ := h
      refine va_iald hx hb hK.1 hP 6 0 rfl rfl hi_58 dX4_quarterGoes_55 ?_
      refine lv_iadd hx hb dX4_quarterGoes_56 ?_
      refine q_cSi (As := [.int (r56 + (mo54 6 i8.toNatClampNeg))]) (rest := [.int 1, .int i8, .ref (a 0)]) ⟨hx, hb, hml, hown, hts⟩ hK (c_X4_within l D kc (r56 + (mo54 6 i8.toNatClampNeg)) H.size _ h) (va_cwS 1 hts gX4_quarterGoes_X4_within rfl rfl rfl (by decide +kernel) ⟨Nat.le_of_ble_eq_true rfl, Nat.le_of_ble_eq_true rfl⟩) (cut_nil _) hP hD hS hA rfl hl.1 rfl (Nat.le_of_ble_eq_true rfl) dX4_quarterGoes_57 ⟨Nat.zero_le _, Nat.zero_le _⟩ (fun r59 _ H locs h hP hD hS => ?_)
      have hP : va_P D vwCl (cM kc a mo54 lo55) H := hP
      have hD : va_D A (cM kc a mo54 lo55) := hD
      refine q_cVv (As := [.int i8, .int 1, .int r59]) (rest := []) ⟨hx, hb, hml, hown, hts⟩ hK (c_X4_becomesOf l D kc a i8 (1 : Int32) r59 mo54 lo55 H.size _ h) (cwV 3 hts gX4_quarterGoes_X4_becomesOf rfl rfl rfl (by decide +kernel) ⟨Nat.le_of_ble_eq_true rfl, Nat.le_of_ble_eq_true rfl⟩) (cut_same (fun u : S2 × SL => cM kc a u.1 u.2) (mo54, lo55)) hP hD hS hA 4 0 rfl rfl rfl hl.1 rfl (Nat.le_of_ble_eq_true rfl) dX4_quarterGoes_60 ⟨Nat.zero_le _, Nat.zero_le _⟩ (fun u63 H locs h hP hD hS => ?_)
      obtain ⟨mo61, lo62⟩ := u63
      have hP : va_P D vwCl (cM kc a mo61 lo62) H := hP
      have hD : va_D A (cM kc a mo61 lo62) := hD
      obtain ⟨x64, ex64⟩ : ∃ z : Int32, z = i8 + 1 := ⟨_, rfl⟩
      have h := nm_out h x64 ex64
      refine lv_iinc (v := x64) (lv' := [(1, .int x64), (0, .ref (a 0))]) hx hb dX4_quarterGoes_63 hl (k := 1) rfl (by rw [ex64]; rfl) (by decide) rfl (fun ls hl => ?_)
      refine lv_goto (tgt := 33) hx hb dX4_quarterGoes_66 (by decide) ?_
      exact h ls H locs (lv_sub hl [1, 0] rfl) hP hD hS
  · have h := br2 h c7
    refine lv_aload_n hx hb dX4_quarterGoes_14 rfl (lv_at hl 0 rfl) ?_
    refine va_get (D := D) (ci := 4) (v := .ref (a 6)) (C := RX4) (T := TX4) (N := 29) hx hb hts hi4 hown hK.1 hP 0 rfl rfl 17 (by decide) (hts (.fieldLink RX4 26 "LastPennyModel" "brought" "[I") (by decide +kernel)) (fun _ h9 => h9) rfl dX4_quarterGoes_15 ?_
    refine lv_iload_n hx hb dX4_quarterGoes_18 rfl (lv_at hl 1 rfl) ?_
    refine lv_aload_n hx hb dX4_quarterGoes_19 rfl (lv_at hl 0 rfl) ?_
    refine lv_iload_n hx hb dX4_quarterGoes_20 rfl (lv_at hl 1 rfl) ?_
    refine q_cVi (As := [.int i4]) (rest := [.int i4, .ref (a 6)]) ⟨hx, hb, hml, hown, hts⟩ hK (c_X4_brings l D kc a i4 mo5 lo6 H.size _ h) (cwV 1 hts gX4_quarterGoes_X4_brings rfl rfl rfl (by decide +kernel) ⟨Nat.le_of_ble_eq_true rfl, Nat.le_of_ble_eq_true rfl⟩) (cut_same (fun u : S2 × SL => cM kc a u.1 u.2) (mo5, lo6)) hP hD hS hA 4 0 rfl rfl rfl hl.1 rfl (Nat.le_of_ble_eq_true rfl) dX4_quarterGoes_21 ⟨Nat.zero_le _, Nat.zero_le _⟩ (fun r67 u68 H locs h hP hD hS => ?_)
    obtain ⟨mo65, lo66⟩ := u68
    have hP : va_P D vwCl (cM kc a mo65 lo66) H := hP
    have hD : va_D A (cM kc a mo65 lo66) := hD
    obtain ⟨hi_69, h⟩ := h
    refine va_iast hx hb hK.1 hP hD hS 6 0 rfl rfl hi_69 dX4_quarterGoes_24 (fun H locs hP hD hS => ?_)
    obtain ⟨mo70, emo70⟩ : ∃ z, z = (va_up mo65 6 (upd (mo65 6) i4.toNatClampNeg r67)) := ⟨_, rfl⟩
    have h := nm_out h mo70 emo70
    have hP : va_P D vwCl (cM kc a mo70 lo66) H := q_to hP (by subst emo70; rfl)
    have hD : va_D A (cM kc a mo70 lo66) := q_toD hD (by subst emo70; rfl)
    obtain ⟨x71, ex71⟩ : ∃ z : Int32, z = i4 + 1 := ⟨_, rfl⟩
    have h := nm_out h x71 ex71
    refine lv_iinc (v := x71) (lv' := [(1, .int x71), (0, .ref (a 0))]) hx hb dX4_quarterGoes_25 hl (k := 1) rfl (by rw [ex71]; rfl) (by decide) rfl (fun ls hl => ?_)
    refine lv_goto (tgt := 6) hx hb dX4_quarterGoes_28 (by decide) ?_
    exact h ls H locs (lv_sub hl [1, 0] rfl) hP hD hS

def w_X4_quartersGo (p1 : Int32) (mo : S2) (lo : SL) (K : S2 → SL → Prop) : Prop := nm ((va_up mo 0 (upd (mo 0) 18 0)) : S2) (fun mo1 => lfp3 (fun G7 (i2 : Int32) (mo3 : S2) (lo4 : SL) => br (p1 ≤ i2) (K mo3 lo4) (w_X4_quarterGoes mo3 lo4 (fun mo6 lo7 => nm (i2 + 1 : Int32) (fun x9 => G7 x9 mo6 lo7)))) 0 mo1 lo)
abbrev rm_X4_quartersGo : Room := { frames := 4, cells := 0, slots := 0, locals := 88 }
set_option maxHeartbeats 4000000 in
set_option maxRecDepth 100000 in
theorem c_X4_quartersGo (l : Launch) (D : va_G) (kc : Nat → ClassId) (a : Nat → Nat) (p1 : Int32) (mo : S2) (lo : SL) (sz : Nat) (K : S2 → SL → Prop) (h : w_X4_quartersGo p1 mo lo K) : MetV l yX4_quartersGo wsX4_quartersGo rm_X4_quartersGo D kc (fun u : S2 × SL => cM kc a u.1 u.2) (mo, lo) [.ref (a 0), .int p1] sz (fun u => K u.1 u.2) := by
  refine q_ev (code := cX4_quartersGo) (maxL := 3) (by decide) rfl (Nat.le_of_ble_eq_true rfl) ?_
  intro p e s m args below meth c Q A hx hb hml hts hown hK hA hret ls hl hP hD hS
  have hown : s.vm.findClass RX4 = some m.cls := hown
  have hl : lv_has ls 3 [(0, .ref (a 0)), (1, .int p1)] := hl
  have hP : va_P D vwCl (cM kc a mo lo) s.heap := hP
  have hD : va_D A (cM kc a mo lo) := hD
  have hS : va_S A s.heap s.heap [] := hS
  obtain ⟨H, eH⟩ : ∃ z, z = s.heap := ⟨_, rfl⟩
  obtain ⟨locs, eL⟩ : ∃ z : List Loc, z = [] := ⟨_, rfl⟩
  have hP := q_heap hP eH
  have hS := q_heapS hS eH eL
  refine q_start eH eL ?_
  clear eH eL
  have hi4 : ∀ w ∈ u_ws RX4 TX4 29, w ∈ wsX4_quartersGo := by decide +kernel
  unfold w_X4_quartersGo at h
  refine lv_aload_n hx hb dX4_quartersGo_0 rfl (lv_at hl 0 rfl) ?_
  refine lv_iconst (v := 0) hx hb dX4_quartersGo_1 (by decide) ?_
  refine va_put (D := D) (ci := 4) (v := .int 0) (ty := .int) (C := RX4) (T := TX4) (N := 29) hx hb hts hi4 tyX4 tyX4_ok nmX4 hown hK.1 hP hD hS 0 rfl rfl 18 (by decide) (hts (.fieldLink RX4 180 "LastPennyModel" "handed" "I") (by decide +kernel)) (fun _ h9 => h9) rfl (by decide +kernel) rfl rfl (Nat.le_of_ble_eq_true rfl) dX4_quartersGo_2 (fun H locs hP hD hS => ?_)
  obtain ⟨mo1, emo1⟩ : ∃ z, z = (va_up mo 0 (upd (mo 0) 18 0)) := ⟨_, rfl⟩
  have h := nm_out h mo1 emo1
  have hP : va_P D vwCl (cM kc a mo1 lo) H := q_to hP (by subst emo1; rfl)
  have hD : va_D A (cM kc a mo1 lo) := q_toD hD (by subst emo1; rfl)
  refine lv_iconst (v := 0) hx hb dX4_quartersGo_5 (by decide) ?_
  refine lv_istore_n (lv' := [(2, .int 0), (0, .ref (a 0)), (1, .int p1)]) hx hb dX4_quartersGo_6 rfl hl (by decide) rfl (fun ls hl => ?_)
  refine h (fun (i2 : Int32) (mo3 : S2) (lo4 : SL) => ∀ (ls : Array Slot) (H : Heap) (locs : List Loc), lv_has ls 3 [(0, .ref (a 0)), (1, .int p1), (2, .int i2)] → va_P D vwCl (cM kc a mo3 lo4) H → va_D A (cM kc a mo3 lo4) → va_S A s.heap H locs → W p l e rm_X4_quartersGo s m args below meth c H locs 0 0 Q (F0 m 7 ls [])) ?_ ls H locs (lv_sub hl [1, 2, 0] rfl) hP hD hS
  intro i2 mo3 lo4 h ls H locs hl hP hD hS
  refine lv_iload_n hx hb dX4_quartersGo_7 rfl (lv_at hl 2 rfl) ?_
  refine lv_iload_n hx hb dX4_quartersGo_8 rfl (lv_at hl 1 rfl) ?_
  refine lv_icmp_ge (tgt := 22) hx hb dX4_quartersGo_9 (by decide) (fun c5 => ?_) (fun c5 => ?_)
  · have h := br1 h c5
    exact hret (mo3, lo4) H locs ls _ h hP hD hS dX4_quartersGo_22
  · have h := br2 h c5
    refine lv_aload_n hx hb dX4_quartersGo_12 rfl (lv_at hl 0 rfl) ?_
    refine q_cVv (As := []) (rest := []) ⟨hx, hb, hml, hown, hts⟩ hK (c_X4_quarterGoes l D kc a mo3 lo4 H.size _ h) (cwV 0 hts gX4_quartersGo_X4_quarterGoes rfl rfl rfl (by decide +kernel) ⟨Nat.le_of_ble_eq_true rfl, Nat.le_of_ble_eq_true rfl⟩) (cut_same (fun u : S2 × SL => cM kc a u.1 u.2) (mo3, lo4)) hP hD hS hA 4 0 rfl rfl rfl hl.1 rfl (Nat.le_of_ble_eq_true rfl) dX4_quartersGo_13 ⟨Nat.zero_le _, Nat.zero_le _⟩ (fun u8 H locs h hP hD hS => ?_)
    obtain ⟨mo6, lo7⟩ := u8
    have hP : va_P D vwCl (cM kc a mo6 lo7) H := hP
    have hD : va_D A (cM kc a mo6 lo7) := hD
    obtain ⟨x9, ex9⟩ : ∃ z : Int32, z = i2 + 1 := ⟨_, rfl⟩
    have h := nm_out h x9 ex9
    refine lv_iinc (v := x9) (lv' := [(2, .int x9), (0, .ref (a 0)), (1, .int p1)]) hx hb dX4_quartersGo_16 hl (k := 2) rfl (by rw [ex9]; rfl) (by decide) rfl (fun ls hl => ?_)
    refine lv_goto (tgt := 7) hx hb dX4_quartersGo_19 (by decide) ?_
    exact h ls H locs (lv_sub hl [1, 2, 0] rfl) hP hD hS

def w_X4_ruined (mo : S2) (lo : SL) (K : Int32 → S2 → SL → Prop) : Prop := lfp4 (fun G4 (i1 : Int32) (i2 : Int32) (mo3 : S2) (lo4 : SL) => br ((mo3 0 3) ≤ i2) (K i1 mo3 lo4) (w_X4_of i2 (1 : Int32) mo3 lo4 (fun r8 mo6 lo7 => jn (fun (k10 : Int32) => w_X4_flag k10 (fun r11 => nm ((i1 ||| (r11 <<< (i2 &&& 31))) : Int32) (fun x13 => nm (i2 + 1 : Int32) (fun x14 => G4 x13 x14 mo6 lo7)))) (fun J27 => br (r8 = 0) (J27 1) (J27 0))))) 0 0 mo lo
abbrev rm_X4_ruined : Room := { frames := 1, cells := 0, slots := 0, locals := 22 }
set_option maxHeartbeats 4000000 in
set_option maxRecDepth 100000 in
theorem c_X4_ruined (l : Launch) (D : va_G) (kc : Nat → ClassId) (a : Nat → Nat) (mo : S2) (lo : SL) (sz : Nat) (K : Int32 → S2 → SL → Prop) (h : w_X4_ruined mo lo K) : MetI l yX4_ruined wsX4_ruined rm_X4_ruined D kc (fun u : S2 × SL => cM kc a u.1 u.2) (mo, lo) [.ref (a 0)] sz (fun r u => K r u.1 u.2) := by
  refine q_ei (code := cX4_ruined) (maxL := 3) (by decide) rfl (Nat.le_of_ble_eq_true rfl) ?_
  intro p e s m args below meth c Q A hx hb hml hts hown hK hA hret ls hl hP hD hS
  have hown : s.vm.findClass RX4 = some m.cls := hown
  have hl : lv_has ls 3 [(0, .ref (a 0))] := hl
  have hP : va_P D vwCl (cM kc a mo lo) s.heap := hP
  have hD : va_D A (cM kc a mo lo) := hD
  have hS : va_S A s.heap s.heap [] := hS
  obtain ⟨H, eH⟩ : ∃ z, z = s.heap := ⟨_, rfl⟩
  obtain ⟨locs, eL⟩ : ∃ z : List Loc, z = [] := ⟨_, rfl⟩
  have hP := q_heap hP eH
  have hS := q_heapS hS eH eL
  refine q_start eH eL ?_
  clear eH eL
  have hi4 : ∀ w ∈ u_ws RX4 TX4 29, w ∈ wsX4_ruined := by decide +kernel
  unfold w_X4_ruined at h
  refine lv_iconst (v := 0) hx hb dX4_ruined_0 (by decide) ?_
  refine lv_istore_n (lv' := [(1, .int 0), (0, .ref (a 0))]) hx hb dX4_ruined_1 rfl hl (by decide) rfl (fun ls hl => ?_)
  refine lv_iconst (v := 0) hx hb dX4_ruined_2 (by decide) ?_
  refine lv_istore_n (lv' := [(2, .int 0), (1, .int 0), (0, .ref (a 0))]) hx hb dX4_ruined_3 rfl hl (by decide) rfl (fun ls hl => ?_)
  refine h (fun (i1 : Int32) (i2 : Int32) (mo3 : S2) (lo4 : SL) => ∀ (ls : Array Slot) (H : Heap) (locs : List Loc), lv_has ls 3 [(0, .ref (a 0)), (1, .int i1), (2, .int i2)] → va_P D vwCl (cM kc a mo3 lo4) H → va_D A (cM kc a mo3 lo4) → va_S A s.heap H locs → W p l e rm_X4_ruined s m args below meth c H locs 0 0 Q (F0 m 4 ls [])) ?_ ls H locs (lv_sub hl [2, 1, 0] rfl) hP hD hS
  intro i1 i2 mo3 lo4 h ls H locs hl hP hD hS
  refine lv_iload_n hx hb dX4_ruined_4 rfl (lv_at hl 2 rfl) ?_
  refine lv_aload_n hx hb dX4_ruined_5 rfl (lv_at hl 0 rfl) ?_
  refine va_get (D := D) (ci := 4) (v := .int (mo3 0 3)) (C := RX4) (T := TX4) (N := 29) hx hb hts hi4 hown hK.1 hP 0 rfl rfl 3 (by decide) (hts (.fieldLink RX4 67 "LastPennyModel" "people" "I") (by decide +kernel)) (fun _ h9 => h9) rfl dX4_ruined_6 ?_
  refine lv_icmp_ge (tgt := 40) hx hb dX4_ruined_9 (by decide) (fun c5 => ?_) (fun c5 => ?_)
  · have h := br1 h c5
    refine lv_iload_n hx hb dX4_ruined_40 rfl (lv_at hl 1 rfl) ?_
    exact hret i1 (mo3, lo4) H locs ls _ h hP hD hS dX4_ruined_41
  · have h := br2 h c5
    refine lv_iload_n hx hb dX4_ruined_12 rfl (lv_at hl 1 rfl) ?_
    refine lv_aload_n hx hb dX4_ruined_13 rfl (lv_at hl 0 rfl) ?_
    refine lv_iload_n hx hb dX4_ruined_14 rfl (lv_at hl 2 rfl) ?_
    refine lv_iconst (v := 1) hx hb dX4_ruined_15 (by decide) ?_
    refine q_cVi (As := [.int i2, .int 1]) (rest := [.int i1]) ⟨hx, hb, hml, hown, hts⟩ hK (c_X4_of l D kc a i2 (1 : Int32) mo3 lo4 H.size _ h) (cwV 2 hts gX4_ruined_X4_of rfl rfl rfl (by decide +kernel) ⟨Nat.le_of_ble_eq_true rfl, Nat.le_of_ble_eq_true rfl⟩) (cut_same (fun u : S2 × SL => cM kc a u.1 u.2) (mo3, lo4)) hP hD hS hA 4 0 rfl rfl rfl hl.1 rfl (Nat.le_of_ble_eq_true rfl) dX4_ruined_16 ⟨Nat.zero_le _, Nat.zero_le _⟩ (fun r8 u9 H locs h hP hD hS => ?_)
    obtain ⟨mo6, lo7⟩ := u9
    have hP : va_P D vwCl (cM kc a mo6 lo7) H := hP
    have hD : va_D A (cM kc a mo6 lo7) := hD
    refine jn_elim h (fun J27 eJ27 h => ?_)
    have hJ_27 : ∀ (k10 : Int32) (ls : Array Slot), J27 k10 → lv_has ls 3 [(0, .ref (a 0)), (2, .int i2)] → W p l e rm_X4_ruined s m args below meth c H locs 0 0 Q (F0 m 27 ls [.int k10, .int i1]) := by
      intro k10 ls h hl
      subst eJ27
      refine q_cSi (As := [.int k10]) (rest := [.int i1]) ⟨hx, hb, hml, hown, hts⟩ hK (c_X4_flag l D kc k10 H.size _ h) (va_cwS 1 hts gX4_ruined_X4_flag rfl rfl rfl (by decide +kernel) ⟨Nat.le_of_ble_eq_true rfl, Nat.le_of_ble_eq_true rfl⟩) (cut_nil _) hP hD hS hA rfl hl.1 rfl (Nat.le_of_ble_eq_true rfl) dX4_ruined_27 ⟨Nat.zero_le _, Nat.zero_le _⟩ (fun r11 _ H locs h hP hD hS => ?_)
      have hP : va_P D vwCl (cM kc a mo6 lo7) H := hP
      have hD : va_D A (cM kc a mo6 lo7) := hD
      refine lv_iload_n hx hb dX4_ruined_30 rfl (lv_at hl 1 rfl) ?_
      refine lv_ishl hx hb dX4_ruined_31 ?_
      refine lv_ior hx hb dX4_ruined_32 ?_
      refine lv_topi (fun x13 ex13 => ?_)
      have h := nm_out h x13 ex13
      refine lv_istore_n (lv' := [(1, .int x13), (0, .ref (a 0)), (2, .int i2)]) hx hb dX4_ruined_33 rfl hl (by decide) rfl (fun ls hl => ?_)
      obtain ⟨x14, ex14⟩ : ∃ z : Int32, z = i2 + 1 := ⟨_, rfl⟩
      have h := nm_out h x14 ex14
      refine lv_iinc (v := x14) (lv' := [(2, .int x14), (1, .int x13), (0, .ref (a 0))]) hx hb dX4_ruined_34 hl (k := 2) rfl (by rw [ex14]; rfl) (by decide) rfl (fun ls hl => ?_)
      refine lv_goto (tgt := 4) hx hb dX4_ruined_37 (by decide) ?_
      exact h ls H locs (lv_sub hl [2, 1, 0] rfl) hP hD hS
    refine lv_if_ne (tgt := 26) hx hb dX4_ruined_19 (by decide) (fun c15 => ?_) (fun c15 => ?_)
    · have h := br2 h c15
      refine lv_iconst (v := 0) hx hb dX4_ruined_26 (by decide) ?_
      exact hJ_27 0 ls h (lv_sub hl [0, 2] rfl)
    · have h := br1 h c15
      refine lv_iconst (v := 1) hx hb dX4_ruined_22 (by decide) ?_
      refine lv_goto (tgt := 27) hx hb dX4_ruined_23 (by decide) ?_
      exact hJ_27 1 ls h (lv_sub hl [0, 2] rfl)

def w_X4_bitsOf (p0 : Int32) (K : Int32 → Prop) : Prop := lfp2 (fun G4 (i1 : Int32) (i2 : Int32) => br (5 ≤ i2) (K i1) (nm ((i1 + ((p0 >>> (i2 &&& 31)) &&& 1)) : Int32) (fun x4 => nm (i2 + 1 : Int32) (fun x5 => G4 x4 x5)))) 0 0
abbrev rm_X4_bitsOf : Room := { frames := 0, cells := 0, slots := 0, locals := 0 }
set_option maxHeartbeats 4000000 in
set_option maxRecDepth 100000 in
theorem c_X4_bitsOf (l : Launch) (D : va_G) (kc : Nat → ClassId) (p0 : Int32) (sz : Nat) (K : Int32 → Prop) (h : w_X4_bitsOf p0 K) : MetI l yX4_bitsOf wsX4_bitsOf rm_X4_bitsOf D kc (fun _ : Unit => []) () [.int p0] sz (fun r _ => K r) := by
  refine q_ei (code := cX4_bitsOf) (maxL := 3) (by decide) rfl (Nat.le_of_ble_eq_true rfl) ?_
  intro p e s m args below meth c Q A hx hb hml hts hown hK hA hret ls hl hP hD hS
  have hown : s.vm.findClass RX4 = some m.cls := hown
  have hl : lv_has ls 3 [(0, .int p0)] := hl
  have hP : va_P D vwCl [] s.heap := hP
  have hS : va_S A s.heap s.heap [] := hS
  obtain ⟨H, eH⟩ : ∃ z, z = s.heap := ⟨_, rfl⟩
  obtain ⟨locs, eL⟩ : ∃ z : List Loc, z = [] := ⟨_, rfl⟩
  have hP := q_heap hP eH
  have hS := q_heapS hS eH eL
  refine q_start eH eL ?_
  clear eH eL
  unfold w_X4_bitsOf at h
  refine lv_iconst (v := 0) hx hb dX4_bitsOf_0 (by decide) ?_
  refine lv_istore_n (lv' := [(1, .int 0), (0, .int p0)]) hx hb dX4_bitsOf_1 rfl hl (by decide) rfl (fun ls hl => ?_)
  refine lv_iconst (v := 0) hx hb dX4_bitsOf_2 (by decide) ?_
  refine lv_istore_n (lv' := [(2, .int 0), (1, .int 0), (0, .int p0)]) hx hb dX4_bitsOf_3 rfl hl (by decide) rfl (fun ls hl => ?_)
  refine h (fun (i1 : Int32) (i2 : Int32) => ∀ (ls : Array Slot), lv_has ls 3 [(0, .int p0), (1, .int i1), (2, .int i2)] → W p l e rm_X4_bitsOf s m args below meth c H locs 0 0 Q (F0 m 4 ls [])) ?_ ls (lv_sub hl [2, 1, 0] rfl)
  intro i1 i2 h ls hl
  refine lv_iload_n hx hb dX4_bitsOf_4 rfl (lv_at hl 2 rfl) ?_
  refine lv_iconst (v := 5) hx hb dX4_bitsOf_5 (by decide) ?_
  refine lv_icmp_ge (tgt := 23) hx hb dX4_bitsOf_6 (by decide) (fun c3 => ?_) (fun c3 => ?_)
  · have h := br1 h c3
    refine lv_iload_n hx hb dX4_bitsOf_23 rfl (lv_at hl 1 rfl) ?_
    exact hret i1 () H locs ls _ h hP hD hS dX4_bitsOf_24
  · have h := br2 h c3
    refine lv_iload_n hx hb dX4_bitsOf_9 rfl (lv_at hl 1 rfl) ?_
    refine lv_iload_n hx hb dX4_bitsOf_10 rfl (lv_at hl 0 rfl) ?_
    refine lv_iload_n hx hb dX4_bitsOf_11 rfl (lv_at hl 2 rfl) ?_
    refine lv_ishr hx hb dX4_bitsOf_12 ?_
    refine lv_iconst (v := 1) hx hb dX4_bitsOf_13 (by decide) ?_
    refine lv_iand hx hb dX4_bitsOf_14 ?_
    refine lv_iadd hx hb dX4_bitsOf_15 ?_
    refine lv_topi (fun x4 ex4 => ?_)
    have h := nm_out h x4 ex4
    refine lv_istore_n (lv' := [(1, .int x4), (0, .int p0), (2, .int i2)]) hx hb dX4_bitsOf_16 rfl hl (by decide) rfl (fun ls hl => ?_)
    obtain ⟨x5, ex5⟩ : ∃ z : Int32, z = i2 + 1 := ⟨_, rfl⟩
    have h := nm_out h x5 ex5
    refine lv_iinc (v := x5) (lv' := [(2, .int x5), (1, .int x4), (0, .int p0)]) hx hb dX4_bitsOf_17 hl (k := 2) rfl (by rw [ex5]; rfl) (by decide) rfl (fun ls hl => ?_)
    refine lv_goto (tgt := 4) hx hb dX4_bitsOf_20 (by decide) ?_
    exact h ls (lv_sub hl [2, 1, 0] rfl)

def w_X4_allOf (p1 : Int32) (mo : S2) (lo : SL) (K : Int32 → S2 → SL → Prop) : Prop := lfp4 (fun G4 (i1 : Int32) (i2 : Int32) (mo3 : S2) (lo4 : SL) => br ((mo3 0 3) ≤ i2) (K i1 mo3 lo4) (w_X4_of i2 p1 mo3 lo4 (fun r8 mo6 lo7 => nm ((i1 + r8) : Int32) (fun x10 => nm (i2 + 1 : Int32) (fun x11 => G4 x10 x11 mo6 lo7))))) 0 0 mo lo
abbrev rm_X4_allOf : Room := { frames := 1, cells := 0, slots := 0, locals := 22 }
set_option maxHeartbeats 4000000 in
set_option maxRecDepth 100000 in
theorem c_X4_allOf (l : Launch) (D : va_G) (kc : Nat → ClassId) (a : Nat → Nat) (p1 : Int32) (mo : S2) (lo : SL) (sz : Nat) (K : Int32 → S2 → SL → Prop) (h : w_X4_allOf p1 mo lo K) : MetI l yX4_allOf wsX4_allOf rm_X4_allOf D kc (fun u : S2 × SL => cM kc a u.1 u.2) (mo, lo) [.ref (a 0), .int p1] sz (fun r u => K r u.1 u.2) := by
  refine q_ei (code := cX4_allOf) (maxL := 4) (by decide) rfl (Nat.le_of_ble_eq_true rfl) ?_
  intro p e s m args below meth c Q A hx hb hml hts hown hK hA hret ls hl hP hD hS
  have hown : s.vm.findClass RX4 = some m.cls := hown
  have hl : lv_has ls 4 [(0, .ref (a 0)), (1, .int p1)] := hl
  have hP : va_P D vwCl (cM kc a mo lo) s.heap := hP
  have hD : va_D A (cM kc a mo lo) := hD
  have hS : va_S A s.heap s.heap [] := hS
  obtain ⟨H, eH⟩ : ∃ z, z = s.heap := ⟨_, rfl⟩
  obtain ⟨locs, eL⟩ : ∃ z : List Loc, z = [] := ⟨_, rfl⟩
  have hP := q_heap hP eH
  have hS := q_heapS hS eH eL
  refine q_start eH eL ?_
  clear eH eL
  have hi4 : ∀ w ∈ u_ws RX4 TX4 29, w ∈ wsX4_allOf := by decide +kernel
  unfold w_X4_allOf at h
  refine lv_iconst (v := 0) hx hb dX4_allOf_0 (by decide) ?_
  refine lv_istore_n (lv' := [(2, .int 0), (0, .ref (a 0)), (1, .int p1)]) hx hb dX4_allOf_1 rfl hl (by decide) rfl (fun ls hl => ?_)
  refine lv_iconst (v := 0) hx hb dX4_allOf_2 (by decide) ?_
  refine lv_istore_n (lv' := [(3, .int 0), (2, .int 0), (0, .ref (a 0)), (1, .int p1)]) hx hb dX4_allOf_3 rfl hl (by decide) rfl (fun ls hl => ?_)
  refine h (fun (i1 : Int32) (i2 : Int32) (mo3 : S2) (lo4 : SL) => ∀ (ls : Array Slot) (H : Heap) (locs : List Loc), lv_has ls 4 [(0, .ref (a 0)), (1, .int p1), (2, .int i1), (3, .int i2)] → va_P D vwCl (cM kc a mo3 lo4) H → va_D A (cM kc a mo3 lo4) → va_S A s.heap H locs → W p l e rm_X4_allOf s m args below meth c H locs 0 0 Q (F0 m 4 ls [])) ?_ ls H locs (lv_sub hl [2, 3, 1, 0] rfl) hP hD hS
  intro i1 i2 mo3 lo4 h ls H locs hl hP hD hS
  refine lv_iload_n hx hb dX4_allOf_4 rfl (lv_at hl 3 rfl) ?_
  refine lv_aload_n hx hb dX4_allOf_5 rfl (lv_at hl 0 rfl) ?_
  refine va_get (D := D) (ci := 4) (v := .int (mo3 0 3)) (C := RX4) (T := TX4) (N := 29) hx hb hts hi4 hown hK.1 hP 0 rfl rfl 3 (by decide) (hts (.fieldLink RX4 67 "LastPennyModel" "people" "I") (by decide +kernel)) (fun _ h9 => h9) rfl dX4_allOf_6 ?_
  refine lv_icmp_ge (tgt := 27) hx hb dX4_allOf_9 (by decide) (fun c5 => ?_) (fun c5 => ?_)
  · have h := br1 h c5
    refine lv_iload_n hx hb dX4_allOf_27 rfl (lv_at hl 2 rfl) ?_
    exact hret i1 (mo3, lo4) H locs ls _ h hP hD hS dX4_allOf_28
  · have h := br2 h c5
    refine lv_iload_n hx hb dX4_allOf_12 rfl (lv_at hl 2 rfl) ?_
    refine lv_aload_n hx hb dX4_allOf_13 rfl (lv_at hl 0 rfl) ?_
    refine lv_iload_n hx hb dX4_allOf_14 rfl (lv_at hl 3 rfl) ?_
    refine lv_iload_n hx hb dX4_allOf_15 rfl (lv_at hl 1 rfl) ?_
    refine q_cVi (As := [.int i2, .int p1]) (rest := [.int i1]) ⟨hx, hb, hml, hown, hts⟩ hK (c_X4_of l D kc a i2 p1 mo3 lo4 H.size _ h) (cwV 2 hts gX4_allOf_X4_of rfl rfl rfl (by decide +kernel) ⟨Nat.le_of_ble_eq_true rfl, Nat.le_of_ble_eq_true rfl⟩) (cut_same (fun u : S2 × SL => cM kc a u.1 u.2) (mo3, lo4)) hP hD hS hA 4 0 rfl rfl rfl hl.1 rfl (Nat.le_of_ble_eq_true rfl) dX4_allOf_16 ⟨Nat.zero_le _, Nat.zero_le _⟩ (fun r8 u9 H locs h hP hD hS => ?_)
    obtain ⟨mo6, lo7⟩ := u9
    have hP : va_P D vwCl (cM kc a mo6 lo7) H := hP
    have hD : va_D A (cM kc a mo6 lo7) := hD
    refine lv_iadd hx hb dX4_allOf_19 ?_
    refine lv_topi (fun x10 ex10 => ?_)
    have h := nm_out h x10 ex10
    refine lv_istore_n (lv' := [(2, .int x10), (0, .ref (a 0)), (1, .int p1), (3, .int i2)]) hx hb dX4_allOf_20 rfl hl (by decide) rfl (fun ls hl => ?_)
    obtain ⟨x11, ex11⟩ : ∃ z : Int32, z = i2 + 1 := ⟨_, rfl⟩
    have h := nm_out h x11 ex11
    refine lv_iinc (v := x11) (lv' := [(3, .int x11), (2, .int x10), (0, .ref (a 0)), (1, .int p1)]) hx hb dX4_allOf_21 hl (k := 3) rfl (by rw [ex11]; rfl) (by decide) rfl (fun ls hl => ?_)
    refine lv_goto (tgt := 4) hx hb dX4_allOf_24 (by decide) ?_
    exact h ls H locs (lv_sub hl [2, 3, 1, 0] rfl) hP hD hS

def w_X4_rule (p1 : Int32) (mo : S2) (lo : SL) (K : Int32 → S2 → SL → Prop) : Prop := w_X4_starts mo lo (fun mo1 lo2 => br (p1 = 0) (K (mo1 0 3) mo1 lo2) (br (p1 = 1) (vp_in ((20 + p1) - 1) 171 ∧ (K (mo1 1 ((20 + p1) - 1).toNatClampNeg) mo1 lo2)) (br (p1 = 2) (vp_in ((20 + p1) - 1) 171 ∧ (K (mo1 1 ((20 + p1) - 1).toNatClampNeg) mo1 lo2)) (br (p1 = 3) (vp_in ((20 + p1) - 1) 171 ∧ (K (mo1 1 ((20 + p1) - 1).toNatClampNeg) mo1 lo2)) (br (p1 = 4) (w_X4_allOf (1 : Int32) mo1 lo2 (fun r14 mo12 lo13 => K r14 mo12 lo13)) (br (p1 = 5) (w_X4_ruined mo1 lo2 (fun r19 mo17 lo18 => K r19 mo17 lo18)) (br (p1 = 6) (K (mo1 1 (23 : Int32).toNatClampNeg) mo1 lo2) (K (-1) mo1 lo2))))))))
abbrev rm_X4_rule : Room := { frames := 2, cells := 0, slots := 0, locals := 45 }
set_option maxHeartbeats 4000000 in
set_option maxRecDepth 100000 in
theorem c_X4_rule (l : Launch) (D : va_G) (kc : Nat → ClassId) (a : Nat → Nat) (p1 : Int32) (mo : S2) (lo : SL) (sz : Nat) (K : Int32 → S2 → SL → Prop) (h : w_X4_rule p1 mo lo K) : MetI l yX4_rule wsX4_rule rm_X4_rule D kc (fun u : S2 × SL => cM kc a u.1 u.2) (mo, lo) [.ref (a 0), .int p1] sz (fun r u => K r u.1 u.2) := by
  refine q_ei (code := cX4_rule) (maxL := 2) (by decide) rfl (Nat.le_of_ble_eq_true rfl) ?_
  intro p e s m args below meth c Q A hx hb hml hts hown hK hA hret ls hl hP hD hS
  have hown : s.vm.findClass RX4 = some m.cls := hown
  have hl : lv_has ls 2 [(0, .ref (a 0)), (1, .int p1)] := hl
  have hP : va_P D vwCl (cM kc a mo lo) s.heap := hP
  have hD : va_D A (cM kc a mo lo) := hD
  have hS : va_S A s.heap s.heap [] := hS
  obtain ⟨H, eH⟩ : ∃ z, z = s.heap := ⟨_, rfl⟩
  obtain ⟨locs, eL⟩ : ∃ z : List Loc, z = [] := ⟨_, rfl⟩
  have hP := q_heap hP eH
  have hS := q_heapS hS eH eL
  refine q_start eH eL ?_
  clear eH eL
  have hi4 : ∀ w ∈ u_ws RX4 TX4 29, w ∈ wsX4_rule := by decide +kernel
  unfold w_X4_rule at h
  refine lv_aload_n hx hb dX4_rule_0 rfl (lv_at hl 0 rfl) ?_
  refine q_cVv (As := []) (rest := []) ⟨hx, hb, hml, hown, hts⟩ hK (c_X4_starts l D kc a mo lo H.size _ h) (cwV 0 hts gX4_rule_X4_starts rfl rfl rfl (by decide +kernel) ⟨Nat.le_of_ble_eq_true rfl, Nat.le_of_ble_eq_true rfl⟩) (cut_same (fun u : S2 × SL => cM kc a u.1 u.2) (mo, lo)) hP hD hS hA 4 0 rfl rfl rfl hl.1 rfl (Nat.le_of_ble_eq_true rfl) dX4_rule_1 ⟨Nat.zero_le _, Nat.zero_le _⟩ (fun u3 H locs h hP hD hS => ?_)
  obtain ⟨mo1, lo2⟩ := u3
  have hP : va_P D vwCl (cM kc a mo1 lo2) H := hP
  have hD : va_D A (cM kc a mo1 lo2) := hD
  refine lv_iload_n hx hb dX4_rule_4 rfl (lv_at hl 1 rfl) ?_
  by_cases c4 : p1 = 0
  · have h := br1 h c4
    refine lv_tableIn (tgt := 48) hx hb dX4_rule_5 (by rw [c4]; all_goals decide) (by rw [c4]; all_goals decide) (by rw [c4]; all_goals rfl) (by decide) ?_
    refine lv_aload_n hx hb dX4_rule_48 rfl (lv_at hl 0 rfl) ?_
    refine va_get (D := D) (ci := 4) (v := .int (mo1 0 3)) (C := RX4) (T := TX4) (N := 29) hx hb hts hi4 hown hK.1 hP 0 rfl rfl 3 (by decide) (hts (.fieldLink RX4 67 "LastPennyModel" "people" "I") (by decide +kernel)) (fun _ h9 => h9) rfl dX4_rule_49 ?_
    exact hret (mo1 0 3) (mo1, lo2) H locs ls _ h hP hD hS dX4_rule_52
  have h := br2 h c4
  by_cases c5 : p1 = 1
  · have h := br1 h c5
    refine lv_tableIn (tgt := 53) hx hb dX4_rule_5 (by rw [c5]; all_goals decide) (by rw [c5]; all_goals decide) (by rw [c5]; all_goals rfl) (by decide) ?_
    refine lv_aload_n hx hb dX4_rule_53 rfl (lv_at hl 0 rfl) ?_
    refine va_get (D := D) (ci := 4) (v := .ref (a 1)) (C := RX4) (T := TX4) (N := 29) hx hb hts hi4 hown hK.1 hP 0 rfl rfl 0 (by decide) (hts (.fieldLink RX4 7 "LastPennyModel" "st" "[I") (by decide +kernel)) (fun _ h9 => h9) rfl dX4_rule_54 ?_
    refine lv_bipush (v := 20) hx hb dX4_rule_57 (by decide) ?_
    refine lv_iload_n hx hb dX4_rule_59 rfl (lv_at hl 1 rfl) ?_
    refine lv_iadd hx hb dX4_rule_60 ?_
    refine lv_iconst (v := 1) hx hb dX4_rule_61 (by decide) ?_
    refine lv_isub hx hb dX4_rule_62 ?_
    obtain ⟨hi_6, h⟩ := h
    refine va_iald hx hb hK.1 hP 1 0 rfl rfl hi_6 dX4_rule_63 ?_
    exact hret (mo1 1 ((20 + p1) - 1).toNatClampNeg) (mo1, lo2) H locs ls _ h hP hD hS dX4_rule_64
  have h := br2 h c5
  by_cases c7 : p1 = 2
  · have h := br1 h c7
    refine lv_tableIn (tgt := 53) hx hb dX4_rule_5 (by rw [c7]; all_goals decide) (by rw [c7]; all_goals decide) (by rw [c7]; all_goals rfl) (by decide) ?_
    refine lv_aload_n hx hb dX4_rule_53 rfl (lv_at hl 0 rfl) ?_
    refine va_get (D := D) (ci := 4) (v := .ref (a 1)) (C := RX4) (T := TX4) (N := 29) hx hb hts hi4 hown hK.1 hP 0 rfl rfl 0 (by decide) (hts (.fieldLink RX4 7 "LastPennyModel" "st" "[I") (by decide +kernel)) (fun _ h9 => h9) rfl dX4_rule_54 ?_
    refine lv_bipush (v := 20) hx hb dX4_rule_57 (by decide) ?_
    refine lv_iload_n hx hb dX4_rule_59 rfl (lv_at hl 1 rfl) ?_
    refine lv_iadd hx hb dX4_rule_60 ?_
    refine lv_iconst (v := 1) hx hb dX4_rule_61 (by decide) ?_
    refine lv_isub hx hb dX4_rule_62 ?_
    obtain ⟨hi_8, h⟩ := h
    refine va_iald hx hb hK.1 hP 1 0 rfl rfl hi_8 dX4_rule_63 ?_
    exact hret (mo1 1 ((20 + p1) - 1).toNatClampNeg) (mo1, lo2) H locs ls _ h hP hD hS dX4_rule_64
  have h := br2 h c7
  by_cases c9 : p1 = 3
  · have h := br1 h c9
    refine lv_tableIn (tgt := 53) hx hb dX4_rule_5 (by rw [c9]; all_goals decide) (by rw [c9]; all_goals decide) (by rw [c9]; all_goals rfl) (by decide) ?_
    refine lv_aload_n hx hb dX4_rule_53 rfl (lv_at hl 0 rfl) ?_
    refine va_get (D := D) (ci := 4) (v := .ref (a 1)) (C := RX4) (T := TX4) (N := 29) hx hb hts hi4 hown hK.1 hP 0 rfl rfl 0 (by decide) (hts (.fieldLink RX4 7 "LastPennyModel" "st" "[I") (by decide +kernel)) (fun _ h9 => h9) rfl dX4_rule_54 ?_
    refine lv_bipush (v := 20) hx hb dX4_rule_57 (by decide) ?_
    refine lv_iload_n hx hb dX4_rule_59 rfl (lv_at hl 1 rfl) ?_
    refine lv_iadd hx hb dX4_rule_60 ?_
    refine lv_iconst (v := 1) hx hb dX4_rule_61 (by decide) ?_
    refine lv_isub hx hb dX4_rule_62 ?_
    obtain ⟨hi_10, h⟩ := h
    refine va_iald hx hb hK.1 hP 1 0 rfl rfl hi_10 dX4_rule_63 ?_
    exact hret (mo1 1 ((20 + p1) - 1).toNatClampNeg) (mo1, lo2) H locs ls _ h hP hD hS dX4_rule_64
  have h := br2 h c9
  by_cases c11 : p1 = 4
  · have h := br1 h c11
    refine lv_tableIn (tgt := 65) hx hb dX4_rule_5 (by rw [c11]; all_goals decide) (by rw [c11]; all_goals decide) (by rw [c11]; all_goals rfl) (by decide) ?_
    refine lv_aload_n hx hb dX4_rule_65 rfl (lv_at hl 0 rfl) ?_
    refine lv_iconst (v := 1) hx hb dX4_rule_66 (by decide) ?_
    refine q_cVi (As := [.int 1]) (rest := []) ⟨hx, hb, hml, hown, hts⟩ hK (c_X4_allOf l D kc a (1 : Int32) mo1 lo2 H.size _ h) (cwV 1 hts gX4_rule_X4_allOf rfl rfl rfl (by decide +kernel) ⟨Nat.le_of_ble_eq_true rfl, Nat.le_of_ble_eq_true rfl⟩) (cut_same (fun u : S2 × SL => cM kc a u.1 u.2) (mo1, lo2)) hP hD hS hA 4 0 rfl rfl rfl hl.1 rfl (Nat.le_of_ble_eq_true rfl) dX4_rule_67 ⟨Nat.zero_le _, Nat.zero_le _⟩ (fun r14 u15 H locs h hP hD hS => ?_)
    obtain ⟨mo12, lo13⟩ := u15
    have hP : va_P D vwCl (cM kc a mo12 lo13) H := hP
    have hD : va_D A (cM kc a mo12 lo13) := hD
    exact hret r14 (mo12, lo13) H locs ls _ h hP hD hS dX4_rule_70
  have h := br2 h c11
  by_cases c16 : p1 = 5
  · have h := br1 h c16
    refine lv_tableIn (tgt := 71) hx hb dX4_rule_5 (by rw [c16]; all_goals decide) (by rw [c16]; all_goals decide) (by rw [c16]; all_goals rfl) (by decide) ?_
    refine lv_aload_n hx hb dX4_rule_71 rfl (lv_at hl 0 rfl) ?_
    refine q_cVi (As := []) (rest := []) ⟨hx, hb, hml, hown, hts⟩ hK (c_X4_ruined l D kc a mo1 lo2 H.size _ h) (cwV 0 hts gX4_rule_X4_ruined rfl rfl rfl (by decide +kernel) ⟨Nat.le_of_ble_eq_true rfl, Nat.le_of_ble_eq_true rfl⟩) (cut_same (fun u : S2 × SL => cM kc a u.1 u.2) (mo1, lo2)) hP hD hS hA 4 0 rfl rfl rfl hl.1 rfl (Nat.le_of_ble_eq_true rfl) dX4_rule_72 ⟨Nat.zero_le _, Nat.zero_le _⟩ (fun r19 u20 H locs h hP hD hS => ?_)
    obtain ⟨mo17, lo18⟩ := u20
    have hP : va_P D vwCl (cM kc a mo17 lo18) H := hP
    have hD : va_D A (cM kc a mo17 lo18) := hD
    exact hret r19 (mo17, lo18) H locs ls _ h hP hD hS dX4_rule_75
  have h := br2 h c16
  by_cases c21 : p1 = 6
  · have h := br1 h c21
    refine lv_tableIn (tgt := 76) hx hb dX4_rule_5 (by rw [c21]; all_goals decide) (by rw [c21]; all_goals decide) (by rw [c21]; all_goals rfl) (by decide) ?_
    refine lv_aload_n hx hb dX4_rule_76 rfl (lv_at hl 0 rfl) ?_
    refine va_get (D := D) (ci := 4) (v := .ref (a 1)) (C := RX4) (T := TX4) (N := 29) hx hb hts hi4 hown hK.1 hP 0 rfl rfl 0 (by decide) (hts (.fieldLink RX4 7 "LastPennyModel" "st" "[I") (by decide +kernel)) (fun _ h9 => h9) rfl dX4_rule_77 ?_
    refine lv_bipush (v := 23) hx hb dX4_rule_80 (by decide) ?_
    refine va_iald hx hb hK.1 hP 1 0 rfl rfl (by unfold vp_in; decide) dX4_rule_82 ?_
    exact hret (mo1 1 (23 : Int32).toNatClampNeg) (mo1, lo2) H locs ls _ h hP hD hS dX4_rule_83
  have h := br2 h c21
  have ht22 := lv_neT (a := 0) c4 (by decide)
  have ht23 := lv_neT (a := 1) c5 (by decide)
  have ht24 := lv_neT (a := 2) c7 (by decide)
  have ht25 := lv_neT (a := 3) c9 (by decide)
  have ht26 := lv_neT (a := 4) c11 (by decide)
  have ht27 := lv_neT (a := 5) c16 (by decide)
  have ht28 := lv_neT (a := 6) c21 (by decide)
  refine lv_tableOut (tgt := 84) hx hb dX4_rule_5 (by omega) (by decide) ?_
  refine lv_iconst (v := -1) hx hb dX4_rule_84 (by decide) ?_
  exact hret (-1) (mo1, lo2) H locs ls _ h hP hD hS dX4_rule_85

def w_X4_one (p1 : Int32) (p2 : Int32) (mo : S2) (lo : SL) (K : Int32 → S2 → SL → Prop) : Prop := w_X4_isOne p1 mo lo (fun r3 mo1 lo2 => br (r3 = 0) (K (-1) mo1 lo2) (w_X4_in (p2.toInt64) (0 : Int64) (4 : Int64) (fun r6 => br (r6 = 0) (K (-1) mo1 lo2) (w_X4_starts mo1 lo2 (fun mo9 lo10 => br (4 ≤ p2) (w_X4_brings p1 mo9 lo10 (fun r15 mo13 lo14 => K r15 mo13 lo14)) (w_X4_of p1 p2 mo9 lo10 (fun r19 mo17 lo18 => K r19 mo17 lo18)))))))
abbrev rm_X4_one : Room := { frames := 3, cells := 0, slots := 0, locals := 66 }
set_option maxHeartbeats 4000000 in
set_option maxRecDepth 100000 in
theorem c_X4_one (l : Launch) (D : va_G) (kc : Nat → ClassId) (a : Nat → Nat) (p1 : Int32) (p2 : Int32) (mo : S2) (lo : SL) (sz : Nat) (K : Int32 → S2 → SL → Prop) (h : w_X4_one p1 p2 mo lo K) : MetI l yX4_one wsX4_one rm_X4_one D kc (fun u : S2 × SL => cM kc a u.1 u.2) (mo, lo) [.ref (a 0), .int p1, .int p2] sz (fun r u => K r u.1 u.2) := by
  refine q_ei (code := cX4_one) (maxL := 3) (by decide) rfl (Nat.le_of_ble_eq_true rfl) ?_
  intro p e s m args below meth c Q A hx hb hml hts hown hK hA hret ls hl hP hD hS
  have hown : s.vm.findClass RX4 = some m.cls := hown
  have hl : lv_has ls 3 [(0, .ref (a 0)), (1, .int p1), (2, .int p2)] := hl
  have hP : va_P D vwCl (cM kc a mo lo) s.heap := hP
  have hD : va_D A (cM kc a mo lo) := hD
  have hS : va_S A s.heap s.heap [] := hS
  obtain ⟨H, eH⟩ : ∃ z, z = s.heap := ⟨_, rfl⟩
  obtain ⟨locs, eL⟩ : ∃ z : List Loc, z = [] := ⟨_, rfl⟩
  have hP := q_heap hP eH
  have hS := q_heapS hS eH eL
  refine q_start eH eL ?_
  clear eH eL
  unfold w_X4_one at h
  refine lv_aload_n hx hb dX4_one_0 rfl (lv_at hl 0 rfl) ?_
  refine lv_iload_n hx hb dX4_one_1 rfl (lv_at hl 1 rfl) ?_
  refine q_cVi (As := [.int p1]) (rest := []) ⟨hx, hb, hml, hown, hts⟩ hK (c_X4_isOne l D kc a p1 mo lo H.size _ h) (cwV 1 hts gX4_one_X4_isOne rfl rfl rfl (by decide +kernel) ⟨Nat.le_of_ble_eq_true rfl, Nat.le_of_ble_eq_true rfl⟩) (cut_same (fun u : S2 × SL => cM kc a u.1 u.2) (mo, lo)) hP hD hS hA 4 0 rfl rfl rfl hl.1 rfl (Nat.le_of_ble_eq_true rfl) dX4_one_2 ⟨Nat.zero_le _, Nat.zero_le _⟩ (fun r3 u4 H locs h hP hD hS => ?_)
  obtain ⟨mo1, lo2⟩ := u4
  have hP : va_P D vwCl (cM kc a mo1 lo2) H := hP
  have hD : va_D A (cM kc a mo1 lo2) := hD
  refine lv_if_eq (tgt := 20) hx hb dX4_one_5 (by decide) (fun c5 => ?_) (fun c5 => ?_)
  · have h := br1 h c5
    refine lv_iconst (v := -1) hx hb dX4_one_20 (by decide) ?_
    exact hret (-1) (mo1, lo2) H locs ls _ h hP hD hS dX4_one_21
  · have h := br2 h c5
    refine lv_iload_n hx hb dX4_one_8 rfl (lv_at hl 2 rfl) ?_
    refine lv_i2l hx hb dX4_one_9 rfl ?_
    refine lv_lconst (v := 0) hx hb dX4_one_10 (by decide) ?_
    refine lv_ldc2 (v := 4) hx hb hown (hts (.constantLong RX4 199 (4)) (by decide +kernel)) dX4_one_11 ?_
    refine q_cSi (As := [.long (p2.toInt64), .long 0, .long 4]) (rest := []) ⟨hx, hb, hml, hown, hts⟩ hK (c_X4_in l D kc (p2.toInt64) (0 : Int64) (4 : Int64) H.size _ h) (va_cwS 3 hts gX4_one_X4_in rfl rfl rfl (by decide +kernel) ⟨Nat.le_of_ble_eq_true rfl, Nat.le_of_ble_eq_true rfl⟩) (cut_nil _) hP hD hS hA rfl hl.1 rfl (Nat.le_of_ble_eq_true rfl) dX4_one_14 ⟨Nat.zero_le _, Nat.zero_le _⟩ (fun r6 _ H locs h hP hD hS => ?_)
    have hP : va_P D vwCl (cM kc a mo1 lo2) H := hP
    have hD : va_D A (cM kc a mo1 lo2) := hD
    refine lv_if_ne (tgt := 22) hx hb dX4_one_17 (by decide) (fun c8 => ?_) (fun c8 => ?_)
    · have h := br2 h c8
      refine lv_aload_n hx hb dX4_one_22 rfl (lv_at hl 0 rfl) ?_
      refine q_cVv (As := []) (rest := []) ⟨hx, hb, hml, hown, hts⟩ hK (c_X4_starts l D kc a mo1 lo2 H.size _ h) (cwV 0 hts gX4_one_X4_starts rfl rfl rfl (by decide +kernel) ⟨Nat.le_of_ble_eq_true rfl, Nat.le_of_ble_eq_true rfl⟩) (cut_same (fun u : S2 × SL => cM kc a u.1 u.2) (mo1, lo2)) hP hD hS hA 4 0 rfl rfl rfl hl.1 rfl (Nat.le_of_ble_eq_true rfl) dX4_one_23 ⟨Nat.zero_le _, Nat.zero_le _⟩ (fun u11 H locs h hP hD hS => ?_)
      obtain ⟨mo9, lo10⟩ := u11
      have hP : va_P D vwCl (cM kc a mo9 lo10) H := hP
      have hD : va_D A (cM kc a mo9 lo10) := hD
      refine lv_iload_n hx hb dX4_one_26 rfl (lv_at hl 2 rfl) ?_
      refine lv_iconst (v := 4) hx hb dX4_one_27 (by decide) ?_
      refine lv_icmp_ge (tgt := 40) hx hb dX4_one_28 (by decide) (fun c12 => ?_) (fun c12 => ?_)
      · have h := br1 h c12
        refine lv_aload_n hx hb dX4_one_40 rfl (lv_at hl 0 rfl) ?_
        refine lv_iload_n hx hb dX4_one_41 rfl (lv_at hl 1 rfl) ?_
        refine q_cVi (As := [.int p1]) (rest := []) ⟨hx, hb, hml, hown, hts⟩ hK (c_X4_brings l D kc a p1 mo9 lo10 H.size _ h) (cwV 1 hts gX4_one_X4_brings rfl rfl rfl (by decide +kernel) ⟨Nat.le_of_ble_eq_true rfl, Nat.le_of_ble_eq_true rfl⟩) (cut_same (fun u : S2 × SL => cM kc a u.1 u.2) (mo9, lo10)) hP hD hS hA 4 0 rfl rfl rfl hl.1 rfl (Nat.le_of_ble_eq_true rfl) dX4_one_42 ⟨Nat.zero_le _, Nat.zero_le _⟩ (fun r15 u16 H locs h hP hD hS => ?_)
        obtain ⟨mo13, lo14⟩ := u16
        have hP : va_P D vwCl (cM kc a mo13 lo14) H := hP
        have hD : va_D A (cM kc a mo13 lo14) := hD
        exact hret r15 (mo13, lo14) H locs ls _ h hP hD hS dX4_one_45
      · have h := br2 h c12
        refine lv_aload_n hx hb dX4_one_31 rfl (lv_at hl 0 rfl) ?_
        refine lv_iload_n hx hb dX4_one_32 rfl (lv_at hl 1 rfl) ?_
        refine lv_iload_n hx hb dX4_one_33 rfl (lv_at hl 2 rfl) ?_
        refine q_cVi (As := [.int p1, .int p2]) (rest := []) ⟨hx, hb, hml, hown, hts⟩ hK (c_X4_of l D kc a p1 p2 mo9 lo10 H.size _ h) (cwV 2 hts gX4_one_X4_of rfl rfl rfl (by decide +kernel) ⟨Nat.le_of_ble_eq_true rfl, Nat.le_of_ble_eq_true rfl⟩) (cut_same (fun u : S2 × SL => cM kc a u.1 u.2) (mo9, lo10)) hP hD hS hA 4 0 rfl rfl rfl hl.1 rfl (Nat.le_of_ble_eq_true rfl) dX4_one_34 ⟨Nat.zero_le _, Nat.zero_le _⟩ (fun r19 u20 H locs h hP hD hS => ?_)
        obtain ⟨mo17, lo18⟩ := u20
        have hP : va_P D vwCl (cM kc a mo17 lo18) H := hP
        have hD : va_D A (cM kc a mo17 lo18) := hD
        refine lv_goto (tgt := 45) hx hb dX4_one_37 (by decide) ?_
        exact hret r19 (mo17, lo18) H locs ls _ h hP hD hS dX4_one_45
    · have h := br1 h c8
      refine lv_iconst (v := -1) hx hb dX4_one_20 (by decide) ?_
      exact hret (-1) (mo1, lo2) H locs ls _ h hP hD hS dX4_one_21

