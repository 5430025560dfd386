def w_X3_tallyTrades (p1 : Int32) (o : S3) (K : Int32 → S3 → Prop) : Prop := lfp2 (fun G2 (i1 : Int32) (o2 : S3) => br (105 ≤ i1) (lfp3 (fun G28 (i4 : Int32) (i5 : Int32) (o6 : S3) => br (20 < i5) (K i4 o6) (w_X3_fitsByTrade p1 i5 o6 (fun r9 o8 => jn (fun (i11 : Int32) (o12 : S3) => nm (i5 + 1 : Int32) (fun x13 => G28 i11 x13 o12)) (fun J83 => br (r9 = 0) (J83 i4 o8) (nm (i4 + 1 : Int32) (fun x15 => lfp2 (fun G49 (i16 : Int32) (o17 : S3) => br (20 < i16) (J83 x15 o17) (vp_in i16 21 ∧ (vp_in ((i16 * 5) + (o17 0 4 i16.toNatClampNeg)) 105 ∧ (vp_in ((i16 * 5) + (o17 0 4 i16.toNatClampNeg)) 105 ∧ (nm ((va_up o17 0 (va_up (o17 0) 5 (upd ((o17 0) 5) ((i16 * 5) + (o17 0 4 i16.toNatClampNeg)).toNatClampNeg ((o17 0 5 ((i16 * 5) + (o17 0 4 i16.toNatClampNeg)).toNatClampNeg) + 1)))) : S3) (fun o22 => nm (i16 + 1 : Int32) (fun x23 => G49 x23 o22))))))) 0 o8)))))) 0 0 o2) (vp_in i1 105 ∧ (nm ((va_up o2 0 (va_up (o2 0) 5 (upd ((o2 0) 5) i1.toNatClampNeg 0))) : S3) (fun o25 => nm (i1 + 1 : Int32) (fun x26 => G2 x26 o25))))) 0 o
abbrev rm_X3_tallyTrades : Room := { frames := 5, cells := 0, slots := 0, locals := 151 }
set_option maxHeartbeats 4000000 in
set_option maxRecDepth 100000 in
theorem c_X3_tallyTrades (l : Launch) (D : va_G) (kc : Nat → ClassId) (a : Nat → Nat → Nat) (p1 : Int32) (o : S3) (sz : Nat) (K : Int32 → S3 → Prop) (h : w_X3_tallyTrades p1 o K) : MetI l yX3_tallyTrades wsX3_tallyTrades rm_X3_tallyTrades D kc (fun u : S3 => cLP kc a u) o [.ref (a 0 0), .int p1] sz (fun r u => K r u) := by
  refine q_ei (code := cX3_tallyTrades) (maxL := 5) (by decide) rfl (Nat.le_of_ble_eq_true rfl) ?_
  intro p e s m args below meth c Q A hx hb hml hts hown hK hA hret ls hl hP hD hS
  have hown : s.vm.findClass RX3 = some m.cls := hown
  have hl : lv_has ls 5 [(0, .ref (a 0 0)), (1, .int p1)] := hl
  have hP : va_P D vwCl (cLP kc a o) s.heap := hP
  have hD : va_D A (cLP kc a o) := hD
  have hS : va_S A s.heap s.heap [] := hS
  obtain ⟨H, eH⟩ : ∃ z, z = s.heap := ⟨_, rfl⟩
  obtain ⟨locs, eL⟩ : ∃ z : List Loc, z = [] := ⟨_, rfl⟩
  have hP := q_heap hP eH
  have hS := q_heapS hS eH eL
  refine q_start eH eL ?_
  clear eH eL
  have hi3 : ∀ w ∈ u_ws RX3 TX3 10, w ∈ wsX3_tallyTrades := by decide +kernel
  unfold w_X3_tallyTrades at h
  refine lv_iconst (v := 0) hx hb dX3_tallyTrades_0 (by decide) ?_
  refine lv_istore_n (lv' := [(2, .int 0), (0, .ref (a 0 0)), (1, .int p1)]) hx hb dX3_tallyTrades_1 rfl hl (by decide) rfl (fun ls hl => ?_)
  refine h (fun (i1 : Int32) (o2 : S3) => ∀ (ls : Array Slot) (H : Heap) (locs : List Loc), lv_has ls 5 [(0, .ref (a 0 0)), (1, .int p1), (2, .int i1)] → va_P D vwCl (cLP kc a o2) H → va_D A (cLP kc a o2) → va_S A s.heap H locs → W p l e rm_X3_tallyTrades s m args below meth c H locs 0 0 Q (F0 m 2 ls [])) ?_ ls H locs (lv_sub hl [1, 2, 0] rfl) hP hD hS
  intro i1 o2 h ls H locs hl hP hD hS
  refine lv_iload_n hx hb dX3_tallyTrades_2 rfl (lv_at hl 2 rfl) ?_
  refine lv_aload_n hx hb dX3_tallyTrades_3 rfl (lv_at hl 0 rfl) ?_
  refine va_get (D := D) (ci := 3) (v := .ref (a 0 5)) (C := RX3) (T := TX3) (N := 10) hx hb hts hi3 hown hK.1 hP 0 rfl rfl 9 (by decide) (hts (.fieldLink RX3 47 "LastPenny" "tally" "[I") (by decide +kernel)) (fun _ h9 => h9) rfl dX3_tallyTrades_4 ?_
  refine va_alen hx hb hK.1 hP 5 0 rfl rfl (v := 105) rfl dX3_tallyTrades_7 ?_
  refine lv_icmp_ge (tgt := 24) hx hb dX3_tallyTrades_8 (by decide) (fun c3 => ?_) (fun c3 => ?_)
  · have h := br1 h c3
    refine lv_iconst (v := 0) hx hb dX3_tallyTrades_24 (by decide) ?_
    refine lv_istore_n (lv' := [(2, .int 0), (0, .ref (a 0 0)), (1, .int p1)]) hx hb dX3_tallyTrades_25 rfl hl (by decide) rfl (fun ls hl => ?_)
    refine lv_iconst (v := 0) hx hb dX3_tallyTrades_26 (by decide) ?_
    refine lv_istore_n (lv' := [(3, .int 0), (2, .int 0), (0, .ref (a 0 0)), (1, .int p1)]) hx hb dX3_tallyTrades_27 rfl hl (by decide) rfl (fun ls hl => ?_)
    refine h (fun (i4 : Int32) (i5 : Int32) (o6 : S3) => ∀ (ls : Array Slot) (H : Heap) (locs : List Loc), lv_has ls 5 [(0, .ref (a 0 0)), (1, .int p1), (2, .int i4), (3, .int i5)] → va_P D vwCl (cLP kc a o6) H → va_D A (cLP kc a o6) → va_S A s.heap H locs → W p l e rm_X3_tallyTrades s m args below meth c H locs 0 0 Q (F0 m 28 ls [])) ?_ ls H locs (lv_sub hl [2, 3, 1, 0] rfl) hP hD hS
    intro i4 i5 o6 h ls H locs hl hP hD hS
    refine lv_iload_n hx hb dX3_tallyTrades_28 rfl (lv_at hl 3 rfl) ?_
    refine lv_bipush (v := 20) hx hb dX3_tallyTrades_29 (by decide) ?_
    refine lv_icmp_gt (tgt := 89) hx hb dX3_tallyTrades_31 (by decide) (fun c7 => ?_) (fun c7 => ?_)
    · have h := br1 h c7
      refine lv_iload_n hx hb dX3_tallyTrades_89 rfl (lv_at hl 2 rfl) ?_
      exact hret i4 o6 H locs ls _ h hP hD hS dX3_tallyTrades_90
    · have h := br2 h c7
      refine lv_aload_n hx hb dX3_tallyTrades_34 rfl (lv_at hl 0 rfl) ?_
      refine lv_iload_n hx hb dX3_tallyTrades_35 rfl (lv_at hl 1 rfl) ?_
      refine lv_iload_n hx hb dX3_tallyTrades_36 rfl (lv_at hl 3 rfl) ?_
      refine q_cVi (As := [.int p1, .int i5]) (rest := []) ⟨hx, hb, hml, hown, hts⟩ hK (c_X3_fitsByTrade l D kc a p1 i5 o6 H.size _ h) (cwV 2 hts gX3_tallyTrades_X3_fitsByTrade rfl rfl rfl (by decide +kernel) ⟨Nat.le_of_ble_eq_true rfl, Nat.le_of_ble_eq_true rfl⟩) (cut_same (fun u : S3 => cLP kc a u) o6) hP hD hS hA 3 0 rfl rfl rfl hl.1 rfl (Nat.le_of_ble_eq_true rfl) dX3_tallyTrades_37 ⟨Nat.zero_le _, Nat.zero_le _⟩ (fun r9 u10 H locs h hP hD hS => ?_)
      obtain ⟨o8, rfl⟩ : ∃ z, z = u10 := ⟨_, rfl⟩
      have hP : va_P D vwCl (cLP kc a o8) H := hP
      have hD : va_D A (cLP kc a o8) := hD
      refine jn_elim h (fun J83 eJ83 h => ?_)
      have hJ_83 : ∀ (i11 : Int32) (o12 : S3) (ls : Array Slot) (H : Heap) (locs : List Loc), J83 i11 o12 → lv_has ls 5 [(0, .ref (a 0 0)), (1, .int p1), (2, .int i11), (3, .int i5)] → va_P D vwCl (cLP kc a o12) H → va_D A (cLP kc a o12) → va_S A s.heap H locs → W p l e rm_X3_tallyTrades s m args below meth c H locs 0 0 Q (F0 m 83 ls []) := by
        intro i11 o12 ls H locs h hl hP hD hS
        subst eJ83
        obtain ⟨x13, ex13⟩ : ∃ z : Int32, z = i5 + 1 := ⟨_, rfl⟩
        have h := nm_out h x13 ex13
        refine lv_iinc (v := x13) (lv' := [(3, .int x13), (0, .ref (a 0 0)), (1, .int p1), (2, .int i11)]) hx hb dX3_tallyTrades_83 hl (k := 3) rfl (by rw [ex13]; rfl) (by decide) rfl (fun ls hl => ?_)
        refine lv_goto (tgt := 28) hx hb dX3_tallyTrades_86 (by decide) ?_
        exact h ls H locs (lv_sub hl [1, 2, 3, 0] rfl) hP hD hS
      refine lv_if_eq (tgt := 83) hx hb dX3_tallyTrades_40 (by decide) (fun c14 => ?_) (fun c14 => ?_)
      · have h := br1 h c14
        exact hJ_83 i4 o8 ls H locs h (lv_sub hl [0, 1, 2, 3] rfl) hP hD hS
      · have h := br2 h c14
        obtain ⟨x15, ex15⟩ : ∃ z : Int32, z = i4 + 1 := ⟨_, rfl⟩
        have h := nm_out h x15 ex15
        refine lv_iinc (v := x15) (lv' := [(2, .int x15), (0, .ref (a 0 0)), (1, .int p1), (3, .int i5)]) hx hb dX3_tallyTrades_43 hl (k := 2) rfl (by rw [ex15]; rfl) (by decide) rfl (fun ls hl => ?_)
        refine lv_iconst (v := 0) hx hb dX3_tallyTrades_46 (by decide) ?_
        refine lv_istore (lv' := [(4, .int 0), (2, .int x15), (0, .ref (a 0 0)), (1, .int p1), (3, .int i5)]) hx hb dX3_tallyTrades_47 hl (by decide) rfl (fun ls hl => ?_)
        refine h (fun (i16 : Int32) (o17 : S3) => ∀ (ls : Array Slot) (H : Heap) (locs : List Loc), lv_has ls 5 [(0, .ref (a 0 0)), (1, .int p1), (2, .int x15), (3, .int i5), (4, .int i16)] → va_P D vwCl (cLP kc a o17) H → va_D A (cLP kc a o17) → va_S A s.heap H locs → W p l e rm_X3_tallyTrades s m args below meth c H locs 0 0 Q (F0 m 49 ls [])) ?_ ls H locs (lv_sub hl [2, 3, 1, 4, 0] rfl) hP hD hS
        intro i16 o17 h ls H locs hl hP hD hS
        refine lv_iload hx hb dX3_tallyTrades_49 (lv_at hl 4 rfl) ?_
        refine lv_bipush (v := 20) hx hb dX3_tallyTrades_51 (by decide) ?_
        refine lv_icmp_gt (tgt := 83) hx hb dX3_tallyTrades_53 (by decide) (fun c18 => ?_) (fun c18 => ?_)
        · have h := br1 h c18
          exact hJ_83 x15 o17 ls H locs h (lv_sub hl [0, 1, 2, 3] rfl) hP hD hS
        · have h := br2 h c18
          refine lv_aload_n hx hb dX3_tallyTrades_56 rfl (lv_at hl 0 rfl) ?_
          refine va_get (D := D) (ci := 3) (v := .ref (a 0 5)) (C := RX3) (T := TX3) (N := 10) hx hb hts hi3 hown hK.1 hP 0 rfl rfl 9 (by decide) (hts (.fieldLink RX3 47 "LastPenny" "tally" "[I") (by decide +kernel)) (fun _ h9 => h9) rfl dX3_tallyTrades_57 ?_
          refine lv_iload hx hb dX3_tallyTrades_60 (lv_at hl 4 rfl) ?_
          refine lv_iconst (v := 5) hx hb dX3_tallyTrades_62 (by decide) ?_
          refine lv_imul hx hb dX3_tallyTrades_63 ?_
          refine lv_aload_n hx hb dX3_tallyTrades_64 rfl (lv_at hl 0 rfl) ?_
          refine va_get (D := D) (ci := 3) (v := .ref (a 0 4)) (C := RX3) (T := TX3) (N := 10) hx hb hts hi3 hown hK.1 hP 0 rfl rfl 8 (by decide) (hts (.fieldLink RX3 43 "LastPenny" "holders" "[I") (by decide +kernel)) (fun _ h9 => h9) rfl dX3_tallyTrades_65 ?_
          refine lv_iload hx hb dX3_tallyTrades_68 (lv_at hl 4 rfl) ?_
          obtain ⟨hi_19, h⟩ := h
          refine va_iald hx hb hK.1 hP 4 0 rfl rfl hi_19 dX3_tallyTrades_70 ?_
          refine lv_iadd hx hb dX3_tallyTrades_71 ?_
          refine lv_dup2_11 hx hb dX3_tallyTrades_72 rfl rfl ?_
          obtain ⟨hi_20, h⟩ := h
          refine va_iald hx hb hK.1 hP 5 0 rfl rfl hi_20 dX3_tallyTrades_73 ?_
          refine lv_iconst (v := 1) hx hb dX3_tallyTrades_74 (by decide) ?_
          refine lv_iadd hx hb dX3_tallyTrades_75 ?_
          obtain ⟨hi_21, h⟩ := h
          refine va_iast hx hb hK.1 hP hD hS 5 0 rfl rfl hi_21 dX3_tallyTrades_76 (fun H locs hP hD hS => ?_)
          obtain ⟨o22, eo22⟩ : ∃ z, z = (va_up o17 0 (va_up (o17 0) 5 (upd ((o17 0) 5) ((i16 * 5) + (o17 0 4 i16.toNatClampNeg)).toNatClampNeg ((o17 0 5 ((i16 * 5) + (o17 0 4 i16.toNatClampNeg)).toNatClampNeg) + 1)))) := ⟨_, rfl⟩
          have h := nm_out h o22 eo22
          have hP : va_P D vwCl (cLP kc a o22) H := q_to hP (by subst eo22; rfl)
          have hD : va_D A (cLP kc a o22) := q_toD hD (by subst eo22; rfl)
          obtain ⟨x23, ex23⟩ : ∃ z : Int32, z = i16 + 1 := ⟨_, rfl⟩
          have h := nm_out h x23 ex23
          refine lv_iinc (v := x23) (lv' := [(4, .int x23), (0, .ref (a 0 0)), (1, .int p1), (2, .int x15), (3, .int i5)]) hx hb dX3_tallyTrades_77 hl (k := 4) rfl (by rw [ex23]; rfl) (by decide) rfl (fun ls hl => ?_)
          refine lv_goto (tgt := 49) hx hb dX3_tallyTrades_80 (by decide) ?_
          exact h ls H locs (lv_sub hl [1, 2, 3, 4, 0] rfl) hP hD hS
  · have h := br2 h c3
    refine lv_aload_n hx hb dX3_tallyTrades_11 rfl (lv_at hl 0 rfl) ?_
    refine va_get (D := D) (ci := 3) (v := .ref (a 0 5)) (C := RX3) (T := TX3) (N := 10) hx hb hts hi3 hown hK.1 hP 0 rfl rfl 9 (by decide) (hts (.fieldLink RX3 47 "LastPenny" "tally" "[I") (by decide +kernel)) (fun _ h9 => h9) rfl dX3_tallyTrades_12 ?_
    refine lv_iload_n hx hb dX3_tallyTrades_15 rfl (lv_at hl 2 rfl) ?_
    refine lv_iconst (v := 0) hx hb dX3_tallyTrades_16 (by decide) ?_
    obtain ⟨hi_24, h⟩ := h
    refine va_iast hx hb hK.1 hP hD hS 5 0 rfl rfl hi_24 dX3_tallyTrades_17 (fun H locs hP hD hS => ?_)
    obtain ⟨o25, eo25⟩ : ∃ z, z = (va_up o2 0 (va_up (o2 0) 5 (upd ((o2 0) 5) i1.toNatClampNeg 0))) := ⟨_, rfl⟩
    have h := nm_out h o25 eo25
    have hP : va_P D vwCl (cLP kc a o25) H := q_to hP (by subst eo25; rfl)
    have hD : va_D A (cLP kc a o25) := q_toD hD (by subst eo25; rfl)
    obtain ⟨x26, ex26⟩ : ∃ z : Int32, z = i1 + 1 := ⟨_, rfl⟩
    have h := nm_out h x26 ex26
    refine lv_iinc (v := x26) (lv' := [(2, .int x26), (0, .ref (a 0 0)), (1, .int p1)]) hx hb dX3_tallyTrades_18 hl (k := 2) rfl (by rw [ex26]; rfl) (by decide) rfl (fun ls hl => ?_)
    refine lv_goto (tgt := 2) hx hb dX3_tallyTrades_21 (by decide) ?_
    exact h ls H locs (lv_sub hl [1, 2, 0] rfl) hP hD hS

def w_X3_mostInRow (p1 : Int32) (o : S3) (K : Int32 → S3 → Prop) : Prop := lfp2 (fun G4 (i1 : Int32) (i2 : Int32) => br (5 ≤ i2) (K i1 o) (vp_in ((p1 * 5) + i2) 105 ∧ (nm ((if i1 < (o 0 5 ((p1 * 5) + i2).toNatClampNeg) then (o 0 5 ((p1 * 5) + i2).toNatClampNeg) else i1) : Int32) (fun x5 => nm (i2 + 1 : Int32) (fun x6 => G4 x5 x6))))) 0 0
abbrev rm_X3_mostInRow : Room := { frames := 1, cells := 0, slots := 0, locals := 60 }
set_option maxHeartbeats 4000000 in
set_option maxRecDepth 100000 in
theorem c_X3_mostInRow (l : Launch) (D : va_G) (kc : Nat → ClassId) (a : Nat → Nat → Nat) (p1 : Int32) (o : S3) (sz : Nat) (K : Int32 → S3 → Prop) (h : w_X3_mostInRow p1 o K) : MetI l yX3_mostInRow wsX3_mostInRow rm_X3_mostInRow D kc (fun u : S3 => cLP kc a u) o [.ref (a 0 0), .int p1] sz (fun r u => K r u) := by
  refine q_ei (code := cX3_mostInRow) (maxL := 4) (by decide) rfl (Nat.le_of_ble_eq_true rfl) ?_
  intro p e s m args below meth c Q A hx hb hml hts hown hK hA hret ls hl hP hD hS
  have hown : s.vm.findClass RX3 = some m.cls := hown
  have hl : lv_has ls 4 [(0, .ref (a 0 0)), (1, .int p1)] := hl
  have hP : va_P D vwCl (cLP kc a o) s.heap := hP
  have hD : va_D A (cLP kc a o) := hD
  have hS : va_S A s.heap s.heap [] := hS
  obtain ⟨H, eH⟩ : ∃ z, z = s.heap := ⟨_, rfl⟩
  obtain ⟨locs, eL⟩ : ∃ z : List Loc, z = [] := ⟨_, rfl⟩
  have hP := q_heap hP eH
  have hS := q_heapS hS eH eL
  refine q_start eH eL ?_
  clear eH eL
  have hi3 : ∀ w ∈ u_ws RX3 TX3 10, w ∈ wsX3_mostInRow := by decide +kernel
  unfold w_X3_mostInRow at h
  refine lv_iconst (v := 0) hx hb dX3_mostInRow_0 (by decide) ?_
  refine lv_istore_n (lv' := [(2, .int 0), (0, .ref (a 0 0)), (1, .int p1)]) hx hb dX3_mostInRow_1 rfl hl (by decide) rfl (fun ls hl => ?_)
  refine lv_iconst (v := 0) hx hb dX3_mostInRow_2 (by decide) ?_
  refine lv_istore_n (lv' := [(3, .int 0), (2, .int 0), (0, .ref (a 0 0)), (1, .int p1)]) hx hb dX3_mostInRow_3 rfl hl (by decide) rfl (fun ls hl => ?_)
  refine h (fun (i1 : Int32) (i2 : Int32) => ∀ (ls : Array Slot), lv_has ls 4 [(0, .ref (a 0 0)), (1, .int p1), (2, .int i1), (3, .int i2)] → W p l e rm_X3_mostInRow s m args below meth c H locs 0 0 Q (F0 m 4 ls [])) ?_ ls (lv_sub hl [2, 3, 1, 0] rfl)
  intro i1 i2 h ls hl
  refine lv_iload_n hx hb dX3_mostInRow_4 rfl (lv_at hl 3 rfl) ?_
  refine lv_iconst (v := 5) hx hb dX3_mostInRow_5 (by decide) ?_
  refine lv_icmp_ge (tgt := 30) hx hb dX3_mostInRow_6 (by decide) (fun c3 => ?_) (fun c3 => ?_)
  · have h := br1 h c3
    refine lv_iload_n hx hb dX3_mostInRow_30 rfl (lv_at hl 2 rfl) ?_
    exact hret i1 o H locs ls _ h hP hD hS dX3_mostInRow_31
  · have h := br2 h c3
    refine lv_iload_n hx hb dX3_mostInRow_9 rfl (lv_at hl 2 rfl) ?_
    refine lv_aload_n hx hb dX3_mostInRow_10 rfl (lv_at hl 0 rfl) ?_
    refine va_get (D := D) (ci := 3) (v := .ref (a 0 5)) (C := RX3) (T := TX3) (N := 10) hx hb hts hi3 hown hK.1 hP 0 rfl rfl 9 (by decide) (hts (.fieldLink RX3 47 "LastPenny" "tally" "[I") (by decide +kernel)) (fun _ h9 => h9) rfl dX3_mostInRow_11 ?_
    refine lv_iload_n hx hb dX3_mostInRow_14 rfl (lv_at hl 1 rfl) ?_
    refine lv_iconst (v := 5) hx hb dX3_mostInRow_15 (by decide) ?_
    refine lv_imul hx hb dX3_mostInRow_16 ?_
    refine lv_iload_n hx hb dX3_mostInRow_17 rfl (lv_at hl 3 rfl) ?_
    refine lv_iadd hx hb dX3_mostInRow_18 ?_
    obtain ⟨hi_4, h⟩ := h
    refine va_iald hx hb hK.1 hP 5 0 rfl rfl hi_4 dX3_mostInRow_19 ?_
    refine va_mmax hx hb (by rw [hml]; exact hl.1.symm) hown (hts (.methodLink RX3 249 Lib.Math.max.name) (by decide +kernel)) (hts (.static Lib.Math.max.name) (by decide +kernel)) (hts (.initialized "java/lang/Math") (by decide +kernel)) (hts (.code Lib.Math.max.name Lib.Math.max.code 2 (some .int)) (by decide +kernel)) (Nat.le_of_ble_eq_true rfl) (Nat.le_of_ble_eq_true rfl) (Nat.zero_le _) (Nat.zero_le _) dX3_mostInRow_20 ?_
    refine lv_topi (fun x5 ex5 => ?_)
    have h := nm_out h x5 ex5
    refine lv_istore_n (lv' := [(2, .int x5), (0, .ref (a 0 0)), (1, .int p1), (3, .int i2)]) hx hb dX3_mostInRow_23 rfl hl (by decide) rfl (fun ls hl => ?_)
    obtain ⟨x6, ex6⟩ : ∃ z : Int32, z = i2 + 1 := ⟨_, rfl⟩
    have h := nm_out h x6 ex6
    refine lv_iinc (v := x6) (lv' := [(3, .int x6), (2, .int x5), (0, .ref (a 0 0)), (1, .int p1)]) hx hb dX3_mostInRow_24 hl (k := 3) rfl (by rw [ex6]; rfl) (by decide) rfl (fun ls hl => ?_)
    refine lv_goto (tgt := 4) hx hb dX3_mostInRow_27 (by decide) ?_
    exact h ls (lv_sub hl [2, 3, 1, 0] rfl)

def w_X3_ask (p1 : Int32) (p2 : Int32) (o : S3) (K : Int32 → S3 → Prop) : Prop := w_X2_has p1 (o 1) (fun r2 w1 => nm ((va_up o 1 w1) : S3) (fun o4 => br (r2 = 0) (K (-1) o4) (w_X3_within p2 (0 : Int32) (1 : Int32) (fun r6 => br (r6 = 0) (K (-1) o4) (nm ((-4) : Int32) (fun x9 => w_X3_tallyTrades p1 o4 (fun r11 o10 => lfp4 (fun G35 (i13 : Int32) (i14 : Int32) (i15 : Int32) (o16 : S3) => br (20 < i15) (br (i13 = (-4)) (K i13 o16) (br (p2 = 0) (K i13 o16) (K i14 o16))) (w_X3_mostInRow i15 o16 (fun r21 o20 => jn (fun (i23 : Int32) (i24 : Int32) => nm (i15 + 1 : Int32) (fun x25 => G35 i23 i24 x25 o20)) (fun J64 => br (i14 ≤ r21) (J64 i13 i14) (J64 i15 r21))))) x9 r11 0 o10)))))))
abbrev rm_X3_ask : Room := { frames := 6, cells := 0, slots := 0, locals := 175 }
set_option maxHeartbeats 4000000 in
set_option maxRecDepth 100000 in
theorem c_X3_ask (l : Launch) (D : va_G) (kc : Nat → ClassId) (a : Nat → Nat → Nat) (p1 : Int32) (p2 : Int32) (o : S3) (sz : Nat) (K : Int32 → S3 → Prop) (h : w_X3_ask p1 p2 o K) : MetI l yX3_ask wsX3_ask rm_X3_ask D kc (fun u : S3 => cLP kc a u) o [.ref (a 0 0), .int p1, .int p2] sz (fun r u => K r u) := by
  refine q_ei (code := cX3_ask) (maxL := 7) (by decide) rfl (Nat.le_of_ble_eq_true rfl) ?_
  intro p e s m args below meth c Q A hx hb hml hts hown hK hA hret ls hl hP hD hS
  have hown : s.vm.findClass RX3 = some m.cls := hown
  have hl : lv_has ls 7 [(0, .ref (a 0 0)), (1, .int p1), (2, .int p2)] := hl
  have hP : va_P D vwCl (cLP kc a o) s.heap := hP
  have hD : va_D A (cLP kc a o) := hD
  have hS : va_S A s.heap s.heap [] := hS
  obtain ⟨H, eH⟩ : ∃ z, z = s.heap := ⟨_, rfl⟩
  obtain ⟨locs, eL⟩ : ∃ z : List Loc, z = [] := ⟨_, rfl⟩
  have hP := q_heap hP eH
  have hS := q_heapS hS eH eL
  refine q_start eH eL ?_
  clear eH eL
  have hi3 : ∀ w ∈ u_ws RX3 TX3 10, w ∈ wsX3_ask := by decide +kernel
  unfold w_X3_ask at h
  refine lv_aload_n hx hb dX3_ask_0 rfl (lv_at hl 0 rfl) ?_
  refine va_get (D := D) (ci := 3) (v := .ref (a 1 0)) (C := RX3) (T := TX3) (N := 10) hx hb hts hi3 hown hK.1 hP 0 rfl rfl 1 (by decide) (hts (.fieldLink RX3 19 "LastPenny" "now" "LLastPenny$World;") (by decide +kernel)) (fun _ h9 => h9) rfl dX3_ask_1 ?_
  refine lv_iload_n hx hb dX3_ask_4 rfl (lv_at hl 1 rfl) ?_
  refine q_cVi (As := [.int p1]) (rest := []) ⟨hx, hb, hml, hown, hts⟩ hK (c_X2_has l D kc (a 1) p1 (o 1) H.size _ h) (cwV 1 hts gX3_ask_X2_has rfl rfl rfl (by decide +kernel) ⟨Nat.le_of_ble_eq_true rfl, Nat.le_of_ble_eq_true rfl⟩) (cut_LP_1 D kc a o) hP hD hS hA 2 0 rfl rfl rfl hl.1 rfl (Nat.le_of_ble_eq_true rfl) dX3_ask_5 ⟨Nat.zero_le _, Nat.zero_le _⟩ (fun r2 u3 H locs h hP hD hS => ?_)
  obtain ⟨w1, rfl⟩ : ∃ z, z = u3 := ⟨_, rfl⟩
  obtain ⟨o4, eo4⟩ : ∃ z, z = (va_up o 1 w1) := ⟨_, rfl⟩
  have h := nm_out h o4 eo4
  have hP : va_P D vwCl (cLP kc a o4) H := q_to hP (by subst eo4; rfl)
  have hD : va_D A (cLP kc a o4) := q_toD hD (by subst eo4; rfl)
  refine lv_if_eq (tgt := 20) hx hb dX3_ask_8 (by decide) (fun c5 => ?_) (fun c5 => ?_)
  · have h := br1 h c5
    refine lv_iconst (v := -1) hx hb dX3_ask_20 (by decide) ?_
    exact hret (-1) o4 H locs ls _ h hP hD hS dX3_ask_21
  · have h := br2 h c5
    refine lv_iload_n hx hb dX3_ask_11 rfl (lv_at hl 2 rfl) ?_
    refine lv_iconst (v := 0) hx hb dX3_ask_12 (by decide) ?_
    refine lv_iconst (v := 1) hx hb dX3_ask_13 (by decide) ?_
    refine q_cSi (As := [.int p2, .int 0, .int 1]) (rest := []) ⟨hx, hb, hml, hown, hts⟩ hK (c_X3_within l D kc p2 (0 : Int32) (1 : Int32) H.size _ h) (va_cwS 3 hts gX3_ask_X3_within rfl rfl rfl (by decide +kernel) ⟨Nat.le_of_ble_eq_true rfl, Nat.le_of_ble_eq_true rfl⟩) (cut_nil _) hP hD hS hA rfl hl.1 rfl (Nat.le_of_ble_eq_true rfl) dX3_ask_14 ⟨Nat.zero_le _, Nat.zero_le _⟩ (fun r6 _ H locs h hP hD hS => ?_)
    have hP : va_P D vwCl (cLP kc a o4) H := hP
    have hD : va_D A (cLP kc a o4) := hD
    refine lv_if_ne (tgt := 22) hx hb dX3_ask_17 (by decide) (fun c8 => ?_) (fun c8 => ?_)
    · have h := br2 h c8
      refine lv_bipush (v := -4) hx hb dX3_ask_22 (by decide) ?_
      refine lv_topi (fun x9 ex9 => ?_)
      have h := nm_out h x9 ex9
      refine lv_istore_n (lv' := [(3, .int x9), (0, .ref (a 0 0)), (1, .int p1), (2, .int p2)]) hx hb dX3_ask_24 rfl hl (by decide) rfl (fun ls hl => ?_)
      refine lv_aload_n hx hb dX3_ask_25 rfl (lv_at hl 1 rfl) ?_
      refine lv_iload_n hx hb dX3_ask_26 rfl (lv_at hl 2 rfl) ?_
      refine q_cVi (As := [.int p1]) (rest := []) ⟨hx, hb, hml, hown, hts⟩ hK (c_X3_tallyTrades l D kc a p1 o4 H.size _ h) (cwV 1 hts gX3_ask_X3_tallyTrades rfl rfl rfl (by decide +kernel) ⟨Nat.le_of_ble_eq_true rfl, Nat.le_of_ble_eq_true rfl⟩) (cut_same (fun u : S3 => cLP kc a u) o4) hP hD hS hA 3 0 rfl rfl rfl hl.1 rfl (Nat.le_of_ble_eq_true rfl) dX3_ask_27 ⟨Nat.zero_le _, Nat.zero_le _⟩ (fun r11 u12 H locs h hP hD hS => ?_)
      obtain ⟨o10, rfl⟩ : ∃ z, z = u12 := ⟨_, rfl⟩
      have hP : va_P D vwCl (cLP kc a o10) H := hP
      have hD : va_D A (cLP kc a o10) := hD
      refine lv_istore (lv' := [(4, .int r11), (3, .int x9), (0, .ref (a 0 0)), (1, .int p1), (2, .int p2)]) hx hb dX3_ask_30 hl (by decide) rfl (fun ls hl => ?_)
      refine lv_iconst (v := 0) hx hb dX3_ask_32 (by decide) ?_
      refine lv_istore (lv' := [(5, .int 0), (4, .int r11), (3, .int x9), (0, .ref (a 0 0)), (1, .int p1), (2, .int p2)]) hx hb dX3_ask_33 hl (by decide) rfl (fun ls hl => ?_)
      refine h (fun (i13 : Int32) (i14 : Int32) (i15 : Int32) (o16 : S3) => ∀ (ls : Array Slot) (H : Heap) (locs : List Loc), lv_has ls 7 [(0, .ref (a 0 0)), (2, .int p2), (3, .int i13), (4, .int i14), (5, .int i15)] → va_P D vwCl (cLP kc a o16) H → va_D A (cLP kc a o16) → va_S A s.heap H locs → W p l e rm_X3_ask s m args below meth c H locs 0 0 Q (F0 m 35 ls [])) ?_ ls H locs (lv_sub hl [3, 5, 2, 1, 0] rfl) hP hD hS
      intro i13 i14 i15 o16 h ls H locs hl hP hD hS
      refine lv_iload hx hb dX3_ask_35 (lv_at hl 4 rfl) ?_
      refine lv_bipush (v := 20) hx hb dX3_ask_37 (by decide) ?_
      refine lv_icmp_gt (tgt := 70) hx hb dX3_ask_39 (by decide) (fun c17 => ?_) (fun c17 => ?_)
      · have h := br1 h c17
        refine lv_iload_n hx hb dX3_ask_70 rfl (lv_at hl 2 rfl) ?_
        refine lv_bipush (v := -4) hx hb dX3_ask_71 (by decide) ?_
        refine lv_icmp_eq (tgt := 80) hx hb dX3_ask_73 (by decide) (fun c18 => ?_) (fun c18 => ?_)
        · have h := br1 h c18
          refine lv_iload_n hx hb dX3_ask_80 rfl (lv_at hl 2 rfl) ?_
          refine lv_goto (tgt := 86) hx hb dX3_ask_81 (by decide) ?_
          exact hret i13 o16 H locs ls _ h hP hD hS dX3_ask_86
        · have h := br2 h c18
          refine lv_iload_n hx hb dX3_ask_76 rfl (lv_at hl 1 rfl) ?_
          refine lv_if_ne (tgt := 84) hx hb dX3_ask_77 (by decide) (fun c19 => ?_) (fun c19 => ?_)
          · have h := br2 h c19
            refine lv_iload hx hb dX3_ask_84 (lv_at hl 3 rfl) ?_
            exact hret i14 o16 H locs ls _ h hP hD hS dX3_ask_86
          · have h := br1 h c19
            refine lv_iload_n hx hb dX3_ask_80 rfl (lv_at hl 2 rfl) ?_
            refine lv_goto (tgt := 86) hx hb dX3_ask_81 (by decide) ?_
            exact hret i13 o16 H locs ls _ h hP hD hS dX3_ask_86
      · have h := br2 h c17
        refine lv_aload_n hx hb dX3_ask_42 rfl (lv_at hl 0 rfl) ?_
        refine lv_iload hx hb dX3_ask_43 (lv_at hl 4 rfl) ?_
        refine q_cVi (As := [.int i15]) (rest := []) ⟨hx, hb, hml, hown, hts⟩ hK (c_X3_mostInRow l D kc a i15 o16 H.size _ h) (cwV 1 hts gX3_ask_X3_mostInRow rfl rfl rfl (by decide +kernel) ⟨Nat.le_of_ble_eq_true rfl, Nat.le_of_ble_eq_true rfl⟩) (cut_same (fun u : S3 => cLP kc a u) o16) hP hD hS hA 3 0 rfl rfl rfl hl.1 rfl (Nat.le_of_ble_eq_true rfl) dX3_ask_45 ⟨Nat.zero_le _, Nat.zero_le _⟩ (fun r21 u22 H locs h hP hD hS => ?_)
        obtain ⟨o20, rfl⟩ : ∃ z, z = u22 := ⟨_, rfl⟩
        have hP : va_P D vwCl (cLP kc a o20) H := hP
        have hD : va_D A (cLP kc a o20) := hD
        refine lv_istore (lv' := [(6, .int r21), (0, .ref (a 0 0)), (2, .int p2), (3, .int i13), (4, .int i14), (5, .int i15)]) hx hb dX3_ask_48 hl (by decide) rfl (fun ls hl => ?_)
        refine lv_iload hx hb dX3_ask_50 (lv_at hl 0 rfl) ?_
        refine lv_iload hx hb dX3_ask_52 (lv_at hl 4 rfl) ?_
        refine jn_elim h (fun J64 eJ64 h => ?_)
        have hJ_64 : ∀ (i23 : Int32) (i24 : Int32) (ls : Array Slot), J64 i23 i24 → lv_has ls 7 [(0, .ref (a 0 0)), (2, .int p2), (3, .int i23), (4, .int i24), (5, .int i15)] → W p l e rm_X3_ask s m args below meth c H locs 0 0 Q (F0 m 64 ls []) := by
          intro i23 i24 ls h hl
          subst eJ64
          obtain ⟨x25, ex25⟩ : ∃ z : Int32, z = i15 + 1 := ⟨_, rfl⟩
          have h := nm_out h x25 ex25
          refine lv_iinc (v := x25) (lv' := [(5, .int x25), (0, .ref (a 0 0)), (2, .int p2), (3, .int i23), (4, .int i24)]) hx hb dX3_ask_64 hl (k := 4) rfl (by rw [ex25]; rfl) (by decide) rfl (fun ls hl => ?_)
          refine lv_goto (tgt := 35) hx hb dX3_ask_67 (by decide) ?_
          exact h ls H locs (lv_sub hl [1, 2, 3, 4, 0] rfl) hP hD hS
        refine lv_icmp_ge (tgt := 64) hx hb dX3_ask_54 (by decide) (fun c26 => ?_) (fun c26 => ?_)
        · have h := br1 h c26
          exact hJ_64 i13 i14 ls h (lv_sub hl [1, 2, 3, 4, 5] rfl)
        · have h := br2 h c26
          refine lv_iload hx hb dX3_ask_57 (lv_at hl 5 rfl) ?_
          refine lv_istore_n (lv' := [(3, .int i15), (6, .int r21), (0, .ref (a 0 0)), (2, .int p2), (4, .int i14), (5, .int i15)]) hx hb dX3_ask_59 rfl hl (by decide) rfl (fun ls hl => ?_)
          refine lv_iload hx hb dX3_ask_60 (lv_at hl 1 rfl) ?_
          refine lv_istore (lv' := [(4, .int r21), (3, .int i15), (6, .int r21), (0, .ref (a 0 0)), (2, .int p2), (5, .int i15)]) hx hb dX3_ask_62 hl (by decide) rfl (fun ls hl => ?_)
          exact hJ_64 i15 r21 ls h (lv_sub hl [3, 4, 1, 0, 5] rfl)
    · have h := br1 h c8
      refine lv_iconst (v := -1) hx hb dX3_ask_20 (by decide) ?_
      exact hret (-1) o4 H locs ls _ h hP hD hS dX3_ask_21

def w_X3_drift (p1 : Int32) (p2 : Int32) (p3 : Int32) (o : S3) (K : Int32 → S3 → Prop) : Prop := w_X3_within p2 (1 : Int32) (60 : Int32) (fun r1 => br (r1 = 0) (K (-1) o) (w_X3_within p3 (0 : Int32) (1 : Int32) (fun r4 => br (r4 = 0) (K (-1) o) (br ((o 1 0 0) = 0) (K (-2) o) (w_X2_become (o 2) (o 1) (fun w8 v9 => nm ((va_up (va_up o 2 w8) 1 v9) : S3) (fun o11 => lfp3 (fun G51 (i12 : Int32) (i13 : Int32) (o14 : S3) => br (p2 < i13) (br (p3 = 0) (w_X2_meansOfAll (o14 2) (fun r18 w17 => nm ((va_up o14 2 w17) : S3) (fun o20 => K r18 o20))) (K (o14 2 0 3) o14)) (nm (((i12 * 1103515245) + 12345) : Int32) (fun x21 => nm ((va_up o14 2 (va_up (o14 2) 0 (upd ((o14 2) 0) 2 ((((x21.toUInt32 >>> ((16 : Int32).toUInt32 &&& Int32.toUInt32 31)).toInt32) &&& 32767) - (((x21.toUInt32 >>> ((16 : Int32).toUInt32 &&& Int32.toUInt32 31)).toInt32) &&& 32767) / 10 * 10)))) : S3) (fun o22 => w_X2_step (o22 2) (fun r24 w23 => nm ((va_up o22 2 w23) : S3) (fun o26 => nm (i13 + 1 : Int32) (fun x27 => G51 x21 x27 o26))))))) p1 1 o11)))))))
abbrev rm_X3_drift : Room := { frames := 3, cells := 0, slots := 0, locals := 107 }
set_option maxHeartbeats 4000000 in
set_option maxRecDepth 100000 in
theorem c_X3_drift (l : Launch) (D : va_G) (kc : Nat → ClassId) (a : Nat → Nat → Nat) (p1 : Int32) (p2 : Int32) (p3 : Int32) (o : S3) (sz : Nat) (K : Int32 → S3 → Prop) (h : w_X3_drift p1 p2 p3 o K) : MetI l yX3_drift wsX3_drift rm_X3_drift D kc (fun u : S3 => cLP kc a u) o [.ref (a 0 0), .int p1, .int p2, .int p3] sz (fun r u => K r u) := by
  refine q_ei (code := cX3_drift) (maxL := 6) (by decide) rfl (Nat.le_of_ble_eq_true rfl) ?_
  intro p e s m args below meth c Q A hx hb hml hts hown hK hA hret ls hl hP hD hS
  have hown : s.vm.findClass RX3 = some m.cls := hown
  have hl : lv_has ls 6 [(0, .ref (a 0 0)), (1, .int p1), (2, .int p2), (3, .int p3)] := hl
  have hP : va_P D vwCl (cLP kc a o) s.heap := hP
  have hD : va_D A (cLP kc a o) := hD
  have hS : va_S A s.heap s.heap [] := hS
  obtain ⟨H, eH⟩ : ∃ z, z = s.heap := ⟨_, rfl⟩
  obtain ⟨locs, eL⟩ : ∃ z : List Loc, z = [] := ⟨_, rfl⟩
  have hP := q_heap hP eH
  have hS := q_heapS hS eH eL
  refine q_start eH eL ?_
  clear eH eL
  have hi2 : ∀ w ∈ u_ws RX2 TX2 13, w ∈ wsX3_drift := by decide +kernel
  have hi3 : ∀ w ∈ u_ws RX3 TX3 10, w ∈ wsX3_drift := by decide +kernel
  unfold w_X3_drift at h
  refine lv_iload_n hx hb dX3_drift_0 rfl (lv_at hl 2 rfl) ?_
  refine lv_iconst (v := 1) hx hb dX3_drift_1 (by decide) ?_
  refine lv_bipush (v := 60) hx hb dX3_drift_2 (by decide) ?_
  refine q_cSi (As := [.int p2, .int 1, .int 60]) (rest := []) ⟨hx, hb, hml, hown, hts⟩ hK (c_X3_within l D kc p2 (1 : Int32) (60 : Int32) H.size _ h) (va_cwS 3 hts gX3_drift_X3_within rfl rfl rfl (by decide +kernel) ⟨Nat.le_of_ble_eq_true rfl, Nat.le_of_ble_eq_true rfl⟩) (cut_nil _) hP hD hS hA rfl hl.1 rfl (Nat.le_of_ble_eq_true rfl) dX3_drift_4 ⟨Nat.zero_le _, Nat.zero_le _⟩ (fun r1 _ H locs h hP hD hS => ?_)
  have hP : va_P D vwCl (cLP kc a o) H := hP
  have hD : va_D A (cLP kc a o) := hD
  refine lv_if_eq (tgt := 19) hx hb dX3_drift_7 (by decide) (fun c3 => ?_) (fun c3 => ?_)
  · have h := br1 h c3
    refine lv_iconst (v := -1) hx hb dX3_drift_19 (by decide) ?_
    exact hret (-1) o H locs ls _ h hP hD hS dX3_drift_20
  · have h := br2 h c3
    refine lv_iload_n hx hb dX3_drift_10 rfl (lv_at hl 3 rfl) ?_
    refine lv_iconst (v := 0) hx hb dX3_drift_11 (by decide) ?_
    refine lv_iconst (v := 1) hx hb dX3_drift_12 (by decide) ?_
    refine q_cSi (As := [.int p3, .int 0, .int 1]) (rest := []) ⟨hx, hb, hml, hown, hts⟩ hK (c_X3_within l D kc p3 (0 : Int32) (1 : Int32) H.size _ h) (va_cwS 3 hts gX3_drift_X3_within rfl rfl rfl (by decide +kernel) ⟨Nat.le_of_ble_eq_true rfl, Nat.le_of_ble_eq_true rfl⟩) (cut_nil _) hP hD hS hA rfl hl.1 rfl (Nat.le_of_ble_eq_true rfl) dX3_drift_13 ⟨Nat.zero_le _, Nat.zero_le _⟩ (fun r4 _ H locs h hP hD hS => ?_)
    have hP : va_P D vwCl (cLP kc a o) H := hP
    have hD : va_D A (cLP kc a o) := hD
    refine lv_if_ne (tgt := 21) hx hb dX3_drift_16 (by decide) (fun c6 => ?_) (fun c6 => ?_)
    · have h := br2 h c6
      refine lv_aload_n hx hb dX3_drift_21 rfl (lv_at hl 0 rfl) ?_
      refine va_get (D := D) (ci := 3) (v := .ref (a 1 0)) (C := RX3) (T := TX3) (N := 10) hx hb hts hi3 hown hK.1 hP 0 rfl rfl 1 (by decide) (hts (.fieldLink RX3 19 "LastPenny" "now" "LLastPenny$World;") (by decide +kernel)) (fun _ h9 => h9) rfl dX3_drift_22 ?_
      refine va_get (D := D) (ci := 2) (v := .int (o 1 0 0)) (C := RX2) (T := TX2) (N := 13) hx hb hts hi2 hown hK.1 hP 6 rfl rfl 0 (by decide) (hts (.fieldLink RX3 80 "LastPenny$World" "people" "I") (by decide +kernel)) (fun _ h9 => h9) rfl dX3_drift_25 ?_
      refine lv_if_ne (tgt := 34) hx hb dX3_drift_28 (by decide) (fun c7 => ?_) (fun c7 => ?_)
      · have h := br2 h c7
        refine lv_aload_n hx hb dX3_drift_34 rfl (lv_at hl 0 rfl) ?_
        refine va_get (D := D) (ci := 3) (v := .ref (a 2 0)) (C := RX3) (T := TX3) (N := 10) hx hb hts hi3 hown hK.1 hP 0 rfl rfl 2 (by decide) (hts (.fieldLink RX3 23 "LastPenny" "trial" "LLastPenny$World;") (by decide +kernel)) (fun _ h9 => h9) rfl dX3_drift_35 ?_
        refine lv_aload_n hx hb dX3_drift_38 rfl (lv_at hl 0 rfl) ?_
        refine va_get (D := D) (ci := 3) (v := .ref (a 1 0)) (C := RX3) (T := TX3) (N := 10) hx hb hts hi3 hown hK.1 hP 0 rfl rfl 1 (by decide) (hts (.fieldLink RX3 19 "LastPenny" "now" "LLastPenny$World;") (by decide +kernel)) (fun _ h9 => h9) rfl dX3_drift_39 ?_
        refine q_cVv (As := [.ref (a 1 0)]) (rest := []) ⟨hx, hb, hml, hown, hts⟩ hK (c_X2_become l D kc (a 2) (a 1) (o 2) (o 1) H.size _ h) (cwV 1 hts gX3_drift_X2_become rfl rfl rfl (by decide +kernel) ⟨Nat.le_of_ble_eq_true rfl, Nat.le_of_ble_eq_true rfl⟩) (cut_LP_2_1 D kc a o) hP hD hS hA 2 0 rfl rfl rfl hl.1 rfl (Nat.le_of_ble_eq_true rfl) dX3_drift_42 ⟨Nat.zero_le _, Nat.zero_le _⟩ (fun u10 H locs h hP hD hS => ?_)
        obtain ⟨w8, v9⟩ := u10
        obtain ⟨o11, eo11⟩ : ∃ z, z = (va_up (va_up o 2 w8) 1 v9) := ⟨_, rfl⟩
        have h := nm_out h o11 eo11
        have hP : va_P D vwCl (cLP kc a o11) H := q_to hP (by subst eo11; rfl)
        have hD : va_D A (cLP kc a o11) := q_toD hD (by subst eo11; rfl)
        refine lv_iload_n hx hb dX3_drift_45 rfl (lv_at hl 1 rfl) ?_
        refine lv_istore (lv' := [(4, .int p1), (0, .ref (a 0 0)), (1, .int p1), (2, .int p2), (3, .int p3)]) hx hb dX3_drift_46 hl (by decide) rfl (fun ls hl => ?_)
        refine lv_iconst (v := 1) hx hb dX3_drift_48 (by decide) ?_
        refine lv_istore (lv' := [(5, .int 1), (4, .int p1), (0, .ref (a 0 0)), (1, .int p1), (2, .int p2), (3, .int p3)]) hx hb dX3_drift_49 hl (by decide) rfl (fun ls hl => ?_)
        refine h (fun (i12 : Int32) (i13 : Int32) (o14 : S3) => ∀ (ls : Array Slot) (H : Heap) (locs : List Loc), lv_has ls 6 [(0, .ref (a 0 0)), (2, .int p2), (3, .int p3), (4, .int i12), (5, .int i13)] → va_P D vwCl (cLP kc a o14) H → va_D A (cLP kc a o14) → va_S A s.heap H locs → W p l e rm_X3_drift s m args below meth c H locs 0 0 Q (F0 m 51 ls [])) ?_ ls H locs (lv_sub hl [2, 4, 5, 1, 0] rfl) hP hD hS
        intro i12 i13 o14 h ls H locs hl hP hD hS
        refine lv_iload hx hb dX3_drift_51 (lv_at hl 4 rfl) ?_
        refine lv_iload_n hx hb dX3_drift_53 rfl (lv_at hl 1 rfl) ?_
        refine lv_icmp_gt (tgt := 101) hx hb dX3_drift_54 (by decide) (fun c15 => ?_) (fun c15 => ?_)
        · have h := br1 h c15
          refine lv_iload_n hx hb dX3_drift_101 rfl (lv_at hl 2 rfl) ?_
          refine lv_if_ne (tgt := 115) hx hb dX3_drift_102 (by decide) (fun c16 => ?_) (fun c16 => ?_)
          · have h := br2 h c16
            refine lv_aload_n hx hb dX3_drift_115 rfl (lv_at hl 0 rfl) ?_
            refine va_get (D := D) (ci := 3) (v := .ref (a 2 0)) (C := RX3) (T := TX3) (N := 10) hx hb hts hi3 hown hK.1 hP 0 rfl rfl 2 (by decide) (hts (.fieldLink RX3 23 "LastPenny" "trial" "LLastPenny$World;") (by decide +kernel)) (fun _ h9 => h9) rfl dX3_drift_116 ?_
            refine va_get (D := D) (ci := 2) (v := .int (o14 2 0 3)) (C := RX2) (T := TX2) (N := 13) hx hb hts hi2 hown hK.1 hP 14 rfl rfl 3 (by decide) (hts (.fieldLink RX3 128 "LastPenny$World" "holder" "I") (by decide +kernel)) (fun _ h9 => h9) rfl dX3_drift_119 ?_
            exact hret (o14 2 0 3) o14 H locs ls _ h hP hD hS dX3_drift_122
          · have h := br1 h c16
            refine lv_aload_n hx hb dX3_drift_105 rfl (lv_at hl 0 rfl) ?_
            refine va_get (D := D) (ci := 3) (v := .ref (a 2 0)) (C := RX3) (T := TX3) (N := 10) hx hb hts hi3 hown hK.1 hP 0 rfl rfl 2 (by decide) (hts (.fieldLink RX3 23 "LastPenny" "trial" "LLastPenny$World;") (by decide +kernel)) (fun _ h9 => h9) rfl dX3_drift_106 ?_
            refine q_cVi (As := []) (rest := []) ⟨hx, hb, hml, hown, hts⟩ hK (c_X2_meansOfAll l D kc (a 2) (o14 2) H.size _ h) (cwV 0 hts gX3_drift_X2_meansOfAll rfl rfl rfl (by decide +kernel) ⟨Nat.le_of_ble_eq_true rfl, Nat.le_of_ble_eq_true rfl⟩) (cut_LP_2 D kc a o14) hP hD hS hA 2 0 rfl rfl rfl hl.1 rfl (Nat.le_of_ble_eq_true rfl) dX3_drift_109 ⟨Nat.zero_le _, Nat.zero_le _⟩ (fun r18 u19 H locs h hP hD hS => ?_)
            obtain ⟨w17, rfl⟩ : ∃ z, z = u19 := ⟨_, rfl⟩
            obtain ⟨o20, eo20⟩ : ∃ z, z = (va_up o14 2 w17) := ⟨_, rfl⟩
            have h := nm_out h o20 eo20
            have hP : va_P D vwCl (cLP kc a o20) H := q_to hP (by subst eo20; rfl)
            have hD : va_D A (cLP kc a o20) := q_toD hD (by subst eo20; rfl)
            refine lv_goto (tgt := 122) hx hb dX3_drift_112 (by decide) ?_
            exact hret r18 o20 H locs ls _ h hP hD hS dX3_drift_122
        · have h := br2 h c15
          refine lv_iload hx hb dX3_drift_57 (lv_at hl 3 rfl) ?_
          refine lv_ldc (v := 1103515245) hx hb hown (hts (.constant RX3 200 (1103515245)) (by decide +kernel)) dX3_drift_59 ?_
          refine lv_imul hx hb dX3_drift_61 ?_
          refine lv_sipush (v := 12345) hx hb dX3_drift_62 (by decide) ?_
          refine lv_iadd hx hb dX3_drift_65 ?_
          refine lv_topi (fun x21 ex21 => ?_)
          have h := nm_out h x21 ex21
          refine lv_istore (lv' := [(4, .int x21), (0, .ref (a 0 0)), (2, .int p2), (3, .int p3), (5, .int i13)]) hx hb dX3_drift_66 hl (by decide) rfl (fun ls hl => ?_)
          refine lv_aload_n hx hb dX3_drift_68 rfl (lv_at hl 1 rfl) ?_
          refine va_get (D := D) (ci := 3) (v := .ref (a 2 0)) (C := RX3) (T := TX3) (N := 10) hx hb hts hi3 hown hK.1 hP 0 rfl rfl 2 (by decide) (hts (.fieldLink RX3 23 "LastPenny" "trial" "LLastPenny$World;") (by decide +kernel)) (fun _ h9 => h9) rfl dX3_drift_69 ?_
          refine lv_iload hx hb dX3_drift_72 (lv_at hl 0 rfl) ?_
          refine lv_bipush (v := 16) hx hb dX3_drift_74 (by decide) ?_
          refine lv_iushr hx hb dX3_drift_76 rfl ?_
          refine lv_sipush (v := 32767) hx hb dX3_drift_77 (by decide) ?_
          refine lv_iand hx hb dX3_drift_80 ?_
          refine lv_bipush (v := 10) hx hb dX3_drift_81 (by decide) ?_
          refine lv_irem hx hb dX3_drift_83 (by decide) ?_
          refine va_put (D := D) (ci := 2) (v := .int ((((x21.toUInt32 >>> ((16 : Int32).toUInt32 &&& Int32.toUInt32 31)).toInt32) &&& 32767) - (((x21.toUInt32 >>> ((16 : Int32).toUInt32 &&& Int32.toUInt32 31)).toInt32) &&& 32767) / 10 * 10)) (ty := .int) (C := RX2) (T := TX2) (N := 13) hx hb hts hi2 tyX2 tyX2_ok nmX2 hown hK.1 hP hD hS 14 rfl rfl 2 (by decide) (hts (.fieldLink RX3 86 "LastPenny$World" "slumpNow" "I") (by decide +kernel)) (fun _ h9 => h9) rfl (by decide +kernel) rfl rfl (Nat.le_of_ble_eq_true rfl) dX3_drift_84 (fun H locs hP hD hS => ?_)
          obtain ⟨o22, eo22⟩ : ∃ z, z = (va_up o14 2 (va_up (o14 2) 0 (upd ((o14 2) 0) 2 ((((x21.toUInt32 >>> ((16 : Int32).toUInt32 &&& Int32.toUInt32 31)).toInt32) &&& 32767) - (((x21.toUInt32 >>> ((16 : Int32).toUInt32 &&& Int32.toUInt32 31)).toInt32) &&& 32767) / 10 * 10)))) := ⟨_, rfl⟩
          have h := nm_out h o22 eo22
          have hP : va_P D vwCl (cLP kc a o22) H := q_to hP (by subst eo22; rfl)
          have hD : va_D A (cLP kc a o22) := q_toD hD (by subst eo22; rfl)
          refine lv_aload_n hx hb dX3_drift_87 rfl (lv_at hl 1 rfl) ?_
          refine va_get (D := D) (ci := 3) (v := .ref (a 2 0)) (C := RX3) (T := TX3) (N := 10) hx hb hts hi3 hown hK.1 hP 0 rfl rfl 2 (by decide) (hts (.fieldLink RX3 23 "LastPenny" "trial" "LLastPenny$World;") (by decide +kernel)) (fun _ h9 => h9) rfl dX3_drift_88 ?_
          refine q_cVi (As := []) (rest := []) ⟨hx, hb, hml, hown, hts⟩ hK (c_X2_step l D kc (a 2) (o22 2) H.size _ h) (cwV 0 hts gX3_drift_X2_step rfl rfl rfl (by decide +kernel) ⟨Nat.le_of_ble_eq_true rfl, Nat.le_of_ble_eq_true rfl⟩) (cut_LP_2 D kc a o22) hP hD hS hA 2 0 rfl rfl rfl hl.1 rfl (Nat.le_of_ble_eq_true rfl) dX3_drift_91 ⟨Nat.zero_le _, Nat.zero_le _⟩ (fun r24 u25 H locs h hP hD hS => ?_)
          obtain ⟨w23, rfl⟩ : ∃ z, z = u25 := ⟨_, rfl⟩
          obtain ⟨o26, eo26⟩ : ∃ z, z = (va_up o22 2 w23) := ⟨_, rfl⟩
          have h := nm_out h o26 eo26
          have hP : va_P D vwCl (cLP kc a o26) H := q_to hP (by subst eo26; rfl)
          have hD : va_D A (cLP kc a o26) := q_toD hD (by subst eo26; rfl)
          refine lv_pop hx hb dX3_drift_94 rfl ?_
          obtain ⟨x27, ex27⟩ : ∃ z : Int32, z = i13 + 1 := ⟨_, rfl⟩
          have h := nm_out h x27 ex27
          refine lv_iinc (v := x27) (lv' := [(5, .int x27), (4, .int x21), (0, .ref (a 0 0)), (2, .int p2), (3, .int p3)]) hx hb dX3_drift_95 hl (k := 4) rfl (by rw [ex27]; rfl) (by decide) rfl (fun ls hl => ?_)
          refine lv_goto (tgt := 51) hx hb dX3_drift_98 (by decide) ?_
          exact h ls H locs (lv_sub hl [2, 3, 4, 1, 0] rfl) hP hD hS
      · have h := br1 h c7
        refine lv_bipush (v := -2) hx hb dX3_drift_31 (by decide) ?_
        exact hret (-2) o H locs ls _ h hP hD hS dX3_drift_33
    · have h := br1 h c6
      refine lv_iconst (v := -1) hx hb dX3_drift_19 (by decide) ?_
      exact hret (-1) o H locs ls _ h hP hD hS dX3_drift_20

def w_X3_keep (p1 : Int32) (o : S3) (K : Int32 → S3 → Prop) : Prop := w_X3_within p1 (0 : Int32) (1 : Int32) (fun r1 => br (r1 = 0) (K (-1) o) (vp_in p1 2 ∧ (jn (fun (k5 : Int32) => vp_in p1 2 ∧ (w_X2_become (o (gi 4 p1)) (o 1) (fun w8 v9 => nm ((va_up (va_up o (gi 4 p1) w8) 1 v9) : S3) (fun o11 => vp_in p1 2 ∧ (nm ((va_up o11 0 (va_up (o11 0) 2 (upd ((o11 0) 2) p1.toNatClampNeg (vp_nar .boolean 1)))) : S3) (fun o13 => K k5 o13)))))) (fun J25 => br ((o 0 2 p1.toNatClampNeg) = 0) (J25 0) (J25 1)))))
abbrev rm_X3_keep : Room := { frames := 2, cells := 0, slots := 0, locals := 81 }
set_option maxHeartbeats 4000000 in
set_option maxRecDepth 100000 in
theorem c_X3_keep (l : Launch) (D : va_G) (kc : Nat → ClassId) (a : Nat → Nat → Nat) (p1 : Int32) (o : S3) (sz : Nat) (K : Int32 → S3 → Prop) (h : w_X3_keep p1 o K) : MetI l yX3_keep wsX3_keep rm_X3_keep D kc (fun u : S3 => cLP kc a u) o [.ref (a 0 0), .int p1] sz (fun r u => K r u) := by
  refine q_ei (code := cX3_keep) (maxL := 3) (by decide) rfl (Nat.le_of_ble_eq_true rfl) ?_
  intro p e s m args below meth c Q A hx hb hml hts hown hK hA hret ls hl hP hD hS
  have hown : s.vm.findClass RX3 = some m.cls := hown
  have hl : lv_has ls 3 [(0, .ref (a 0 0)), (1, .int p1)] := hl
  have hP : va_P D vwCl (cLP kc a o) s.heap := hP
  have hD : va_D A (cLP kc a o) := hD
  have hS : va_S A s.heap s.heap [] := hS
  obtain ⟨H, eH⟩ : ∃ z, z = s.heap := ⟨_, rfl⟩
  obtain ⟨locs, eL⟩ : ∃ z : List Loc, z = [] := ⟨_, rfl⟩
  have hP := q_heap hP eH
  have hS := q_heapS hS eH eL
  refine q_start eH eL ?_
  clear eH eL
  have hi3 : ∀ w ∈ u_ws RX3 TX3 10, w ∈ wsX3_keep := by decide +kernel
  unfold w_X3_keep at h
  refine lv_iload_n hx hb dX3_keep_0 rfl (lv_at hl 1 rfl) ?_
  refine lv_iconst (v := 0) hx hb dX3_keep_1 (by decide) ?_
  refine lv_iconst (v := 1) hx hb dX3_keep_2 (by decide) ?_
  refine q_cSi (As := [.int p1, .int 0, .int 1]) (rest := []) ⟨hx, hb, hml, hown, hts⟩ hK (c_X3_within l D kc p1 (0 : Int32) (1 : Int32) H.size _ h) (va_cwS 3 hts gX3_keep_X3_within rfl rfl rfl (by decide +kernel) ⟨Nat.le_of_ble_eq_true rfl, Nat.le_of_ble_eq_true rfl⟩) (cut_nil _) hP hD hS hA rfl hl.1 rfl (Nat.le_of_ble_eq_true rfl) dX3_keep_3 ⟨Nat.zero_le _, Nat.zero_le _⟩ (fun r1 _ H locs h hP hD hS => ?_)
  have hP : va_P D vwCl (cLP kc a o) H := hP
  have hD : va_D A (cLP kc a o) := hD
  refine lv_if_ne (tgt := 11) hx hb dX3_keep_6 (by decide) (fun c3 => ?_) (fun c3 => ?_)
  · have h := br2 h c3
    refine lv_aload_n hx hb dX3_keep_11 rfl (lv_at hl 0 rfl) ?_
    refine va_get (D := D) (ci := 3) (v := .ref (a 0 2)) (C := RX3) (T := TX3) (N := 10) hx hb hts hi3 hown hK.1 hP 0 rfl rfl 5 (by decide) (hts (.fieldLink RX3 33 "LastPenny" "imageThere" "[Z") (by decide +kernel)) (fun _ h9 => h9) rfl dX3_keep_12 ?_
    refine lv_iload_n hx hb dX3_keep_15 rfl (lv_at hl 1 rfl) ?_
    obtain ⟨hi_4, h⟩ := h
    refine va_zald hx hb hK.1 hP 2 2 rfl rfl hi_4 dX3_keep_16 ?_
    refine jn_elim h (fun J25 eJ25 h => ?_)
    have hJ_25 : ∀ (k5 : Int32) (ls : Array Slot), J25 k5 → lv_has ls 3 [(0, .ref (a 0 0)), (1, .int p1)] → W p l e rm_X3_keep s m args below meth c H locs 0 0 Q (F0 m 25 ls [.int k5]) := by
      intro k5 ls h hl
      subst eJ25
      refine lv_istore_n (lv' := [(2, .int k5), (0, .ref (a 0 0)), (1, .int p1)]) hx hb dX3_keep_25 rfl hl (by decide) rfl (fun ls hl => ?_)
      refine lv_aload_n hx hb dX3_keep_26 rfl (lv_at hl 1 rfl) ?_
      refine va_get (D := D) (ci := 3) (v := .ref (a 0 1)) (C := RX3) (T := TX3) (N := 10) hx hb hts hi3 hown hK.1 hP 0 rfl rfl 4 (by decide) (hts (.fieldLink RX3 29 "LastPenny" "images" "[LLastPenny$World;") (by decide +kernel)) (fun _ h9 => h9) rfl dX3_keep_27 ?_
      refine lv_iload_n hx hb dX3_keep_30 rfl (lv_at hl 2 rfl) ?_
      obtain ⟨hi_6, h⟩ := h
      refine va_aldq hx hb hK.1 hP 1 3 rfl rfl hi_6 dX3_keep_31 ?_
      obtain ⟨j7, hj7, ej7⟩ := vp_in_of hi_6 (by decide)
      rcases (show j7 = 0 ∨ j7 = 1 by omega) with rfl | rfl
      · subst ej7
        simp only [gi_4_0] at h
        refine W.eq (g2 := F0 m 32 ls [.ref (a 4 0)]) rfl ?_
        refine lv_aload_n hx hb dX3_keep_32 rfl (lv_at hl 1 rfl) ?_
        refine va_get (D := D) (ci := 3) (v := .ref (a 1 0)) (C := RX3) (T := TX3) (N := 10) hx hb hts hi3 hown hK.1 hP 0 rfl rfl 1 (by decide) (hts (.fieldLink RX3 19 "LastPenny" "now" "LLastPenny$World;") (by decide +kernel)) (fun _ h9 => h9) rfl dX3_keep_33 ?_
        refine q_cVv (As := [.ref (a 1 0)]) (rest := []) ⟨hx, hb, hml, hown, hts⟩ hK (c_X2_become l D kc (a 4) (a 1) (o 4) (o 1) H.size _ h) (cwV 1 hts gX3_keep_X2_become rfl rfl rfl (by decide +kernel) ⟨Nat.le_of_ble_eq_true rfl, Nat.le_of_ble_eq_true rfl⟩) (cut_LP_4_1 D kc a o) hP hD hS hA 2 0 rfl rfl rfl hl.1 rfl (Nat.le_of_ble_eq_true rfl) dX3_keep_36 ⟨Nat.zero_le _, Nat.zero_le _⟩ (fun u10 H locs h hP hD hS => ?_)
        obtain ⟨w8, v9⟩ := u10
        obtain ⟨o11, eo11⟩ : ∃ z, z = (va_up (va_up o 4 w8) 1 v9) := ⟨_, rfl⟩
        have h := nm_out h o11 eo11
        have hP : va_P D vwCl (cLP kc a o11) H := q_to hP (by subst eo11; rfl)
        have hD : va_D A (cLP kc a o11) := q_toD hD (by subst eo11; rfl)
        refine lv_aload_n hx hb dX3_keep_39 rfl (lv_at hl 1 rfl) ?_
        refine va_get (D := D) (ci := 3) (v := .ref (a 0 2)) (C := RX3) (T := TX3) (N := 10) hx hb hts hi3 hown hK.1 hP 0 rfl rfl 5 (by decide) (hts (.fieldLink RX3 33 "LastPenny" "imageThere" "[Z") (by decide +kernel)) (fun _ h9 => h9) rfl dX3_keep_40 ?_
        refine lv_iload_n hx hb dX3_keep_43 rfl (lv_at hl 2 rfl) ?_
        refine lv_iconst (v := 1) hx hb dX3_keep_44 (by decide) ?_
        obtain ⟨hi_12, h⟩ := h
        refine va_zast hx hb hK.1 hP hD hS 2 2 rfl rfl hi_12 dX3_keep_45 (fun H locs hP hD hS => ?_)
        obtain ⟨o13, eo13⟩ : ∃ z, z = (va_up o11 0 (va_up (o11 0) 2 (upd ((o11 0) 2) (nI 0).toNatClampNeg (vp_nar .boolean 1)))) := ⟨_, rfl⟩
        have h := nm_out h o13 eo13
        have hP : va_P D vwCl (cLP kc a o13) H := q_to hP (by subst eo13; rfl)
        have hD : va_D A (cLP kc a o13) := q_toD hD (by subst eo13; rfl)
        refine lv_iload_n hx hb dX3_keep_46 rfl (lv_at hl 0 rfl) ?_
        exact hret k5 o13 H locs ls _ h hP hD hS dX3_keep_47
      · subst ej7
        simp only [gi_4_1] at h
        refine W.eq (g2 := F0 m 32 ls [.ref (a 5 0)]) rfl ?_
        refine lv_aload_n hx hb dX3_keep_32 rfl (lv_at hl 1 rfl) ?_
        refine va_get (D := D) (ci := 3) (v := .ref (a 1 0)) (C := RX3) (T := TX3) (N := 10) hx hb hts hi3 hown hK.1 hP 0 rfl rfl 1 (by decide) (hts (.fieldLink RX3 19 "LastPenny" "now" "LLastPenny$World;") (by decide +kernel)) (fun _ h9 => h9) rfl dX3_keep_33 ?_
        refine q_cVv (As := [.ref (a 1 0)]) (rest := []) ⟨hx, hb, hml, hown, hts⟩ hK (c_X2_become l D kc (a 5) (a 1) (o 5) (o 1) H.size _ h) (cwV 1 hts gX3_keep_X2_become rfl rfl rfl (by decide +kernel) ⟨Nat.le_of_ble_eq_true rfl, Nat.le_of_ble_eq_true rfl⟩) (cut_LP_5_1 D kc a o) hP hD hS hA 2 0 rfl rfl rfl hl.1 rfl (Nat.le_of_ble_eq_true rfl) dX3_keep_36 ⟨Nat.zero_le _, Nat.zero_le _⟩ (fun u10 H locs h hP hD hS => ?_)
        obtain ⟨w8, v9⟩ := u10
        obtain ⟨o11, eo11⟩ : ∃ z, z = (va_up (va_up o 5 w8) 1 v9) := ⟨_, rfl⟩
        have h := nm_out h o11 eo11
        have hP : va_P D vwCl (cLP kc a o11) H := q_to hP (by subst eo11; rfl)
        have hD : va_D A (cLP kc a o11) := q_toD hD (by subst eo11; rfl)
        refine lv_aload_n hx hb dX3_keep_39 rfl (lv_at hl 1 rfl) ?_
        refine va_get (D := D) (ci := 3) (v := .ref (a 0 2)) (C := RX3) (T := TX3) (N := 10) hx hb hts hi3 hown hK.1 hP 0 rfl rfl 5 (by decide) (hts (.fieldLink RX3 33 "LastPenny" "imageThere" "[Z") (by decide +kernel)) (fun _ h9 => h9) rfl dX3_keep_40 ?_
        refine lv_iload_n hx hb dX3_keep_43 rfl (lv_at hl 2 rfl) ?_
        refine lv_iconst (v := 1) hx hb dX3_keep_44 (by decide) ?_
        obtain ⟨hi_12, h⟩ := h
        refine va_zast hx hb hK.1 hP hD hS 2 2 rfl rfl hi_12 dX3_keep_45 (fun H locs hP hD hS => ?_)
        obtain ⟨o13, eo13⟩ : ∃ z, z = (va_up o11 0 (va_up (o11 0) 2 (upd ((o11 0) 2) (nI 1).toNatClampNeg (vp_nar .boolean 1)))) := ⟨_, rfl⟩
        have h := nm_out h o13 eo13
        have hP : va_P D vwCl (cLP kc a o13) H := q_to hP (by subst eo13; rfl)
        have hD : va_D A (cLP kc a o13) := q_toD hD (by subst eo13; rfl)
        refine lv_iload_n hx hb dX3_keep_46 rfl (lv_at hl 0 rfl) ?_
        exact hret k5 o13 H locs ls _ h hP hD hS dX3_keep_47
    refine lv_if_eq (tgt := 24) hx hb dX3_keep_17 (by decide) (fun c14 => ?_) (fun c14 => ?_)
    · have h := br1 h c14
      refine lv_iconst (v := 0) hx hb dX3_keep_24 (by decide) ?_
      exact hJ_25 0 ls h (lv_sub hl [0, 1] rfl)
    · have h := br2 h c14
      refine lv_iconst (v := 1) hx hb dX3_keep_20 (by decide) ?_
      refine lv_goto (tgt := 25) hx hb dX3_keep_21 (by decide) ?_
      exact hJ_25 1 ls h (lv_sub hl [0, 1] rfl)
  · have h := br1 h c3
    refine lv_iconst (v := -1) hx hb dX3_keep_9 (by decide) ?_
    exact hret (-1) o H locs ls _ h hP hD hS dX3_keep_10

def w_X3_back (p1 : Int32) (o : S3) (K : Int32 → S3 → Prop) : Prop := w_X3_within p1 (0 : Int32) (1 : Int32) (fun r1 => br (r1 = 0) (K (-1) o) (vp_in p1 2 ∧ (br ((o 0 2 p1.toNatClampNeg) = 0) (K (-2) o) (vp_in p1 2 ∧ (w_X2_become (o 1) (o (gi 4 p1)) (fun w8 v9 => nm ((va_up (va_up o 1 w8) (gi 4 p1) v9) : S3) (fun o11 => K (o11 1 0 1) o11)))))))
abbrev rm_X3_back : Room := { frames := 2, cells := 0, slots := 0, locals := 81 }
set_option maxHeartbeats 4000000 in
set_option maxRecDepth 100000 in
theorem c_X3_back (l : Launch) (D : va_G) (kc : Nat → ClassId) (a : Nat → Nat → Nat) (p1 : Int32) (o : S3) (sz : Nat) (K : Int32 → S3 → Prop) (h : w_X3_back p1 o K) : MetI l yX3_back wsX3_back rm_X3_back D kc (fun u : S3 => cLP kc a u) o [.ref (a 0 0), .int p1] sz (fun r u => K r u) := by
  refine q_ei (code := cX3_back) (maxL := 2) (by decide) rfl (Nat.le_of_ble_eq_true rfl) ?_
  intro p e s m args below meth c Q A hx hb hml hts hown hK hA hret ls hl hP hD hS
  have hown : s.vm.findClass RX3 = some m.cls := hown
  have hl : lv_has ls 2 [(0, .ref (a 0 0)), (1, .int p1)] := hl
  have hP : va_P D vwCl (cLP kc a o) s.heap := hP
  have hD : va_D A (cLP kc a o) := hD
  have hS : va_S A s.heap s.heap [] := hS
  obtain ⟨H, eH⟩ : ∃ z, z = s.heap := ⟨_, rfl⟩
  obtain ⟨locs, eL⟩ : ∃ z : List Loc, z = [] := ⟨_, rfl⟩
  have hP := q_heap hP eH
  have hS := q_heapS hS eH eL
  refine q_start eH eL ?_
  clear eH eL
  have hi2 : ∀ w ∈ u_ws RX2 TX2 13, w ∈ wsX3_back := by decide +kernel
  have hi3 : ∀ w ∈ u_ws RX3 TX3 10, w ∈ wsX3_back := by decide +kernel
  unfold w_X3_back at h
  refine lv_iload_n hx hb dX3_back_0 rfl (lv_at hl 1 rfl) ?_
  refine lv_iconst (v := 0) hx hb dX3_back_1 (by decide) ?_
  refine lv_iconst (v := 1) hx hb dX3_back_2 (by decide) ?_
  refine q_cSi (As := [.int p1, .int 0, .int 1]) (rest := []) ⟨hx, hb, hml, hown, hts⟩ hK (c_X3_within l D kc p1 (0 : Int32) (1 : Int32) H.size _ h) (va_cwS 3 hts gX3_back_X3_within rfl rfl rfl (by decide +kernel) ⟨Nat.le_of_ble_eq_true rfl, Nat.le_of_ble_eq_true rfl⟩) (cut_nil _) hP hD hS hA rfl hl.1 rfl (Nat.le_of_ble_eq_true rfl) dX3_back_3 ⟨Nat.zero_le _, Nat.zero_le _⟩ (fun r1 _ H locs h hP hD hS => ?_)
  have hP : va_P D vwCl (cLP kc a o) H := hP
  have hD : va_D A (cLP kc a o) := hD
  refine lv_if_ne (tgt := 11) hx hb dX3_back_6 (by decide) (fun c3 => ?_) (fun c3 => ?_)
  · have h := br2 h c3
    refine lv_aload_n hx hb dX3_back_11 rfl (lv_at hl 0 rfl) ?_
    refine va_get (D := D) (ci := 3) (v := .ref (a 0 2)) (C := RX3) (T := TX3) (N := 10) hx hb hts hi3 hown hK.1 hP 0 rfl rfl 5 (by decide) (hts (.fieldLink RX3 33 "LastPenny" "imageThere" "[Z") (by decide +kernel)) (fun _ h9 => h9) rfl dX3_back_12 ?_
    refine lv_iload_n hx hb dX3_back_15 rfl (lv_at hl 1 rfl) ?_
    obtain ⟨hi_4, h⟩ := h
    refine va_zald hx hb hK.1 hP 2 2 rfl rfl hi_4 dX3_back_16 ?_
    refine lv_if_ne (tgt := 23) hx hb dX3_back_17 (by decide) (fun c5 => ?_) (fun c5 => ?_)
    · have h := br2 h c5
      refine lv_aload_n hx hb dX3_back_23 rfl (lv_at hl 0 rfl) ?_
      refine va_get (D := D) (ci := 3) (v := .ref (a 1 0)) (C := RX3) (T := TX3) (N := 10) hx hb hts hi3 hown hK.1 hP 0 rfl rfl 1 (by decide) (hts (.fieldLink RX3 19 "LastPenny" "now" "LLastPenny$World;") (by decide +kernel)) (fun _ h9 => h9) rfl dX3_back_24 ?_
      refine lv_aload_n hx hb dX3_back_27 rfl (lv_at hl 0 rfl) ?_
      refine va_get (D := D) (ci := 3) (v := .ref (a 0 1)) (C := RX3) (T := TX3) (N := 10) hx hb hts hi3 hown hK.1 hP 0 rfl rfl 4 (by decide) (hts (.fieldLink RX3 29 "LastPenny" "images" "[LLastPenny$World;") (by decide +kernel)) (fun _ h9 => h9) rfl dX3_back_28 ?_
      refine lv_iload_n hx hb dX3_back_31 rfl (lv_at hl 1 rfl) ?_
      obtain ⟨hi_6, h⟩ := h
      refine va_aldq hx hb hK.1 hP 1 3 rfl rfl hi_6 dX3_back_32 ?_
      obtain ⟨j7, hj7, ej7⟩ := vp_in_of hi_6 (by decide)
      rcases (show j7 = 0 ∨ j7 = 1 by omega) with rfl | rfl
      · subst ej7
        simp only [gi_4_0] at h
        refine W.eq (g2 := F0 m 33 ls [.ref (a 4 0), .ref (a 1 0)]) rfl ?_
        refine q_cVv (As := [.ref (a 4 0)]) (rest := []) ⟨hx, hb, hml, hown, hts⟩ hK (c_X2_become l D kc (a 1) (a 4) (o 1) (o 4) H.size _ h) (cwV 1 hts gX3_back_X2_become rfl rfl rfl (by decide +kernel) ⟨Nat.le_of_ble_eq_true rfl, Nat.le_of_ble_eq_true rfl⟩) (cut_LP_1_4 D kc a o) hP hD hS hA 2 0 rfl rfl rfl hl.1 rfl (Nat.le_of_ble_eq_true rfl) dX3_back_33 ⟨Nat.zero_le _, Nat.zero_le _⟩ (fun u10 H locs h hP hD hS => ?_)
        obtain ⟨w8, v9⟩ := u10
        obtain ⟨o11, eo11⟩ : ∃ z, z = (va_up (va_up o 1 w8) 4 v9) := ⟨_, rfl⟩
        have h := nm_out h o11 eo11
        have hP : va_P D vwCl (cLP kc a o11) H := q_to hP (by subst eo11; rfl)
        have hD : va_D A (cLP kc a o11) := q_toD hD (by subst eo11; rfl)
        refine lv_aload_n hx hb dX3_back_36 rfl (lv_at hl 0 rfl) ?_
        refine va_get (D := D) (ci := 3) (v := .ref (a 1 0)) (C := RX3) (T := TX3) (N := 10) hx hb hts hi3 hown hK.1 hP 0 rfl rfl 1 (by decide) (hts (.fieldLink RX3 19 "LastPenny" "now" "LLastPenny$World;") (by decide +kernel)) (fun _ h9 => h9) rfl dX3_back_37 ?_
        refine va_get (D := D) (ci := 2) (v := .int (o11 1 0 1)) (C := RX2) (T := TX2) (N := 13) hx hb hts hi2 hown hK.1 hP 6 rfl rfl 1 (by decide) (hts (.fieldLink RX3 83 "LastPenny$World" "quarter" "I") (by decide +kernel)) (fun _ h9 => h9) rfl dX3_back_40 ?_
        exact hret (o11 1 0 1) o11 H locs ls _ h hP hD hS dX3_back_43
      · subst ej7
        simp only [gi_4_1] at h
        refine W.eq (g2 := F0 m 33 ls [.ref (a 5 0), .ref (a 1 0)]) rfl ?_
        refine q_cVv (As := [.ref (a 5 0)]) (rest := []) ⟨hx, hb, hml, hown, hts⟩ hK (c_X2_become l D kc (a 1) (a 5) (o 1) (o 5) H.size _ h) (cwV 1 hts gX3_back_X2_become rfl rfl rfl (by decide +kernel) ⟨Nat.le_of_ble_eq_true rfl, Nat.le_of_ble_eq_true rfl⟩) (cut_LP_1_5 D kc a o) hP hD hS hA 2 0 rfl rfl rfl hl.1 rfl (Nat.le_of_ble_eq_true rfl) dX3_back_33 ⟨Nat.zero_le _, Nat.zero_le _⟩ (fun u10 H locs h hP hD hS => ?_)
        obtain ⟨w8, v9⟩ := u10
        obtain ⟨o11, eo11⟩ : ∃ z, z = (va_up (va_up o 1 w8) 5 v9) := ⟨_, rfl⟩
        have h := nm_out h o11 eo11
        have hP : va_P D vwCl (cLP kc a o11) H := q_to hP (by subst eo11; rfl)
        have hD : va_D A (cLP kc a o11) := q_toD hD (by subst eo11; rfl)
        refine lv_aload_n hx hb dX3_back_36 rfl (lv_at hl 0 rfl) ?_
        refine va_get (D := D) (ci := 3) (v := .ref (a 1 0)) (C := RX3) (T := TX3) (N := 10) hx hb hts hi3 hown hK.1 hP 0 rfl rfl 1 (by decide) (hts (.fieldLink RX3 19 "LastPenny" "now" "LLastPenny$World;") (by decide +kernel)) (fun _ h9 => h9) rfl dX3_back_37 ?_
        refine va_get (D := D) (ci := 2) (v := .int (o11 1 0 1)) (C := RX2) (T := TX2) (N := 13) hx hb hts hi2 hown hK.1 hP 6 rfl rfl 1 (by decide) (hts (.fieldLink RX3 83 "LastPenny$World" "quarter" "I") (by decide +kernel)) (fun _ h9 => h9) rfl dX3_back_40 ?_
        exact hret (o11 1 0 1) o11 H locs ls _ h hP hD hS dX3_back_43
    · have h := br1 h c5
      refine lv_bipush (v := -2) hx hb dX3_back_20 (by decide) ?_
      exact hret (-2) o H locs ls _ h hP hD hS dX3_back_22
  · have h := br1 h c3
    refine lv_iconst (v := -1) hx hb dX3_back_9 (by decide) ?_
    exact hret (-1) o H locs ls _ h hP hD hS dX3_back_10

def w_X3_sheet (p1 : Int32) (p2 : Int32) (p3 : Int32) (o : S3) (K : Int32 → S3 → Prop) : Prop := w_X3_within p1 (0 : Int32) (3 : Int32) (fun r1 => br (r1 = 0) (K (-1) o) (w_X3_within p2 (0 : Int32) (2 : Int32) (fun r4 => br (r4 = 0) (K (-1) o) (br (p3 ≤ 40) (br (0 ≤ p3) (vp_in p1 4 ∧ (w_X0_renew p2 p3 (o (gi 7 p1)) (fun w11 => nm ((va_up o (gi 7 p1) w11) : S3) (fun o13 => K 1 o13)))) (K (-14) o)) (K (-1) o)))))
abbrev rm_X3_sheet : Room := { frames := 1, cells := 0, slots := 0, locals := 23 }
set_option maxHeartbeats 4000000 in
set_option maxRecDepth 100000 in
theorem c_X3_sheet (l : Launch) (D : va_G) (kc : Nat → ClassId) (a : Nat → Nat → Nat) (p1 : Int32) (p2 : Int32) (p3 : Int32) (o : S3) (sz : Nat) (K : Int32 → S3 → Prop) (h : w_X3_sheet p1 p2 p3 o K) : MetI l yX3_sheet wsX3_sheet rm_X3_sheet D kc (fun u : S3 => cLP kc a u) o [.ref (a 0 0), .int p1, .int p2, .int p3] sz (fun r u => K r u) := by
  refine q_ei (code := cX3_sheet) (maxL := 4) (by decide) rfl (Nat.le_of_ble_eq_true rfl) ?_
  intro p e s m args below meth c Q A hx hb hml hts hown hK hA hret ls hl hP hD hS
  have hown : s.vm.findClass RX3 = some m.cls := hown
  have hl : lv_has ls 4 [(0, .ref (a 0 0)), (1, .int p1), (2, .int p2), (3, .int p3)] := hl
  have hP : va_P D vwCl (cLP kc a o) s.heap := hP
  have hD : va_D A (cLP kc a o) := hD
  have hS : va_S A s.heap s.heap [] := hS
  obtain ⟨H, eH⟩ : ∃ z, z = s.heap := ⟨_, rfl⟩
  obtain ⟨locs, eL⟩ : ∃ z : List Loc, z = [] := ⟨_, rfl⟩
  have hP := q_heap hP eH
  have hS := q_heapS hS eH eL
  refine q_start eH eL ?_
  clear eH eL
  have hi3 : ∀ w ∈ u_ws RX3 TX3 10, w ∈ wsX3_sheet := by decide +kernel
  unfold w_X3_sheet at h
  refine lv_iload_n hx hb dX3_sheet_0 rfl (lv_at hl 1 rfl) ?_
  refine lv_iconst (v := 0) hx hb dX3_sheet_1 (by decide) ?_
  refine lv_iconst (v := 3) hx hb dX3_sheet_2 (by decide) ?_
  refine q_cSi (As := [.int p1, .int 0, .int 3]) (rest := []) ⟨hx, hb, hml, hown, hts⟩ hK (c_X3_within l D kc p1 (0 : Int32) (3 : Int32) H.size _ h) (va_cwS 3 hts gX3_sheet_X3_within rfl rfl rfl (by decide +kernel) ⟨Nat.le_of_ble_eq_true rfl, Nat.le_of_ble_eq_true rfl⟩) (cut_nil _) hP hD hS hA rfl hl.1 rfl (Nat.le_of_ble_eq_true rfl) dX3_sheet_3 ⟨Nat.zero_le _, Nat.zero_le _⟩ (fun r1 _ H locs h hP hD hS => ?_)
  have hP : va_P D vwCl (cLP kc a o) H := hP
  have hD : va_D A (cLP kc a o) := hD
  refine lv_if_eq (tgt := 24) hx hb dX3_sheet_6 (by decide) (fun c3 => ?_) (fun c3 => ?_)
  · have h := br1 h c3
    refine lv_iconst (v := -1) hx hb dX3_sheet_24 (by decide) ?_
    exact hret (-1) o H locs ls _ h hP hD hS dX3_sheet_25
  · have h := br2 h c3
    refine lv_iload_n hx hb dX3_sheet_9 rfl (lv_at hl 2 rfl) ?_
    refine lv_iconst (v := 0) hx hb dX3_sheet_10 (by decide) ?_
    refine lv_iconst (v := 2) hx hb dX3_sheet_11 (by decide) ?_
    refine q_cSi (As := [.int p2, .int 0, .int 2]) (rest := []) ⟨hx, hb, hml, hown, hts⟩ hK (c_X3_within l D kc p2 (0 : Int32) (2 : Int32) H.size _ h) (va_cwS 3 hts gX3_sheet_X3_within rfl rfl rfl (by decide +kernel) ⟨Nat.le_of_ble_eq_true rfl, Nat.le_of_ble_eq_true rfl⟩) (cut_nil _) hP hD hS hA rfl hl.1 rfl (Nat.le_of_ble_eq_true rfl) dX3_sheet_12 ⟨Nat.zero_le _, Nat.zero_le _⟩ (fun r4 _ H locs h hP hD hS => ?_)
    have hP : va_P D vwCl (cLP kc a o) H := hP
    have hD : va_D A (cLP kc a o) := hD
    refine lv_if_eq (tgt := 24) hx hb dX3_sheet_15 (by decide) (fun c6 => ?_) (fun c6 => ?_)
    · have h := br1 h c6
      refine lv_iconst (v := -1) hx hb dX3_sheet_24 (by decide) ?_
      exact hret (-1) o H locs ls _ h hP hD hS dX3_sheet_25
    · have h := br2 h c6
      refine lv_iload_n hx hb dX3_sheet_18 rfl (lv_at hl 3 rfl) ?_
      refine lv_bipush (v := 40) hx hb dX3_sheet_19 (by decide) ?_
      refine lv_icmp_le (tgt := 26) hx hb dX3_sheet_21 (by decide) (fun c7 => ?_) (fun c7 => ?_)
      · have h := br1 h c7
        refine lv_iload_n hx hb dX3_sheet_26 rfl (lv_at hl 3 rfl) ?_
        refine lv_if_ge (tgt := 33) hx hb dX3_sheet_27 (by decide) (fun c8 => ?_) (fun c8 => ?_)
        · have h := br1 h c8
          refine lv_aload_n hx hb dX3_sheet_33 rfl (lv_at hl 0 rfl) ?_
          refine va_get (D := D) (ci := 3) (v := .ref (a 0 3)) (C := RX3) (T := TX3) (N := 10) hx hb hts hi3 hown hK.1 hP 0 rfl rfl 6 (by decide) (hts (.fieldLink RX3 39 "LastPenny" "sheets" "[LLastPenny$Sheet;") (by decide +kernel)) (fun _ h9 => h9) rfl dX3_sheet_34 ?_
          refine lv_iload_n hx hb dX3_sheet_37 rfl (lv_at hl 1 rfl) ?_
          obtain ⟨hi_9, h⟩ := h
          refine va_aldq hx hb hK.1 hP 3 4 rfl rfl hi_9 dX3_sheet_38 ?_
          obtain ⟨j10, hj10, ej10⟩ := vp_in_of hi_9 (by decide)
          rcases (show j10 = 0 ∨ j10 = 1 ∨ j10 = 2 ∨ j10 = 3 by omega) with rfl | rfl | rfl | rfl
          · subst ej10
            simp only [gi_7_0] at h
            refine W.eq (g2 := F0 m 39 ls [.ref (a 7 0)]) rfl ?_
            refine lv_iload_n hx hb dX3_sheet_39 rfl (lv_at hl 2 rfl) ?_
            refine lv_iload_n hx hb dX3_sheet_40 rfl (lv_at hl 3 rfl) ?_
            refine q_cVv (As := [.int p2, .int p3]) (rest := []) ⟨hx, hb, hml, hown, hts⟩ hK (c_X0_renew l D kc (a 7) p2 p3 (o 7) H.size _ h) (cwV 2 hts gX3_sheet_X0_renew rfl rfl rfl (by decide +kernel) ⟨Nat.le_of_ble_eq_true rfl, Nat.le_of_ble_eq_true rfl⟩) (cut_LP_7 D kc a o) hP hD hS hA 0 0 rfl rfl rfl hl.1 rfl (Nat.le_of_ble_eq_true rfl) dX3_sheet_41 ⟨Nat.zero_le _, Nat.zero_le _⟩ (fun u12 H locs h hP hD hS => ?_)
            obtain ⟨w11, rfl⟩ : ∃ z, z = u12 := ⟨_, rfl⟩
            obtain ⟨o13, eo13⟩ : ∃ z, z = (va_up o 7 w11) := ⟨_, rfl⟩
            have h := nm_out h o13 eo13
            have hP : va_P D vwCl (cLP kc a o13) H := q_to hP (by subst eo13; rfl)
            have hD : va_D A (cLP kc a o13) := q_toD hD (by subst eo13; rfl)
            refine lv_iconst (v := 1) hx hb dX3_sheet_44 (by decide) ?_
            exact hret 1 o13 H locs ls _ h hP hD hS dX3_sheet_45
          · subst ej10
            simp only [gi_7_1] at h
            refine W.eq (g2 := F0 m 39 ls [.ref (a 8 0)]) rfl ?_
            refine lv_iload_n hx hb dX3_sheet_39 rfl (lv_at hl 2 rfl) ?_
            refine lv_iload_n hx hb dX3_sheet_40 rfl (lv_at hl 3 rfl) ?_
            refine q_cVv (As := [.int p2, .int p3]) (rest := []) ⟨hx, hb, hml, hown, hts⟩ hK (c_X0_renew l D kc (a 8) p2 p3 (o 8) H.size _ h) (cwV 2 hts gX3_sheet_X0_renew rfl rfl rfl (by decide +kernel) ⟨Nat.le_of_ble_eq_true rfl, Nat.le_of_ble_eq_true rfl⟩) (cut_LP_8 D kc a o) hP hD hS hA 0 0 rfl rfl rfl hl.1 rfl (Nat.le_of_ble_eq_true rfl) dX3_sheet_41 ⟨Nat.zero_le _, Nat.zero_le _⟩ (fun u12 H locs h hP hD hS => ?_)
            obtain ⟨w11, rfl⟩ : ∃ z, z = u12 := ⟨_, rfl⟩
            obtain ⟨o13, eo13⟩ : ∃ z, z = (va_up o 8 w11) := ⟨_, rfl⟩
            have h := nm_out h o13 eo13
            have hP : va_P D vwCl (cLP kc a o13) H := q_to hP (by subst eo13; rfl)
            have hD : va_D A (cLP kc a o13) := q_toD hD (by subst eo13; rfl)
            refine lv_iconst (v := 1) hx hb dX3_sheet_44 (by decide) ?_
            exact hret 1 o13 H locs ls _ h hP hD hS dX3_sheet_45
          · subst ej10
            simp only [gi_7_2] at h
            refine W.eq (g2 := F0 m 39 ls [.ref (a 9 0)]) rfl ?_
            refine lv_iload_n hx hb dX3_sheet_39 rfl (lv_at hl 2 rfl) ?_
            refine lv_iload_n hx hb dX3_sheet_40 rfl (lv_at hl 3 rfl) ?_
            refine q_cVv (As := [.int p2, .int p3]) (rest := []) ⟨hx, hb, hml, hown, hts⟩ hK (c_X0_renew l D kc (a 9) p2 p3 (o 9) H.size _ h) (cwV 2 hts gX3_sheet_X0_renew rfl rfl rfl (by decide +kernel) ⟨Nat.le_of_ble_eq_true rfl, Nat.le_of_ble_eq_true rfl⟩) (cut_LP_9 D kc a o) hP hD hS hA 0 0 rfl rfl rfl hl.1 rfl (Nat.le_of_ble_eq_true rfl) dX3_sheet_41 ⟨Nat.zero_le _, Nat.zero_le _⟩ (fun u12 H locs h hP hD hS => ?_)
            obtain ⟨w11, rfl⟩ : ∃ z, z = u12 := ⟨_, rfl⟩
            obtain ⟨o13, eo13⟩ : ∃ z, z = (va_up o 9 w11) := ⟨_, rfl⟩
            have h := nm_out h o13 eo13
            have hP : va_P D vwCl (cLP kc a o13) H := q_to hP (by subst eo13; rfl)
            have hD : va_D A (cLP kc a o13) := q_toD hD (by subst eo13; rfl)
            refine lv_iconst (v := 1) hx hb dX3_sheet_44 (by decide) ?_
            exact hret 1 o13 H locs ls _ h hP hD hS dX3_sheet_45
          · subst ej10
            simp only [gi_7_3] at h
            refine W.eq (g2 := F0 m 39 ls [.ref (a 10 0)]) rfl ?_
            refine lv_iload_n hx hb dX3_sheet_39 rfl (lv_at hl 2 rfl) ?_
            refine lv_iload_n hx hb dX3_sheet_40 rfl (lv_at hl 3 rfl) ?_
            refine q_cVv (As := [.int p2, .int p3]) (rest := []) ⟨hx, hb, hml, hown, hts⟩ hK (c_X0_renew l D kc (a 10) p2 p3 (o 10) H.size _ h) (cwV 2 hts gX3_sheet_X0_renew rfl rfl rfl (by decide +kernel) ⟨Nat.le_of_ble_eq_true rfl, Nat.le_of_ble_eq_true rfl⟩) (cut_LP_10 D kc a o) hP hD hS hA 0 0 rfl rfl rfl hl.1 rfl (Nat.le_of_ble_eq_true rfl) dX3_sheet_41 ⟨Nat.zero_le _, Nat.zero_le _⟩ (fun u12 H locs h hP hD hS => ?_)
            obtain ⟨w11, rfl⟩ : ∃ z, z = u12 := ⟨_, rfl⟩
            obtain ⟨o13, eo13⟩ : ∃ z, z = (va_up o 10 w11) := ⟨_, rfl⟩
            have h := nm_out h o13 eo13
            have hP : va_P D vwCl (cLP kc a o13) H := q_to hP (by subst eo13; rfl)
            have hD : va_D A (cLP kc a o13) := q_toD hD (by subst eo13; rfl)
            refine lv_iconst (v := 1) hx hb dX3_sheet_44 (by decide) ?_
            exact hret 1 o13 H locs ls _ h hP hD hS dX3_sheet_45
        · have h := br2 h c8
          refine lv_bipush (v := -14) hx hb dX3_sheet_30 (by decide) ?_
          exact hret (-14) o H locs ls _ h hP hD hS dX3_sheet_32
      · have h := br2 h c7
        refine lv_iconst (v := -1) hx hb dX3_sheet_24 (by decide) ?_
        exact hret (-1) o H locs ls _ h hP hD hS dX3_sheet_25

