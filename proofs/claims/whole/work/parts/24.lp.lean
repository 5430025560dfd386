def w_X3_byOdds (p1 : Int32) (p2 : Int32) (p3 : Int32) (p4 : Int32) (p5 : Int32) (o : S3) (K : Int64 → S3 → Prop) : Prop := w_X3_within p1 (0 : Int32) (10 : Int32) (fun r1 => jn (fun (k3 : Int32) (o4 : S3) => br (k3 = 0) (lfp3 (fun G63 (i6 : Int64) (i7 : Int32) (o8 : S3) => br ((1 <<< (p3 &&& 31)) ≤ i7) (lfp2 (fun G148 (i10 : Int64) (i11 : Int32) => br (p3 ≤ i11) (w_X3_ofFraction i6 i10 p4 (fun r13 => K r13 o8)) (nm ((i10 * 10) : Int64) (fun x15 => nm (i11 + 1 : Int32) (fun x16 => G148 x15 x16)))) 1 0) (w_X3_weightOfWay i7 p1 p3 (fun r17 => jn (fun (i19 : Int64) (o20 : S3) => nm (i7 + 1 : Int32) (fun x21 => G63 i19 x21 o20)) (fun J136 => br ((lg_cmp r17 0) = 0) (J136 i6 o8) (w_X3_goWay i7 p3 o8 (fun o23 => jn (fun (k25 : Int32) => nm ((i6 + (r17 * (k25.toInt64))) : Int64) (fun x26 => J136 x26 o23)) (fun J131 => br (p5 = 0) (br ((o23 2 0 3) = p2) (J131 1) (J131 0)) (vp_in p2 5 ∧ (J131 (o23 2 2 p2.toNatClampNeg)))))))))) 0 0 o4) (K (-1) o4)) (fun J46 => jn (fun (o30 : S3) => J46 1 o30) (fun J41 => br (r1 = 0) (J41 o) (w_X2_has p2 (o 1) (fun r33 w32 => nm ((va_up o 1 w32) : S3) (fun o35 => br (r33 = 0) (J41 o35) (w_X3_within p3 (0 : Int32) (8 : Int32) (fun r37 => br (r37 = 0) (J41 o35) (w_X3_within p4 (0 : Int32) (1 : Int32) (fun r40 => br (r40 = 0) (J41 o35) (J46 0 o35)))))))))))
abbrev rm_X3_byOdds : Room := { frames := 4, cells := 0, slots := 0, locals := 130 }
set_option maxHeartbeats 4000000 in
set_option maxRecDepth 100000 in
theorem c_X3_byOdds (l : Launch) (D : va_G) (kc : Nat → ClassId) (a : Nat → Nat → Nat) (p1 : Int32) (p2 : Int32) (p3 : Int32) (p4 : Int32) (p5 : Int32) (o : S3) (sz : Nat) (K : Int64 → S3 → Prop) (h : w_X3_byOdds p1 p2 p3 p4 p5 o K) : MetL l yX3_byOdds wsX3_byOdds rm_X3_byOdds D kc (fun u : S3 => cLP kc a u) o [.ref (a 0 0), .int p1, .int p2, .int p3, .int p4, .int p5] sz (fun r u => K r u) := by
  refine q_el (code := cX3_byOdds) (maxL := 12) (by decide) rfl (Nat.le_of_ble_eq_true rfl) ?_
  intro p e s m args below meth c Q A hx hb hml hts hown hK hA hret ls hl hP hD hS
  have hown : s.vm.findClass RX3 = some m.cls := hown
  have hl : lv_has ls 12 [(0, .ref (a 0 0)), (1, .int p1), (2, .int p2), (3, .int p3), (4, .int p4), (5, .int p5)] := hl
  have hP : va_P D vwCl (cLP kc a o) s.heap := hP
  have hD : va_D A (cLP kc a o) := hD
  have hS : va_S A s.heap s.heap [] := hS
  obtain ⟨H, eH⟩ : ∃ z, z = s.heap := ⟨_, rfl⟩
  obtain ⟨locs, eL⟩ : ∃ z : List Loc, z = [] := ⟨_, rfl⟩
  have hP := q_heap hP eH
  have hS := q_heapS hS eH eL
  refine q_start eH eL ?_
  clear eH eL
  have hi2 : ∀ w ∈ u_ws RX2 TX2 13, w ∈ wsX3_byOdds := by decide +kernel
  have hi3 : ∀ w ∈ u_ws RX3 TX3 10, w ∈ wsX3_byOdds := by decide +kernel
  unfold w_X3_byOdds at h
  refine lv_iload_n hx hb dX3_byOdds_0 rfl (lv_at hl 1 rfl) ?_
  refine lv_iconst (v := 0) hx hb dX3_byOdds_1 (by decide) ?_
  refine lv_bipush (v := 10) hx hb dX3_byOdds_2 (by decide) ?_
  refine q_cSi (As := [.int p1, .int 0, .int 10]) (rest := []) ⟨hx, hb, hml, hown, hts⟩ hK (c_X3_within l D kc p1 (0 : Int32) (10 : Int32) H.size _ h) (va_cwS 3 hts gX3_byOdds_X3_within rfl rfl rfl (by decide +kernel) ⟨Nat.le_of_ble_eq_true rfl, Nat.le_of_ble_eq_true rfl⟩) (cut_nil _) hP hD hS hA rfl hl.1 rfl (Nat.le_of_ble_eq_true rfl) dX3_byOdds_4 ⟨Nat.zero_le _, Nat.zero_le _⟩ (fun r1 _ H locs h hP hD hS => ?_)
  have hP : va_P D vwCl (cLP kc a o) H := hP
  have hD : va_D A (cLP kc a o) := hD
  refine jn_elim h (fun J46 eJ46 h => ?_)
  have hJ_46 : ∀ (k3 : Int32) (o4 : S3) (ls : Array Slot) (H : Heap) (locs : List Loc), J46 k3 o4 → lv_has ls 12 [(0, .ref (a 0 0)), (1, .int p1), (2, .int p2), (3, .int p3), (4, .int p4), (5, .int p5)] → va_P D vwCl (cLP kc a o4) H → va_D A (cLP kc a o4) → va_S A s.heap H locs → W p l e rm_X3_byOdds s m args below meth c H locs 0 0 Q (F0 m 46 ls [.int k3]) := by
    intro k3 o4 ls H locs h hl hP hD hS
    subst eJ46
    refine lv_istore (lv' := [(6, .int k3), (0, .ref (a 0 0)), (1, .int p1), (2, .int p2), (3, .int p3), (4, .int p4), (5, .int p5)]) hx hb dX3_byOdds_46 hl (by decide) rfl (fun ls hl => ?_)
    refine lv_iload hx hb dX3_byOdds_48 (lv_at hl 0 rfl) ?_
    refine lv_if_eq (tgt := 57) hx hb dX3_byOdds_50 (by decide) (fun c5 => ?_) (fun c5 => ?_)
    · have h := br1 h c5
      refine lv_lconst (v := 0) hx hb dX3_byOdds_57 (by decide) ?_
      refine lv_lstore (lv' := [(7, .long 0), (6, .int k3), (0, .ref (a 0 0)), (1, .int p1), (2, .int p2), (3, .int p3), (4, .int p4), (5, .int p5)]) hx hb dX3_byOdds_58 hl (by decide) rfl (fun ls hl => ?_)
      refine lv_iconst (v := 0) hx hb dX3_byOdds_60 (by decide) ?_
      refine lv_istore (lv' := [(9, .int 0), (7, .long 0), (6, .int k3), (0, .ref (a 0 0)), (1, .int p1), (2, .int p2), (3, .int p3), (4, .int p4), (5, .int p5)]) hx hb dX3_byOdds_61 hl (by decide) rfl (fun ls hl => ?_)
      refine h (fun (i6 : Int64) (i7 : Int32) (o8 : S3) => ∀ (ls : Array Slot) (H : Heap) (locs : List Loc), lv_has ls 12 [(0, .ref (a 0 0)), (1, .int p1), (2, .int p2), (3, .int p3), (4, .int p4), (5, .int p5), (7, .long i6), (9, .int i7)] → va_P D vwCl (cLP kc a o8) H → va_D A (cLP kc a o8) → va_S A s.heap H locs → W p l e rm_X3_byOdds s m args below meth c H locs 0 0 Q (F0 m 63 ls [])) ?_ ls H locs (lv_sub hl [3, 4, 5, 6, 7, 8, 1, 0] rfl) hP hD hS
      intro i6 i7 o8 h ls H locs hl hP hD hS
      refine lv_iload hx hb dX3_byOdds_63 (lv_at hl 7 rfl) ?_
      refine lv_iconst (v := 1) hx hb dX3_byOdds_65 (by decide) ?_
      refine lv_iload_n hx hb dX3_byOdds_66 rfl (lv_at hl 3 rfl) ?_
      refine lv_ishl hx hb dX3_byOdds_67 ?_
      refine lv_icmp_ge (tgt := 142) hx hb dX3_byOdds_68 (by decide) (fun c9 => ?_) (fun c9 => ?_)
      · have h := br1 h c9
        refine lv_lconst (v := 1) hx hb dX3_byOdds_142 (by decide) ?_
        refine lv_lstore (lv' := [(9, .long 1), (0, .ref (a 0 0)), (1, .int p1), (2, .int p2), (3, .int p3), (4, .int p4), (5, .int p5), (7, .long i6)]) hx hb dX3_byOdds_143 hl (by decide) rfl (fun ls hl => ?_)
        refine lv_iconst (v := 0) hx hb dX3_byOdds_145 (by decide) ?_
        refine lv_istore (lv' := [(11, .int 0), (9, .long 1), (0, .ref (a 0 0)), (1, .int p1), (2, .int p2), (3, .int p3), (4, .int p4), (5, .int p5), (7, .long i6)]) hx hb dX3_byOdds_146 hl (by decide) rfl (fun ls hl => ?_)
        refine h (fun (i10 : Int64) (i11 : Int32) => ∀ (ls : Array Slot), lv_has ls 12 [(3, .int p3), (4, .int p4), (7, .long i6), (9, .long i10), (11, .int i11)] → W p l e rm_X3_byOdds s m args below meth c H locs 0 0 Q (F0 m 148 ls [])) ?_ ls (lv_sub hl [5, 6, 8, 1, 0] rfl)
        intro i10 i11 h ls hl
        refine lv_iload hx hb dX3_byOdds_148 (lv_at hl 4 rfl) ?_
        refine lv_iload_n hx hb dX3_byOdds_150 rfl (lv_at hl 0 rfl) ?_
        refine lv_icmp_ge (tgt := 168) hx hb dX3_byOdds_151 (by decide) (fun c12 => ?_) (fun c12 => ?_)
        · have h := br1 h c12
          refine lv_lload hx hb dX3_byOdds_168 (lv_at hl 2 rfl) ?_
          refine lv_lload hx hb dX3_byOdds_170 (lv_at hl 3 rfl) ?_
          refine lv_iload hx hb dX3_byOdds_172 (lv_at hl 1 rfl) ?_
          refine q_cSl (As := [.long i6, .long i10, .int p4]) (rest := []) ⟨hx, hb, hml, hown, hts⟩ hK (c_X3_ofFraction l D kc i6 i10 p4 H.size _ h) (va_cwS 3 hts gX3_byOdds_X3_ofFraction rfl rfl rfl (by decide +kernel) ⟨Nat.le_of_ble_eq_true rfl, Nat.le_of_ble_eq_true rfl⟩) (cut_nil _) hP hD hS hA rfl hl.1 rfl (Nat.le_of_ble_eq_true rfl) dX3_byOdds_174 ⟨Nat.zero_le _, Nat.zero_le _⟩ (fun r13 _ H locs h hP hD hS => ?_)
          have hP : va_P D vwCl (cLP kc a o8) H := hP
          have hD : va_D A (cLP kc a o8) := hD
          exact hret r13 o8 H locs ls _ h hP hD hS dX3_byOdds_177
        · have h := br2 h c12
          refine lv_lload hx hb dX3_byOdds_154 (lv_at hl 3 rfl) ?_
          refine lv_ldc2 (v := 10) hx hb hown (hts (.constantLong RX3 247 (10)) (by decide +kernel)) dX3_byOdds_156 ?_
          refine lv_lmul hx hb dX3_byOdds_159 ?_
          refine lv_topl (fun x15 ex15 => ?_)
          have h := nm_out h x15 ex15
          refine lv_lstore (lv' := [(9, .long x15), (3, .int p3), (4, .int p4), (7, .long i6), (11, .int i11)]) hx hb dX3_byOdds_160 hl (by decide) rfl (fun ls hl => ?_)
          obtain ⟨x16, ex16⟩ : ∃ z : Int32, z = i11 + 1 := ⟨_, rfl⟩
          have h := nm_out h x16 ex16
          refine lv_iinc (v := x16) (lv' := [(11, .int x16), (9, .long x15), (3, .int p3), (4, .int p4), (7, .long i6)]) hx hb dX3_byOdds_162 hl (k := 4) rfl (by rw [ex16]; rfl) (by decide) rfl (fun ls hl => ?_)
          refine lv_goto (tgt := 148) hx hb dX3_byOdds_165 (by decide) ?_
          exact h ls (lv_sub hl [2, 3, 4, 1, 0] rfl)
      · have h := br2 h c9
        refine lv_iload hx hb dX3_byOdds_71 (lv_at hl 7 rfl) ?_
        refine lv_iload_n hx hb dX3_byOdds_73 rfl (lv_at hl 1 rfl) ?_
        refine lv_iload_n hx hb dX3_byOdds_74 rfl (lv_at hl 3 rfl) ?_
        refine q_cSl (As := [.int i7, .int p1, .int p3]) (rest := []) ⟨hx, hb, hml, hown, hts⟩ hK (c_X3_weightOfWay l D kc i7 p1 p3 H.size _ h) (va_cwS 3 hts gX3_byOdds_X3_weightOfWay rfl rfl rfl (by decide +kernel) ⟨Nat.le_of_ble_eq_true rfl, Nat.le_of_ble_eq_true rfl⟩) (cut_nil _) hP hD hS hA rfl hl.1 rfl (Nat.le_of_ble_eq_true rfl) dX3_byOdds_75 ⟨Nat.zero_le _, Nat.zero_le _⟩ (fun r17 _ H locs h hP hD hS => ?_)
        have hP : va_P D vwCl (cLP kc a o8) H := hP
        have hD : va_D A (cLP kc a o8) := hD
        refine lv_lstore (lv' := [(10, .long r17), (0, .ref (a 0 0)), (1, .int p1), (2, .int p2), (3, .int p3), (4, .int p4), (5, .int p5), (7, .long i6), (9, .int i7)]) hx hb dX3_byOdds_78 hl (by decide) rfl (fun ls hl => ?_)
        refine lv_lload hx hb dX3_byOdds_80 (lv_at hl 0 rfl) ?_
        refine lv_lconst (v := 0) hx hb dX3_byOdds_82 (by decide) ?_
        refine W.lcmp hx hb dX3_byOdds_83 ?_
        refine jn_elim h (fun J136 eJ136 h => ?_)
        have hJ_136 : ∀ (i19 : Int64) (o20 : S3) (ls : Array Slot) (H : Heap) (locs : List Loc), J136 i19 o20 → lv_has ls 12 [(0, .ref (a 0 0)), (1, .int p1), (2, .int p2), (3, .int p3), (4, .int p4), (5, .int p5), (7, .long i19), (9, .int i7)] → va_P D vwCl (cLP kc a o20) H → va_D A (cLP kc a o20) → va_S A s.heap H locs → W p l e rm_X3_byOdds s m args below meth c H locs 0 0 Q (F0 m 136 ls []) := by
          intro i19 o20 ls H locs h hl hP hD hS
          subst eJ136
          obtain ⟨x21, ex21⟩ : ∃ z : Int32, z = i7 + 1 := ⟨_, rfl⟩
          have h := nm_out h x21 ex21
          refine lv_iinc (v := x21) (lv' := [(9, .int x21), (0, .ref (a 0 0)), (1, .int p1), (2, .int p2), (3, .int p3), (4, .int p4), (5, .int p5), (7, .long i19)]) hx hb dX3_byOdds_136 hl (k := 7) rfl (by rw [ex21]; rfl) (by decide) rfl (fun ls hl => ?_)
          refine lv_goto (tgt := 63) hx hb dX3_byOdds_139 (by decide) ?_
          exact h ls H locs (lv_sub hl [1, 2, 3, 4, 5, 6, 7, 0] rfl) hP hD hS
        refine lv_if_eq (tgt := 136) hx hb dX3_byOdds_84 (by decide) (fun c22 => ?_) (fun c22 => ?_)
        · have h := br1 h c22
          exact hJ_136 i6 o8 ls H locs h (lv_sub hl [1, 2, 3, 4, 5, 6, 7, 8] rfl) hP hD hS
        · have h := br2 h c22
          refine lv_aload_n hx hb dX3_byOdds_87 rfl (lv_at hl 1 rfl) ?_
          refine lv_iload hx hb dX3_byOdds_88 (lv_at hl 8 rfl) ?_
          refine lv_iload_n hx hb dX3_byOdds_90 rfl (lv_at hl 4 rfl) ?_
          refine q_cVv (As := [.int i7, .int p3]) (rest := []) ⟨hx, hb, hml, hown, hts⟩ hK (c_X3_goWay l D kc a i7 p3 o8 H.size _ h) (cwV 2 hts gX3_byOdds_X3_goWay rfl rfl rfl (by decide +kernel) ⟨Nat.le_of_ble_eq_true rfl, Nat.le_of_ble_eq_true rfl⟩) (cut_same (fun u : S3 => cLP kc a u) o8) hP hD hS hA 3 0 rfl rfl rfl hl.1 rfl (Nat.le_of_ble_eq_true rfl) dX3_byOdds_91 ⟨Nat.zero_le _, Nat.zero_le _⟩ (fun u24 H locs h hP hD hS => ?_)
          obtain ⟨o23, rfl⟩ : ∃ z, z = u24 := ⟨_, rfl⟩
          have hP : va_P D vwCl (cLP kc a o23) H := hP
          have hD : va_D A (cLP kc a o23) := hD
          refine lv_lload hx hb dX3_byOdds_94 (lv_at hl 7 rfl) ?_
          refine lv_lload hx hb dX3_byOdds_96 (lv_at hl 0 rfl) ?_
          refine lv_iload hx hb dX3_byOdds_98 (lv_at hl 6 rfl) ?_
          refine jn_elim h (fun J131 eJ131 h => ?_)
          have hJ_131 : ∀ (k25 : Int32) (ls : Array Slot), J131 k25 → lv_has ls 12 [(0, .ref (a 0 0)), (1, .int p1), (2, .int p2), (3, .int p3), (4, .int p4), (5, .int p5), (9, .int i7)] → W p l e rm_X3_byOdds s m args below meth c H locs 0 0 Q (F0 m 131 ls [.int k25, .long r17, .long i6]) := by
            intro k25 ls h hl
            subst eJ131
            refine lv_i2l hx hb dX3_byOdds_131 rfl ?_
            refine lv_lmul hx hb dX3_byOdds_132 ?_
            refine lv_ladd hx hb dX3_byOdds_133 ?_
            refine lv_topl (fun x26 ex26 => ?_)
            have h := nm_out h x26 ex26
            refine lv_lstore (lv' := [(7, .long x26), (0, .ref (a 0 0)), (1, .int p1), (2, .int p2), (3, .int p3), (4, .int p4), (5, .int p5), (9, .int i7)]) hx hb dX3_byOdds_134 hl (by decide) rfl (fun ls hl => ?_)
            exact hJ_136 x26 o23 ls H locs h (lv_sub hl [1, 2, 3, 4, 5, 6, 0, 7] rfl) hP hD hS
          refine lv_if_eq (tgt := 115) hx hb dX3_byOdds_100 (by decide) (fun c27 => ?_) (fun c27 => ?_)
          · have h := br1 h c27
            refine lv_aload_n hx hb dX3_byOdds_115 rfl (lv_at hl 1 rfl) ?_
            refine va_get (D := D) (ci := 3) (v := .ref (a 2 0)) (C := RX3) (T := TX3) (N := 10) hx hb hts hi3 hown hK.1 hP 0 rfl rfl 2 (by decide) (hts (.fieldLink RX3 23 "LastPenny" "trial" "LLastPenny$World;") (by decide +kernel)) (fun _ h9 => h9) rfl dX3_byOdds_116 ?_
            refine va_get (D := D) (ci := 2) (v := .int (o23 2 0 3)) (C := RX2) (T := TX2) (N := 13) hx hb hts hi2 hown hK.1 hP 14 rfl rfl 3 (by decide) (hts (.fieldLink RX3 128 "LastPenny$World" "holder" "I") (by decide +kernel)) (fun _ h9 => h9) rfl dX3_byOdds_119 ?_
            refine lv_iload_n hx hb dX3_byOdds_122 rfl (lv_at hl 3 rfl) ?_
            refine lv_icmp_ne (tgt := 130) hx hb dX3_byOdds_123 (by decide) (fun c28 => ?_) (fun c28 => ?_)
            · have h := br2 h c28
              refine lv_iconst (v := 0) hx hb dX3_byOdds_130 (by decide) ?_
              exact hJ_131 0 ls h (lv_sub hl [1, 2, 3, 4, 5, 6, 8] rfl)
            · have h := br1 h c28
              refine lv_iconst (v := 1) hx hb dX3_byOdds_126 (by decide) ?_
              refine lv_goto (tgt := 131) hx hb dX3_byOdds_127 (by decide) ?_
              exact hJ_131 1 ls h (lv_sub hl [1, 2, 3, 4, 5, 6, 8] rfl)
          · have h := br2 h c27
            refine lv_aload_n hx hb dX3_byOdds_103 rfl (lv_at hl 1 rfl) ?_
            refine va_get (D := D) (ci := 3) (v := .ref (a 2 0)) (C := RX3) (T := TX3) (N := 10) hx hb hts hi3 hown hK.1 hP 0 rfl rfl 2 (by decide) (hts (.fieldLink RX3 23 "LastPenny" "trial" "LLastPenny$World;") (by decide +kernel)) (fun _ h9 => h9) rfl dX3_byOdds_104 ?_
            refine va_get (D := D) (ci := 2) (v := .ref (a 2 2)) (C := RX2) (T := TX2) (N := 13) hx hb hts hi2 hown hK.1 hP 14 rfl rfl 7 (by decide) (hts (.fieldLink RX3 108 "LastPenny$World" "meansOf" "[I") (by decide +kernel)) (fun _ h9 => h9) rfl dX3_byOdds_107 ?_
            refine lv_iload_n hx hb dX3_byOdds_110 rfl (lv_at hl 3 rfl) ?_
            obtain ⟨hi_29, h⟩ := h
            refine va_iald hx hb hK.1 hP 16 0 rfl rfl hi_29 dX3_byOdds_111 ?_
            refine lv_goto (tgt := 131) hx hb dX3_byOdds_112 (by decide) ?_
            exact hJ_131 (o23 2 2 p2.toNatClampNeg) ls h (lv_sub hl [1, 2, 3, 4, 5, 6, 8] rfl)
    · have h := br2 h c5
      refine lv_ldc2 (v := -1) hx hb hown (hts (.constantLong RX3 149 (-1)) (by decide +kernel)) dX3_byOdds_53 ?_
      exact hret (-1) o4 H locs ls _ h hP hD hS dX3_byOdds_56
  refine jn_elim h (fun J41 eJ41 h => ?_)
  have hJ_41 : ∀ (o30 : S3) (ls : Array Slot) (H : Heap) (locs : List Loc), J41 o30 → lv_has ls 12 [(0, .ref (a 0 0)), (1, .int p1), (2, .int p2), (3, .int p3), (4, .int p4), (5, .int p5)] → va_P D vwCl (cLP kc a o30) H → va_D A (cLP kc a o30) → va_S A s.heap H locs → W p l e rm_X3_byOdds s m args below meth c H locs 0 0 Q (F0 m 41 ls []) := by
    intro o30 ls H locs h hl hP hD hS
    subst eJ41
    refine lv_iconst (v := 1) hx hb dX3_byOdds_41 (by decide) ?_
    refine lv_goto (tgt := 46) hx hb dX3_byOdds_42 (by decide) ?_
    exact hJ_46 1 o30 ls H locs h (lv_sub hl [0, 1, 2, 3, 4, 5] rfl) hP hD hS
  refine lv_if_eq (tgt := 41) hx hb dX3_byOdds_7 (by decide) (fun c31 => ?_) (fun c31 => ?_)
  · have h := br1 h c31
    exact hJ_41 o ls H locs h (lv_sub hl [0, 1, 2, 3, 4, 5] rfl) hP hD hS
  · have h := br2 h c31
    refine lv_aload_n hx hb dX3_byOdds_10 rfl (lv_at hl 0 rfl) ?_
    refine va_get (D := D) (ci := 3) (v := .ref (a 1 0)) (C := RX3) (T := TX3) (N := 10) hx hb hts hi3 hown hK.1 hP 0 rfl rfl 1 (by decide) (hts (.fieldLink RX3 19 "LastPenny" "now" "LLastPenny$World;") (by decide +kernel)) (fun _ h9 => h9) rfl dX3_byOdds_11 ?_
    refine lv_iload_n hx hb dX3_byOdds_14 rfl (lv_at hl 2 rfl) ?_
    refine q_cVi (As := [.int p2]) (rest := []) ⟨hx, hb, hml, hown, hts⟩ hK (c_X2_has l D kc (a 1) p2 (o 1) H.size _ h) (cwV 1 hts gX3_byOdds_X2_has rfl rfl rfl (by decide +kernel) ⟨Nat.le_of_ble_eq_true rfl, Nat.le_of_ble_eq_true rfl⟩) (cut_LP_1 D kc a o) hP hD hS hA 2 0 rfl rfl rfl hl.1 rfl (Nat.le_of_ble_eq_true rfl) dX3_byOdds_15 ⟨Nat.zero_le _, Nat.zero_le _⟩ (fun r33 u34 H locs h hP hD hS => ?_)
    obtain ⟨w32, rfl⟩ : ∃ z, z = u34 := ⟨_, rfl⟩
    obtain ⟨o35, eo35⟩ : ∃ z, z = (va_up o 1 w32) := ⟨_, rfl⟩
    have h := nm_out h o35 eo35
    have hP : va_P D vwCl (cLP kc a o35) H := q_to hP (by subst eo35; rfl)
    have hD : va_D A (cLP kc a o35) := q_toD hD (by subst eo35; rfl)
    refine lv_if_eq (tgt := 41) hx hb dX3_byOdds_18 (by decide) (fun c36 => ?_) (fun c36 => ?_)
    · have h := br1 h c36
      exact hJ_41 o35 ls H locs h (lv_sub hl [0, 1, 2, 3, 4, 5] rfl) hP hD hS
    · have h := br2 h c36
      refine lv_iload_n hx hb dX3_byOdds_21 rfl (lv_at hl 3 rfl) ?_
      refine lv_iconst (v := 0) hx hb dX3_byOdds_22 (by decide) ?_
      refine lv_bipush (v := 8) hx hb dX3_byOdds_23 (by decide) ?_
      refine q_cSi (As := [.int p3, .int 0, .int 8]) (rest := []) ⟨hx, hb, hml, hown, hts⟩ hK (c_X3_within l D kc p3 (0 : Int32) (8 : Int32) H.size _ h) (va_cwS 3 hts gX3_byOdds_X3_within rfl rfl rfl (by decide +kernel) ⟨Nat.le_of_ble_eq_true rfl, Nat.le_of_ble_eq_true rfl⟩) (cut_nil _) hP hD hS hA rfl hl.1 rfl (Nat.le_of_ble_eq_true rfl) dX3_byOdds_25 ⟨Nat.zero_le _, Nat.zero_le _⟩ (fun r37 _ H locs h hP hD hS => ?_)
      have hP : va_P D vwCl (cLP kc a o35) H := hP
      have hD : va_D A (cLP kc a o35) := hD
      refine lv_if_eq (tgt := 41) hx hb dX3_byOdds_28 (by decide) (fun c39 => ?_) (fun c39 => ?_)
      · have h := br1 h c39
        exact hJ_41 o35 ls H locs h (lv_sub hl [0, 1, 2, 3, 4, 5] rfl) hP hD hS
      · have h := br2 h c39
        refine lv_iload hx hb dX3_byOdds_31 (lv_at hl 4 rfl) ?_
        refine lv_iconst (v := 0) hx hb dX3_byOdds_33 (by decide) ?_
        refine lv_iconst (v := 1) hx hb dX3_byOdds_34 (by decide) ?_
        refine q_cSi (As := [.int p4, .int 0, .int 1]) (rest := []) ⟨hx, hb, hml, hown, hts⟩ hK (c_X3_within l D kc p4 (0 : Int32) (1 : Int32) H.size _ h) (va_cwS 3 hts gX3_byOdds_X3_within rfl rfl rfl (by decide +kernel) ⟨Nat.le_of_ble_eq_true rfl, Nat.le_of_ble_eq_true rfl⟩) (cut_nil _) hP hD hS hA rfl hl.1 rfl (Nat.le_of_ble_eq_true rfl) dX3_byOdds_35 ⟨Nat.zero_le _, Nat.zero_le _⟩ (fun r40 _ H locs h hP hD hS => ?_)
        have hP : va_P D vwCl (cLP kc a o35) H := hP
        have hD : va_D A (cLP kc a o35) := hD
        refine lv_if_ne (tgt := 45) hx hb dX3_byOdds_38 (by decide) (fun c42 => ?_) (fun c42 => ?_)
        · have h := br2 h c42
          refine lv_iconst (v := 0) hx hb dX3_byOdds_45 (by decide) ?_
          exact hJ_46 0 o35 ls H locs h (lv_sub hl [0, 1, 2, 3, 4, 5] rfl) hP hD hS
        · have h := br1 h c42
          exact hJ_41 o35 ls H locs h (lv_sub hl [0, 1, 2, 3, 4, 5] rfl) hP hD hS

def w_X3_luck (p1 : Int32) (p2 : Int32) (p3 : Int32) (p4 : Int32) (o : S3) (K : Int64 → S3 → Prop) : Prop := w_X3_byOdds p1 p2 p3 p4 (0 : Int32) o (fun r2 o1 => K r2 o1)
abbrev rm_X3_luck : Room := { frames := 5, cells := 0, slots := 0, locals := 161 }
set_option maxHeartbeats 4000000 in
set_option maxRecDepth 100000 in
theorem c_X3_luck (l : Launch) (D : va_G) (kc : Nat → ClassId) (a : Nat → Nat → Nat) (p1 : Int32) (p2 : Int32) (p3 : Int32) (p4 : Int32) (o : S3) (sz : Nat) (K : Int64 → S3 → Prop) (h : w_X3_luck p1 p2 p3 p4 o K) : MetL l yX3_luck wsX3_luck rm_X3_luck D kc (fun u : S3 => cLP kc a u) o [.ref (a 0 0), .int p1, .int p2, .int p3, .int p4] sz (fun r u => K r u) := by
  refine q_el (code := cX3_luck) (maxL := 5) (by decide) rfl (Nat.le_of_ble_eq_true rfl) ?_
  intro p e s m args below meth c Q A hx hb hml hts hown hK hA hret ls hl hP hD hS
  have hown : s.vm.findClass RX3 = some m.cls := hown
  have hl : lv_has ls 5 [(0, .ref (a 0 0)), (1, .int p1), (2, .int p2), (3, .int p3), (4, .int p4)] := hl
  have hP : va_P D vwCl (cLP kc a o) s.heap := hP
  have hD : va_D A (cLP kc a o) := hD
  have hS : va_S A s.heap s.heap [] := hS
  obtain ⟨H, eH⟩ : ∃ z, z = s.heap := ⟨_, rfl⟩
  obtain ⟨locs, eL⟩ : ∃ z : List Loc, z = [] := ⟨_, rfl⟩
  have hP := q_heap hP eH
  have hS := q_heapS hS eH eL
  refine q_start eH eL ?_
  clear eH eL
  unfold w_X3_luck at h
  refine lv_aload_n hx hb dX3_luck_0 rfl (lv_at hl 0 rfl) ?_
  refine lv_iload_n hx hb dX3_luck_1 rfl (lv_at hl 1 rfl) ?_
  refine lv_iload_n hx hb dX3_luck_2 rfl (lv_at hl 2 rfl) ?_
  refine lv_iload_n hx hb dX3_luck_3 rfl (lv_at hl 3 rfl) ?_
  refine lv_iload hx hb dX3_luck_4 (lv_at hl 4 rfl) ?_
  refine lv_iconst (v := 0) hx hb dX3_luck_6 (by decide) ?_
  refine q_cVl (As := [.int p1, .int p2, .int p3, .int p4, .int 0]) (rest := []) ⟨hx, hb, hml, hown, hts⟩ hK (c_X3_byOdds l D kc a p1 p2 p3 p4 (0 : Int32) o H.size _ h) (cwV 5 hts gX3_luck_X3_byOdds rfl rfl rfl (by decide +kernel) ⟨Nat.le_of_ble_eq_true rfl, Nat.le_of_ble_eq_true rfl⟩) (cut_same (fun u : S3 => cLP kc a u) o) hP hD hS hA 3 0 rfl rfl rfl hl.1 rfl (Nat.le_of_ble_eq_true rfl) dX3_luck_7 ⟨Nat.zero_le _, Nat.zero_le _⟩ (fun r2 u3 H locs h hP hD hS => ?_)
  obtain ⟨o1, rfl⟩ : ∃ z, z = u3 := ⟨_, rfl⟩
  have hP : va_P D vwCl (cLP kc a o1) H := hP
  have hD : va_D A (cLP kc a o1) := hD
  exact hret r2 o1 H locs ls _ h hP hD hS dX3_luck_10

def w_X3_mean (p1 : Int32) (p2 : Int32) (p3 : Int32) (p4 : Int32) (o : S3) (K : Int64 → S3 → Prop) : Prop := w_X3_byOdds p1 p2 p3 p4 (1 : Int32) o (fun r2 o1 => K r2 o1)
abbrev rm_X3_mean : Room := { frames := 5, cells := 0, slots := 0, locals := 161 }
set_option maxHeartbeats 4000000 in
set_option maxRecDepth 100000 in
theorem c_X3_mean (l : Launch) (D : va_G) (kc : Nat → ClassId) (a : Nat → Nat → Nat) (p1 : Int32) (p2 : Int32) (p3 : Int32) (p4 : Int32) (o : S3) (sz : Nat) (K : Int64 → S3 → Prop) (h : w_X3_mean p1 p2 p3 p4 o K) : MetL l yX3_mean wsX3_mean rm_X3_mean D kc (fun u : S3 => cLP kc a u) o [.ref (a 0 0), .int p1, .int p2, .int p3, .int p4] sz (fun r u => K r u) := by
  refine q_el (code := cX3_mean) (maxL := 5) (by decide) rfl (Nat.le_of_ble_eq_true rfl) ?_
  intro p e s m args below meth c Q A hx hb hml hts hown hK hA hret ls hl hP hD hS
  have hown : s.vm.findClass RX3 = some m.cls := hown
  have hl : lv_has ls 5 [(0, .ref (a 0 0)), (1, .int p1), (2, .int p2), (3, .int p3), (4, .int p4)] := hl
  have hP : va_P D vwCl (cLP kc a o) s.heap := hP
  have hD : va_D A (cLP kc a o) := hD
  have hS : va_S A s.heap s.heap [] := hS
  obtain ⟨H, eH⟩ : ∃ z, z = s.heap := ⟨_, rfl⟩
  obtain ⟨locs, eL⟩ : ∃ z : List Loc, z = [] := ⟨_, rfl⟩
  have hP := q_heap hP eH
  have hS := q_heapS hS eH eL
  refine q_start eH eL ?_
  clear eH eL
  unfold w_X3_mean at h
  refine lv_aload_n hx hb dX3_mean_0 rfl (lv_at hl 0 rfl) ?_
  refine lv_iload_n hx hb dX3_mean_1 rfl (lv_at hl 1 rfl) ?_
  refine lv_iload_n hx hb dX3_mean_2 rfl (lv_at hl 2 rfl) ?_
  refine lv_iload_n hx hb dX3_mean_3 rfl (lv_at hl 3 rfl) ?_
  refine lv_iload hx hb dX3_mean_4 (lv_at hl 4 rfl) ?_
  refine lv_iconst (v := 1) hx hb dX3_mean_6 (by decide) ?_
  refine q_cVl (As := [.int p1, .int p2, .int p3, .int p4, .int 1]) (rest := []) ⟨hx, hb, hml, hown, hts⟩ hK (c_X3_byOdds l D kc a p1 p2 p3 p4 (1 : Int32) o H.size _ h) (cwV 5 hts gX3_mean_X3_byOdds rfl rfl rfl (by decide +kernel) ⟨Nat.le_of_ble_eq_true rfl, Nat.le_of_ble_eq_true rfl⟩) (cut_same (fun u : S3 => cLP kc a u) o) hP hD hS hA 3 0 rfl rfl rfl hl.1 rfl (Nat.le_of_ble_eq_true rfl) dX3_mean_7 ⟨Nat.zero_le _, Nat.zero_le _⟩ (fun r2 u3 H locs h hP hD hS => ?_)
  obtain ⟨o1, rfl⟩ : ∃ z, z = u3 := ⟨_, rfl⟩
  have hP : va_P D vwCl (cLP kc a o1) H := hP
  have hD : va_D A (cLP kc a o1) := hD
  exact hret r2 o1 H locs ls _ h hP hD hS dX3_mean_10

def w_X3_see (p1 : Int32) (p2 : Int32) (o : S3) (K : Int32 → S3 → Prop) : Prop := w_X3_within p1 (0 : Int32) (20 : Int32) (fun r1 => br (r1 = 0) (K (-1) o) (w_X2_has p2 (o 1) (fun r5 w4 => nm ((va_up o 1 w4) : S3) (fun o7 => br (r5 = 0) (K (-1) o7) (w_X2_addSeen p1 p2 (o7 1) (fun r10 w9 => nm ((va_up o7 1 w9) : S3) (fun o12 => br (r10 = 0) (K (-3) o12) (K (o12 1 0 5) o12))))))))
abbrev rm_X3_see : Room := { frames := 2, cells := 0, slots := 0, locals := 43 }
set_option maxHeartbeats 4000000 in
set_option maxRecDepth 100000 in
theorem c_X3_see (l : Launch) (D : va_G) (kc : Nat → ClassId) (a : Nat → Nat → Nat) (p1 : Int32) (p2 : Int32) (o : S3) (sz : Nat) (K : Int32 → S3 → Prop) (h : w_X3_see p1 p2 o K) : MetI l yX3_see wsX3_see rm_X3_see D kc (fun u : S3 => cLP kc a u) o [.ref (a 0 0), .int p1, .int p2] sz (fun r u => K r u) := by
  refine q_ei (code := cX3_see) (maxL := 3) (by decide) rfl (Nat.le_of_ble_eq_true rfl) ?_
  intro p e s m args below meth c Q A hx hb hml hts hown hK hA hret ls hl hP hD hS
  have hown : s.vm.findClass RX3 = some m.cls := hown
  have hl : lv_has ls 3 [(0, .ref (a 0 0)), (1, .int p1), (2, .int p2)] := hl
  have hP : va_P D vwCl (cLP kc a o) s.heap := hP
  have hD : va_D A (cLP kc a o) := hD
  have hS : va_S A s.heap s.heap [] := hS
  obtain ⟨H, eH⟩ : ∃ z, z = s.heap := ⟨_, rfl⟩
  obtain ⟨locs, eL⟩ : ∃ z : List Loc, z = [] := ⟨_, rfl⟩
  have hP := q_heap hP eH
  have hS := q_heapS hS eH eL
  refine q_start eH eL ?_
  clear eH eL
  have hi2 : ∀ w ∈ u_ws RX2 TX2 13, w ∈ wsX3_see := by decide +kernel
  have hi3 : ∀ w ∈ u_ws RX3 TX3 10, w ∈ wsX3_see := by decide +kernel
  unfold w_X3_see at h
  refine lv_iload_n hx hb dX3_see_0 rfl (lv_at hl 1 rfl) ?_
  refine lv_iconst (v := 0) hx hb dX3_see_1 (by decide) ?_
  refine lv_bipush (v := 20) hx hb dX3_see_2 (by decide) ?_
  refine q_cSi (As := [.int p1, .int 0, .int 20]) (rest := []) ⟨hx, hb, hml, hown, hts⟩ hK (c_X3_within l D kc p1 (0 : Int32) (20 : Int32) H.size _ h) (va_cwS 3 hts gX3_see_X3_within rfl rfl rfl (by decide +kernel) ⟨Nat.le_of_ble_eq_true rfl, Nat.le_of_ble_eq_true rfl⟩) (cut_nil _) hP hD hS hA rfl hl.1 rfl (Nat.le_of_ble_eq_true rfl) dX3_see_4 ⟨Nat.zero_le _, Nat.zero_le _⟩ (fun r1 _ H locs h hP hD hS => ?_)
  have hP : va_P D vwCl (cLP kc a o) H := hP
  have hD : va_D A (cLP kc a o) := hD
  refine lv_if_eq (tgt := 21) hx hb dX3_see_7 (by decide) (fun c3 => ?_) (fun c3 => ?_)
  · have h := br1 h c3
    refine lv_iconst (v := -1) hx hb dX3_see_21 (by decide) ?_
    exact hret (-1) o H locs ls _ h hP hD hS dX3_see_22
  · have h := br2 h c3
    refine lv_aload_n hx hb dX3_see_10 rfl (lv_at hl 0 rfl) ?_
    refine va_get (D := D) (ci := 3) (v := .ref (a 1 0)) (C := RX3) (T := TX3) (N := 10) hx hb hts hi3 hown hK.1 hP 0 rfl rfl 1 (by decide) (hts (.fieldLink RX3 19 "LastPenny" "now" "LLastPenny$World;") (by decide +kernel)) (fun _ h9 => h9) rfl dX3_see_11 ?_
    refine lv_iload_n hx hb dX3_see_14 rfl (lv_at hl 2 rfl) ?_
    refine q_cVi (As := [.int p2]) (rest := []) ⟨hx, hb, hml, hown, hts⟩ hK (c_X2_has l D kc (a 1) p2 (o 1) H.size _ h) (cwV 1 hts gX3_see_X2_has rfl rfl rfl (by decide +kernel) ⟨Nat.le_of_ble_eq_true rfl, Nat.le_of_ble_eq_true rfl⟩) (cut_LP_1 D kc a o) hP hD hS hA 2 0 rfl rfl rfl hl.1 rfl (Nat.le_of_ble_eq_true rfl) dX3_see_15 ⟨Nat.zero_le _, Nat.zero_le _⟩ (fun r5 u6 H locs h hP hD hS => ?_)
    obtain ⟨w4, rfl⟩ : ∃ z, z = u6 := ⟨_, rfl⟩
    obtain ⟨o7, eo7⟩ : ∃ z, z = (va_up o 1 w4) := ⟨_, rfl⟩
    have h := nm_out h o7 eo7
    have hP : va_P D vwCl (cLP kc a o7) H := q_to hP (by subst eo7; rfl)
    have hD : va_D A (cLP kc a o7) := q_toD hD (by subst eo7; rfl)
    refine lv_if_ne (tgt := 23) hx hb dX3_see_18 (by decide) (fun c8 => ?_) (fun c8 => ?_)
    · have h := br2 h c8
      refine lv_aload_n hx hb dX3_see_23 rfl (lv_at hl 0 rfl) ?_
      refine va_get (D := D) (ci := 3) (v := .ref (a 1 0)) (C := RX3) (T := TX3) (N := 10) hx hb hts hi3 hown hK.1 hP 0 rfl rfl 1 (by decide) (hts (.fieldLink RX3 19 "LastPenny" "now" "LLastPenny$World;") (by decide +kernel)) (fun _ h9 => h9) rfl dX3_see_24 ?_
      refine lv_iload_n hx hb dX3_see_27 rfl (lv_at hl 1 rfl) ?_
      refine lv_iload_n hx hb dX3_see_28 rfl (lv_at hl 2 rfl) ?_
      refine q_cVi (As := [.int p1, .int p2]) (rest := []) ⟨hx, hb, hml, hown, hts⟩ hK (c_X2_addSeen l D kc (a 1) p1 p2 (o7 1) H.size _ h) (cwV 2 hts gX3_see_X2_addSeen rfl rfl rfl (by decide +kernel) ⟨Nat.le_of_ble_eq_true rfl, Nat.le_of_ble_eq_true rfl⟩) (cut_LP_1 D kc a o7) hP hD hS hA 2 0 rfl rfl rfl hl.1 rfl (Nat.le_of_ble_eq_true rfl) dX3_see_29 ⟨Nat.zero_le _, Nat.zero_le _⟩ (fun r10 u11 H locs h hP hD hS => ?_)
      obtain ⟨w9, rfl⟩ : ∃ z, z = u11 := ⟨_, rfl⟩
      obtain ⟨o12, eo12⟩ : ∃ z, z = (va_up o7 1 w9) := ⟨_, rfl⟩
      have h := nm_out h o12 eo12
      have hP : va_P D vwCl (cLP kc a o12) H := q_to hP (by subst eo12; rfl)
      have hD : va_D A (cLP kc a o12) := q_toD hD (by subst eo12; rfl)
      refine lv_if_eq (tgt := 45) hx hb dX3_see_32 (by decide) (fun c13 => ?_) (fun c13 => ?_)
      · have h := br1 h c13
        refine lv_bipush (v := -3) hx hb dX3_see_45 (by decide) ?_
        exact hret (-3) o12 H locs ls _ h hP hD hS dX3_see_47
      · have h := br2 h c13
        refine lv_aload_n hx hb dX3_see_35 rfl (lv_at hl 0 rfl) ?_
        refine va_get (D := D) (ci := 3) (v := .ref (a 1 0)) (C := RX3) (T := TX3) (N := 10) hx hb hts hi3 hown hK.1 hP 0 rfl rfl 1 (by decide) (hts (.fieldLink RX3 19 "LastPenny" "now" "LLastPenny$World;") (by decide +kernel)) (fun _ h9 => h9) rfl dX3_see_36 ?_
        refine va_get (D := D) (ci := 2) (v := .int (o12 1 0 5)) (C := RX2) (T := TX2) (N := 13) hx hb hts hi2 hown hK.1 hP 6 rfl rfl 5 (by decide) (hts (.fieldLink RX3 180 "LastPenny$World" "seen" "I") (by decide +kernel)) (fun _ h9 => h9) rfl dX3_see_39 ?_
        refine lv_goto (tgt := 47) hx hb dX3_see_42 (by decide) ?_
        exact hret (o12 1 0 5) o12 H locs ls _ h hP hD hS dX3_see_47
    · have h := br1 h c8
      refine lv_iconst (v := -1) hx hb dX3_see_21 (by decide) ?_
      exact hret (-1) o7 H locs ls _ h hP hD hS dX3_see_22

def w_X3_forget (p1 : Int32) (o : S3) (K : Int32 → S3 → Prop) : Prop := w_X3_within p1 (0 : Int32) (o 1 0 5) (fun r1 => br (r1 = 0) (K (-1) o) (nm ((o 1 0 5) : Int32) (fun x4 => nm ((va_up o 1 (va_up (o 1) 0 (upd ((o 1) 0) 5 p1))) : S3) (fun o5 => K x4 o5))))
abbrev rm_X3_forget : Room := { frames := 1, cells := 0, slots := 0, locals := 22 }
set_option maxHeartbeats 4000000 in
set_option maxRecDepth 100000 in
theorem c_X3_forget (l : Launch) (D : va_G) (kc : Nat → ClassId) (a : Nat → Nat → Nat) (p1 : Int32) (o : S3) (sz : Nat) (K : Int32 → S3 → Prop) (h : w_X3_forget p1 o K) : MetI l yX3_forget wsX3_forget rm_X3_forget D kc (fun u : S3 => cLP kc a u) o [.ref (a 0 0), .int p1] sz (fun r u => K r u) := by
  refine q_ei (code := cX3_forget) (maxL := 3) (by decide) rfl (Nat.le_of_ble_eq_true rfl) ?_
  intro p e s m args below meth c Q A hx hb hml hts hown hK hA hret ls hl hP hD hS
  have hown : s.vm.findClass RX3 = some m.cls := hown
  have hl : lv_has ls 3 [(0, .ref (a 0 0)), (1, .int p1)] := hl
  have hP : va_P D vwCl (cLP kc a o) s.heap := hP
  have hD : va_D A (cLP kc a o) := hD
  have hS : va_S A s.heap s.heap [] := hS
  obtain ⟨H, eH⟩ : ∃ z, z = s.heap := ⟨_, rfl⟩
  obtain ⟨locs, eL⟩ : ∃ z : List Loc, z = [] := ⟨_, rfl⟩
  have hP := q_heap hP eH
  have hS := q_heapS hS eH eL
  refine q_start eH eL ?_
  clear eH eL
  have hi2 : ∀ w ∈ u_ws RX2 TX2 13, w ∈ wsX3_forget := by decide +kernel
  have hi3 : ∀ w ∈ u_ws RX3 TX3 10, w ∈ wsX3_forget := by decide +kernel
  unfold w_X3_forget at h
  refine lv_iload_n hx hb dX3_forget_0 rfl (lv_at hl 1 rfl) ?_
  refine lv_iconst (v := 0) hx hb dX3_forget_1 (by decide) ?_
  refine lv_aload_n hx hb dX3_forget_2 rfl (lv_at hl 0 rfl) ?_
  refine va_get (D := D) (ci := 3) (v := .ref (a 1 0)) (C := RX3) (T := TX3) (N := 10) hx hb hts hi3 hown hK.1 hP 0 rfl rfl 1 (by decide) (hts (.fieldLink RX3 19 "LastPenny" "now" "LLastPenny$World;") (by decide +kernel)) (fun _ h9 => h9) rfl dX3_forget_3 ?_
  refine va_get (D := D) (ci := 2) (v := .int (o 1 0 5)) (C := RX2) (T := TX2) (N := 13) hx hb hts hi2 hown hK.1 hP 6 rfl rfl 5 (by decide) (hts (.fieldLink RX3 180 "LastPenny$World" "seen" "I") (by decide +kernel)) (fun _ h9 => h9) rfl dX3_forget_6 ?_
  refine q_cSi (As := [.int p1, .int 0, .int (o 1 0 5)]) (rest := []) ⟨hx, hb, hml, hown, hts⟩ hK (c_X3_within l D kc p1 (0 : Int32) (o 1 0 5) H.size _ h) (va_cwS 3 hts gX3_forget_X3_within rfl rfl rfl (by decide +kernel) ⟨Nat.le_of_ble_eq_true rfl, Nat.le_of_ble_eq_true rfl⟩) (cut_nil _) hP hD hS hA rfl hl.1 rfl (Nat.le_of_ble_eq_true rfl) dX3_forget_9 ⟨Nat.zero_le _, Nat.zero_le _⟩ (fun r1 _ H locs h hP hD hS => ?_)
  have hP : va_P D vwCl (cLP kc a o) H := hP
  have hD : va_D A (cLP kc a o) := hD
  refine lv_if_ne (tgt := 17) hx hb dX3_forget_12 (by decide) (fun c3 => ?_) (fun c3 => ?_)
  · have h := br2 h c3
    refine lv_aload_n hx hb dX3_forget_17 rfl (lv_at hl 0 rfl) ?_
    refine va_get (D := D) (ci := 3) (v := .ref (a 1 0)) (C := RX3) (T := TX3) (N := 10) hx hb hts hi3 hown hK.1 hP 0 rfl rfl 1 (by decide) (hts (.fieldLink RX3 19 "LastPenny" "now" "LLastPenny$World;") (by decide +kernel)) (fun _ h9 => h9) rfl dX3_forget_18 ?_
    refine va_get (D := D) (ci := 2) (v := .int (o 1 0 5)) (C := RX2) (T := TX2) (N := 13) hx hb hts hi2 hown hK.1 hP 6 rfl rfl 5 (by decide) (hts (.fieldLink RX3 180 "LastPenny$World" "seen" "I") (by decide +kernel)) (fun _ h9 => h9) rfl dX3_forget_21 ?_
    refine lv_topi (fun x4 ex4 => ?_)
    have h := nm_out h x4 ex4
    refine lv_istore_n (lv' := [(2, .int x4), (0, .ref (a 0 0)), (1, .int p1)]) hx hb dX3_forget_24 rfl hl (by decide) rfl (fun ls hl => ?_)
    refine lv_aload_n hx hb dX3_forget_25 rfl (lv_at hl 1 rfl) ?_
    refine va_get (D := D) (ci := 3) (v := .ref (a 1 0)) (C := RX3) (T := TX3) (N := 10) hx hb hts hi3 hown hK.1 hP 0 rfl rfl 1 (by decide) (hts (.fieldLink RX3 19 "LastPenny" "now" "LLastPenny$World;") (by decide +kernel)) (fun _ h9 => h9) rfl dX3_forget_26 ?_
    refine lv_iload_n hx hb dX3_forget_29 rfl (lv_at hl 2 rfl) ?_
    refine va_put (D := D) (ci := 2) (v := .int p1) (ty := .int) (C := RX2) (T := TX2) (N := 13) hx hb hts hi2 tyX2 tyX2_ok nmX2 hown hK.1 hP hD hS 6 rfl rfl 5 (by decide) (hts (.fieldLink RX3 180 "LastPenny$World" "seen" "I") (by decide +kernel)) (fun _ h9 => h9) rfl (by decide +kernel) rfl rfl (Nat.le_of_ble_eq_true rfl) dX3_forget_30 (fun H locs hP hD hS => ?_)
    obtain ⟨o5, eo5⟩ : ∃ z, z = (va_up o 1 (va_up (o 1) 0 (upd ((o 1) 0) 5 p1))) := ⟨_, rfl⟩
    have h := nm_out h o5 eo5
    have hP : va_P D vwCl (cLP kc a o5) H := q_to hP (by subst eo5; rfl)
    have hD : va_D A (cLP kc a o5) := q_toD hD (by subst eo5; rfl)
    refine lv_iload_n hx hb dX3_forget_33 rfl (lv_at hl 0 rfl) ?_
    exact hret x4 o5 H locs ls _ h hP hD hS dX3_forget_34
  · have h := br1 h c3
    refine lv_iconst (v := -1) hx hb dX3_forget_15 (by decide) ?_
    exact hret (-1) o H locs ls _ h hP hD hS dX3_forget_16

def w_X3_kinds (p1 : Int32) (o : S3) (K : Int32 → S3 → Prop) : Prop := w_X2_has p1 (o 1) (fun r2 w1 => nm ((va_up o 1 w1) : S3) (fun o4 => br (r2 = 0) (K (-1) o4) (lfp3 (fun G17 (i6 : Int32) (i7 : Int32) (o8 : S3) => br (3 < i7) (K i6 o8) (w_X2_become (o8 2) (o8 1) (fun w10 v11 => nm ((va_up (va_up o8 2 w10) 1 v11) : S3) (fun o13 => vp_in p1 5 ∧ (nm ((va_up o13 2 (va_up (o13 2) 1 (upd ((o13 2) 1) p1.toNatClampNeg i7))) : S3) (fun o15 => w_X2_trace (o15 2) (o15 0 4) (fun w16 f17 => nm ((va_up (va_up o15 2 w16) 0 (va_up (o15 0) 4 f17)) : S3) (fun o19 => w_X2_isAsSeen (o19 1) (o19 0 4) (fun r22 w20 f21 => nm ((va_up (va_up o19 1 w20) 0 (va_up (o19 0) 4 f21)) : S3) (fun o24 => jn (fun (i25 : Int32) => nm (i7 + 1 : Int32) (fun x26 => G17 i25 x26 o24)) (fun J74 => br (r22 = 0) (J74 i6) (nm ((i6 ||| (1 <<< (i7 &&& 31))) : Int32) (fun x28 => J74 x28))))))))))))) 0 0 o4)))
abbrev rm_X3_kinds : Room := { frames := 4, cells := 0, slots := 0, locals := 129 }
set_option maxHeartbeats 4000000 in
set_option maxRecDepth 100000 in
theorem c_X3_kinds (l : Launch) (D : va_G) (kc : Nat → ClassId) (a : Nat → Nat → Nat) (p1 : Int32) (o : S3) (sz : Nat) (K : Int32 → S3 → Prop) (h : w_X3_kinds p1 o K) : MetI l yX3_kinds wsX3_kinds rm_X3_kinds D kc (fun u : S3 => cLP kc a u) o [.ref (a 0 0), .int p1] sz (fun r u => K r u) := by
  refine q_ei (code := cX3_kinds) (maxL := 4) (by decide) rfl (Nat.le_of_ble_eq_true rfl) ?_
  intro p e s m args below meth c Q A hx hb hml hts hown hK hA hret ls hl hP hD hS
  have hown : s.vm.findClass RX3 = some m.cls := hown
  have hl : lv_has ls 4 [(0, .ref (a 0 0)), (1, .int p1)] := hl
  have hP : va_P D vwCl (cLP kc a o) s.heap := hP
  have hD : va_D A (cLP kc a o) := hD
  have hS : va_S A s.heap s.heap [] := hS
  obtain ⟨H, eH⟩ : ∃ z, z = s.heap := ⟨_, rfl⟩
  obtain ⟨locs, eL⟩ : ∃ z : List Loc, z = [] := ⟨_, rfl⟩
  have hP := q_heap hP eH
  have hS := q_heapS hS eH eL
  refine q_start eH eL ?_
  clear eH eL
  have hi2 : ∀ w ∈ u_ws RX2 TX2 13, w ∈ wsX3_kinds := by decide +kernel
  have hi3 : ∀ w ∈ u_ws RX3 TX3 10, w ∈ wsX3_kinds := by decide +kernel
  unfold w_X3_kinds at h
  refine lv_aload_n hx hb dX3_kinds_0 rfl (lv_at hl 0 rfl) ?_
  refine va_get (D := D) (ci := 3) (v := .ref (a 1 0)) (C := RX3) (T := TX3) (N := 10) hx hb hts hi3 hown hK.1 hP 0 rfl rfl 1 (by decide) (hts (.fieldLink RX3 19 "LastPenny" "now" "LLastPenny$World;") (by decide +kernel)) (fun _ h9 => h9) rfl dX3_kinds_1 ?_
  refine lv_iload_n hx hb dX3_kinds_4 rfl (lv_at hl 1 rfl) ?_
  refine q_cVi (As := [.int p1]) (rest := []) ⟨hx, hb, hml, hown, hts⟩ hK (c_X2_has l D kc (a 1) p1 (o 1) H.size _ h) (cwV 1 hts gX3_kinds_X2_has rfl rfl rfl (by decide +kernel) ⟨Nat.le_of_ble_eq_true rfl, Nat.le_of_ble_eq_true rfl⟩) (cut_LP_1 D kc a o) hP hD hS hA 2 0 rfl rfl rfl hl.1 rfl (Nat.le_of_ble_eq_true rfl) dX3_kinds_5 ⟨Nat.zero_le _, Nat.zero_le _⟩ (fun r2 u3 H locs h hP hD hS => ?_)
  obtain ⟨w1, rfl⟩ : ∃ z, z = u3 := ⟨_, rfl⟩
  obtain ⟨o4, eo4⟩ : ∃ z, z = (va_up o 1 w1) := ⟨_, rfl⟩
  have h := nm_out h o4 eo4
  have hP : va_P D vwCl (cLP kc a o4) H := q_to hP (by subst eo4; rfl)
  have hD : va_D A (cLP kc a o4) := q_toD hD (by subst eo4; rfl)
  refine lv_if_ne (tgt := 13) hx hb dX3_kinds_8 (by decide) (fun c5 => ?_) (fun c5 => ?_)
  · have h := br2 h c5
    refine lv_iconst (v := 0) hx hb dX3_kinds_13 (by decide) ?_
    refine lv_istore_n (lv' := [(2, .int 0), (0, .ref (a 0 0)), (1, .int p1)]) hx hb dX3_kinds_14 rfl hl (by decide) rfl (fun ls hl => ?_)
    refine lv_iconst (v := 0) hx hb dX3_kinds_15 (by decide) ?_
    refine lv_istore_n (lv' := [(3, .int 0), (2, .int 0), (0, .ref (a 0 0)), (1, .int p1)]) hx hb dX3_kinds_16 rfl hl (by decide) rfl (fun ls hl => ?_)
    refine h (fun (i6 : Int32) (i7 : Int32) (o8 : S3) => ∀ (ls : Array Slot) (H : Heap) (locs : List Loc), lv_has ls 4 [(0, .ref (a 0 0)), (1, .int p1), (2, .int i6), (3, .int i7)] → va_P D vwCl (cLP kc a o8) H → va_D A (cLP kc a o8) → va_S A s.heap H locs → W p l e rm_X3_kinds s m args below meth c H locs 0 0 Q (F0 m 17 ls [])) ?_ ls H locs (lv_sub hl [2, 3, 1, 0] rfl) hP hD hS
    intro i6 i7 o8 h ls H locs hl hP hD hS
    refine lv_iload_n hx hb dX3_kinds_17 rfl (lv_at hl 3 rfl) ?_
    refine lv_iconst (v := 3) hx hb dX3_kinds_18 (by decide) ?_
    refine lv_icmp_gt (tgt := 80) hx hb dX3_kinds_19 (by decide) (fun c9 => ?_) (fun c9 => ?_)
    · have h := br1 h c9
      refine lv_iload_n hx hb dX3_kinds_80 rfl (lv_at hl 2 rfl) ?_
      exact hret i6 o8 H locs ls _ h hP hD hS dX3_kinds_81
    · have h := br2 h c9
      refine lv_aload_n hx hb dX3_kinds_22 rfl (lv_at hl 0 rfl) ?_
      refine va_get (D := D) (ci := 3) (v := .ref (a 2 0)) (C := RX3) (T := TX3) (N := 10) hx hb hts hi3 hown hK.1 hP 0 rfl rfl 2 (by decide) (hts (.fieldLink RX3 23 "LastPenny" "trial" "LLastPenny$World;") (by decide +kernel)) (fun _ h9 => h9) rfl dX3_kinds_23 ?_
      refine lv_aload_n hx hb dX3_kinds_26 rfl (lv_at hl 0 rfl) ?_
      refine va_get (D := D) (ci := 3) (v := .ref (a 1 0)) (C := RX3) (T := TX3) (N := 10) hx hb hts hi3 hown hK.1 hP 0 rfl rfl 1 (by decide) (hts (.fieldLink RX3 19 "LastPenny" "now" "LLastPenny$World;") (by decide +kernel)) (fun _ h9 => h9) rfl dX3_kinds_27 ?_
      refine q_cVv (As := [.ref (a 1 0)]) (rest := []) ⟨hx, hb, hml, hown, hts⟩ hK (c_X2_become l D kc (a 2) (a 1) (o8 2) (o8 1) H.size _ h) (cwV 1 hts gX3_kinds_X2_become rfl rfl rfl (by decide +kernel) ⟨Nat.le_of_ble_eq_true rfl, Nat.le_of_ble_eq_true rfl⟩) (cut_LP_2_1 D kc a o8) hP hD hS hA 2 0 rfl rfl rfl hl.1 rfl (Nat.le_of_ble_eq_true rfl) dX3_kinds_30 ⟨Nat.zero_le _, Nat.zero_le _⟩ (fun u12 H locs h hP hD hS => ?_)
      obtain ⟨w10, v11⟩ := u12
      obtain ⟨o13, eo13⟩ : ∃ z, z = (va_up (va_up o8 2 w10) 1 v11) := ⟨_, rfl⟩
      have h := nm_out h o13 eo13
      have hP : va_P D vwCl (cLP kc a o13) H := q_to hP (by subst eo13; rfl)
      have hD : va_D A (cLP kc a o13) := q_toD hD (by subst eo13; rfl)
      refine lv_aload_n hx hb dX3_kinds_33 rfl (lv_at hl 0 rfl) ?_
      refine va_get (D := D) (ci := 3) (v := .ref (a 2 0)) (C := RX3) (T := TX3) (N := 10) hx hb hts hi3 hown hK.1 hP 0 rfl rfl 2 (by decide) (hts (.fieldLink RX3 23 "LastPenny" "trial" "LLastPenny$World;") (by decide +kernel)) (fun _ h9 => h9) rfl dX3_kinds_34 ?_
      refine va_get (D := D) (ci := 2) (v := .ref (a 2 1)) (C := RX2) (T := TX2) (N := 13) hx hb hts hi2 hown hK.1 hP 14 rfl rfl 6 (by decide) (hts (.fieldLink RX3 105 "LastPenny$World" "kindOf" "[I") (by decide +kernel)) (fun _ h9 => h9) rfl dX3_kinds_37 ?_
      refine lv_iload_n hx hb dX3_kinds_40 rfl (lv_at hl 1 rfl) ?_
      refine lv_iload_n hx hb dX3_kinds_41 rfl (lv_at hl 3 rfl) ?_
      obtain ⟨hi_14, h⟩ := h
      refine va_iast hx hb hK.1 hP hD hS 15 0 rfl rfl hi_14 dX3_kinds_42 (fun H locs hP hD hS => ?_)
      obtain ⟨o15, eo15⟩ : ∃ z, z = (va_up o13 2 (va_up (o13 2) 1 (upd ((o13 2) 1) p1.toNatClampNeg i7))) := ⟨_, rfl⟩
      have h := nm_out h o15 eo15
      have hP : va_P D vwCl (cLP kc a o15) H := q_to hP (by subst eo15; rfl)
      have hD : va_D A (cLP kc a o15) := q_toD hD (by subst eo15; rfl)
      refine lv_aload_n hx hb dX3_kinds_43 rfl (lv_at hl 0 rfl) ?_
      refine va_get (D := D) (ci := 3) (v := .ref (a 2 0)) (C := RX3) (T := TX3) (N := 10) hx hb hts hi3 hown hK.1 hP 0 rfl rfl 2 (by decide) (hts (.fieldLink RX3 23 "LastPenny" "trial" "LLastPenny$World;") (by decide +kernel)) (fun _ h9 => h9) rfl dX3_kinds_44 ?_
      refine lv_aload_n hx hb dX3_kinds_47 rfl (lv_at hl 0 rfl) ?_
      refine va_get (D := D) (ci := 3) (v := .ref (a 0 4)) (C := RX3) (T := TX3) (N := 10) hx hb hts hi3 hown hK.1 hP 0 rfl rfl 8 (by decide) (hts (.fieldLink RX3 43 "LastPenny" "holders" "[I") (by decide +kernel)) (fun _ h9 => h9) rfl dX3_kinds_48 ?_
      refine q_cVv (As := [.ref (a 0 4)]) (rest := []) ⟨hx, hb, hml, hown, hts⟩ hK (c_X2_trace l D kc (a 2) (a 0 4) (o15 2) (o15 0 4) H.size _ h) (cwV 1 hts gX3_kinds_X2_trace rfl rfl rfl (by decide +kernel) ⟨Nat.le_of_ble_eq_true rfl, Nat.le_of_ble_eq_true rfl⟩) (cut_LP_2_h D kc a o15) hP hD hS hA 2 0 rfl rfl rfl hl.1 rfl (Nat.le_of_ble_eq_true rfl) dX3_kinds_51 ⟨Nat.zero_le _, Nat.zero_le _⟩ (fun u18 H locs h hP hD hS => ?_)
      obtain ⟨w16, f17⟩ := u18
      obtain ⟨o19, eo19⟩ : ∃ z, z = (va_up (va_up o15 2 w16) 0 (va_up (o15 0) 4 f17)) := ⟨_, rfl⟩
      have h := nm_out h o19 eo19
      have hP : va_P D vwCl (cLP kc a o19) H := q_to hP (by subst eo19; rfl)
      have hD : va_D A (cLP kc a o19) := q_toD hD (by subst eo19; rfl)
      refine lv_aload_n hx hb dX3_kinds_54 rfl (lv_at hl 0 rfl) ?_
      refine va_get (D := D) (ci := 3) (v := .ref (a 1 0)) (C := RX3) (T := TX3) (N := 10) hx hb hts hi3 hown hK.1 hP 0 rfl rfl 1 (by decide) (hts (.fieldLink RX3 19 "LastPenny" "now" "LLastPenny$World;") (by decide +kernel)) (fun _ h9 => h9) rfl dX3_kinds_55 ?_
      refine lv_aload_n hx hb dX3_kinds_58 rfl (lv_at hl 0 rfl) ?_
      refine va_get (D := D) (ci := 3) (v := .ref (a 0 4)) (C := RX3) (T := TX3) (N := 10) hx hb hts hi3 hown hK.1 hP 0 rfl rfl 8 (by decide) (hts (.fieldLink RX3 43 "LastPenny" "holders" "[I") (by decide +kernel)) (fun _ h9 => h9) rfl dX3_kinds_59 ?_
      refine q_cVi (As := [.ref (a 0 4)]) (rest := []) ⟨hx, hb, hml, hown, hts⟩ hK (c_X2_isAsSeen l D kc (a 1) (a 0 4) (o19 1) (o19 0 4) H.size _ h) (cwV 1 hts gX3_kinds_X2_isAsSeen rfl rfl rfl (by decide +kernel) ⟨Nat.le_of_ble_eq_true rfl, Nat.le_of_ble_eq_true rfl⟩) (cut_LP_1_h D kc a o19) hP hD hS hA 2 0 rfl rfl rfl hl.1 rfl (Nat.le_of_ble_eq_true rfl) dX3_kinds_62 ⟨Nat.zero_le _, Nat.zero_le _⟩ (fun r22 u23 H locs h hP hD hS => ?_)
      obtain ⟨w20, f21⟩ := u23
      obtain ⟨o24, eo24⟩ : ∃ z, z = (va_up (va_up o19 1 w20) 0 (va_up (o19 0) 4 f21)) := ⟨_, rfl⟩
      have h := nm_out h o24 eo24
      have hP : va_P D vwCl (cLP kc a o24) H := q_to hP (by subst eo24; rfl)
      have hD : va_D A (cLP kc a o24) := q_toD hD (by subst eo24; rfl)
      refine jn_elim h (fun J74 eJ74 h => ?_)
      have hJ_74 : ∀ (i25 : Int32) (ls : Array Slot), J74 i25 → lv_has ls 4 [(0, .ref (a 0 0)), (1, .int p1), (2, .int i25), (3, .int i7)] → W p l e rm_X3_kinds s m args below meth c H locs 0 0 Q (F0 m 74 ls []) := by
        intro i25 ls h hl
        subst eJ74
        obtain ⟨x26, ex26⟩ : ∃ z : Int32, z = i7 + 1 := ⟨_, rfl⟩
        have h := nm_out h x26 ex26
        refine lv_iinc (v := x26) (lv' := [(3, .int x26), (0, .ref (a 0 0)), (1, .int p1), (2, .int i25)]) hx hb dX3_kinds_74 hl (k := 3) rfl (by rw [ex26]; rfl) (by decide) rfl (fun ls hl => ?_)
        refine lv_goto (tgt := 17) hx hb dX3_kinds_77 (by decide) ?_
        exact h ls H locs (lv_sub hl [1, 2, 3, 0] rfl) hP hD hS
      refine lv_if_eq (tgt := 74) hx hb dX3_kinds_65 (by decide) (fun c27 => ?_) (fun c27 => ?_)
      · have h := br1 h c27
        exact hJ_74 i6 ls h (lv_sub hl [0, 1, 2, 3] rfl)
      · have h := br2 h c27
        refine lv_iload_n hx hb dX3_kinds_68 rfl (lv_at hl 2 rfl) ?_
        refine lv_iconst (v := 1) hx hb dX3_kinds_69 (by decide) ?_
        refine lv_iload_n hx hb dX3_kinds_70 rfl (lv_at hl 3 rfl) ?_
        refine lv_ishl hx hb dX3_kinds_71 ?_
        refine lv_ior hx hb dX3_kinds_72 ?_
        refine lv_topi (fun x28 ex28 => ?_)
        have h := nm_out h x28 ex28
        refine lv_istore_n (lv' := [(2, .int x28), (0, .ref (a 0 0)), (1, .int p1), (3, .int i7)]) hx hb dX3_kinds_73 rfl hl (by decide) rfl (fun ls hl => ?_)
        exact hJ_74 x28 ls h (lv_sub hl [1, 2, 0, 3] rfl)
  · have h := br1 h c5
    refine lv_iconst (v := -1) hx hb dX3_kinds_11 (by decide) ?_
    exact hret (-1) o4 H locs ls _ h hP hD hS dX3_kinds_12

def w_X3_fitsByTrade (p1 : Int32) (p2 : Int32) (o : S3) (K : Int32 → S3 → Prop) : Prop := w_X2_become (o 2) (o 1) (fun w1 v2 => nm ((va_up (va_up o 2 w1) 1 v2) : S3) (fun o4 => vp_in p1 5 ∧ (nm ((va_up o4 2 (va_up (o4 2) 3 (upd ((o4 2) 3) p1.toNatClampNeg p2))) : S3) (fun o6 => w_X2_trace (o6 2) (o6 0 4) (fun w7 f8 => nm ((va_up (va_up o6 2 w7) 0 (va_up (o6 0) 4 f8)) : S3) (fun o10 => w_X2_isAsSeen (o10 1) (o10 0 4) (fun r13 w11 f12 => nm ((va_up (va_up o10 1 w11) 0 (va_up (o10 0) 4 f12)) : S3) (fun o15 => (r13 = 0 ∨ r13 = 1) ∧ K r13 o15))))))))
abbrev rm_X3_fitsByTrade : Room := { frames := 4, cells := 0, slots := 0, locals := 129 }
set_option maxHeartbeats 4000000 in
set_option maxRecDepth 100000 in
theorem c_X3_fitsByTrade (l : Launch) (D : va_G) (kc : Nat → ClassId) (a : Nat → Nat → Nat) (p1 : Int32) (p2 : Int32) (o : S3) (sz : Nat) (K : Int32 → S3 → Prop) (h : w_X3_fitsByTrade p1 p2 o K) : MetI l yX3_fitsByTrade wsX3_fitsByTrade rm_X3_fitsByTrade D kc (fun u : S3 => cLP kc a u) o [.ref (a 0 0), .int p1, .int p2] sz (fun r u => K r u) := by
  refine q_ez (code := cX3_fitsByTrade) (maxL := 3) (by decide) rfl (Nat.le_of_ble_eq_true rfl) ?_
  intro p e s m args below meth c Q A hx hb hml hts hown hK hA hret ls hl hP hD hS
  have hown : s.vm.findClass RX3 = some m.cls := hown
  have hl : lv_has ls 3 [(0, .ref (a 0 0)), (1, .int p1), (2, .int p2)] := hl
  have hP : va_P D vwCl (cLP kc a o) s.heap := hP
  have hD : va_D A (cLP kc a o) := hD
  have hS : va_S A s.heap s.heap [] := hS
  obtain ⟨H, eH⟩ : ∃ z, z = s.heap := ⟨_, rfl⟩
  obtain ⟨locs, eL⟩ : ∃ z : List Loc, z = [] := ⟨_, rfl⟩
  have hP := q_heap hP eH
  have hS := q_heapS hS eH eL
  refine q_start eH eL ?_
  clear eH eL
  have hi2 : ∀ w ∈ u_ws RX2 TX2 13, w ∈ wsX3_fitsByTrade := by decide +kernel
  have hi3 : ∀ w ∈ u_ws RX3 TX3 10, w ∈ wsX3_fitsByTrade := by decide +kernel
  unfold w_X3_fitsByTrade at h
  refine lv_aload_n hx hb dX3_fitsByTrade_0 rfl (lv_at hl 0 rfl) ?_
  refine va_get (D := D) (ci := 3) (v := .ref (a 2 0)) (C := RX3) (T := TX3) (N := 10) hx hb hts hi3 hown hK.1 hP 0 rfl rfl 2 (by decide) (hts (.fieldLink RX3 23 "LastPenny" "trial" "LLastPenny$World;") (by decide +kernel)) (fun _ h9 => h9) rfl dX3_fitsByTrade_1 ?_
  refine lv_aload_n hx hb dX3_fitsByTrade_4 rfl (lv_at hl 0 rfl) ?_
  refine va_get (D := D) (ci := 3) (v := .ref (a 1 0)) (C := RX3) (T := TX3) (N := 10) hx hb hts hi3 hown hK.1 hP 0 rfl rfl 1 (by decide) (hts (.fieldLink RX3 19 "LastPenny" "now" "LLastPenny$World;") (by decide +kernel)) (fun _ h9 => h9) rfl dX3_fitsByTrade_5 ?_
  refine q_cVv (As := [.ref (a 1 0)]) (rest := []) ⟨hx, hb, hml, hown, hts⟩ hK (c_X2_become l D kc (a 2) (a 1) (o 2) (o 1) H.size _ h) (cwV 1 hts gX3_fitsByTrade_X2_become rfl rfl rfl (by decide +kernel) ⟨Nat.le_of_ble_eq_true rfl, Nat.le_of_ble_eq_true rfl⟩) (cut_LP_2_1 D kc a o) hP hD hS hA 2 0 rfl rfl rfl hl.1 rfl (Nat.le_of_ble_eq_true rfl) dX3_fitsByTrade_8 ⟨Nat.zero_le _, Nat.zero_le _⟩ (fun u3 H locs h hP hD hS => ?_)
  obtain ⟨w1, v2⟩ := u3
  obtain ⟨o4, eo4⟩ : ∃ z, z = (va_up (va_up o 2 w1) 1 v2) := ⟨_, rfl⟩
  have h := nm_out h o4 eo4
  have hP : va_P D vwCl (cLP kc a o4) H := q_to hP (by subst eo4; rfl)
  have hD : va_D A (cLP kc a o4) := q_toD hD (by subst eo4; rfl)
  refine lv_aload_n hx hb dX3_fitsByTrade_11 rfl (lv_at hl 0 rfl) ?_
  refine va_get (D := D) (ci := 3) (v := .ref (a 2 0)) (C := RX3) (T := TX3) (N := 10) hx hb hts hi3 hown hK.1 hP 0 rfl rfl 2 (by decide) (hts (.fieldLink RX3 23 "LastPenny" "trial" "LLastPenny$World;") (by decide +kernel)) (fun _ h9 => h9) rfl dX3_fitsByTrade_12 ?_
  refine va_get (D := D) (ci := 2) (v := .ref (a 2 3)) (C := RX2) (T := TX2) (N := 13) hx hb hts hi2 hown hK.1 hP 14 rfl rfl 8 (by decide) (hts (.fieldLink RX3 111 "LastPenny$World" "tradeOf" "[I") (by decide +kernel)) (fun _ h9 => h9) rfl dX3_fitsByTrade_15 ?_
  refine lv_iload_n hx hb dX3_fitsByTrade_18 rfl (lv_at hl 1 rfl) ?_
  refine lv_iload_n hx hb dX3_fitsByTrade_19 rfl (lv_at hl 2 rfl) ?_
  obtain ⟨hi_5, h⟩ := h
  refine va_iast hx hb hK.1 hP hD hS 17 0 rfl rfl hi_5 dX3_fitsByTrade_20 (fun H locs hP hD hS => ?_)
  obtain ⟨o6, eo6⟩ : ∃ z, z = (va_up o4 2 (va_up (o4 2) 3 (upd ((o4 2) 3) p1.toNatClampNeg p2))) := ⟨_, rfl⟩
  have h := nm_out h o6 eo6
  have hP : va_P D vwCl (cLP kc a o6) H := q_to hP (by subst eo6; rfl)
  have hD : va_D A (cLP kc a o6) := q_toD hD (by subst eo6; rfl)
  refine lv_aload_n hx hb dX3_fitsByTrade_21 rfl (lv_at hl 0 rfl) ?_
  refine va_get (D := D) (ci := 3) (v := .ref (a 2 0)) (C := RX3) (T := TX3) (N := 10) hx hb hts hi3 hown hK.1 hP 0 rfl rfl 2 (by decide) (hts (.fieldLink RX3 23 "LastPenny" "trial" "LLastPenny$World;") (by decide +kernel)) (fun _ h9 => h9) rfl dX3_fitsByTrade_22 ?_
  refine lv_aload_n hx hb dX3_fitsByTrade_25 rfl (lv_at hl 0 rfl) ?_
  refine va_get (D := D) (ci := 3) (v := .ref (a 0 4)) (C := RX3) (T := TX3) (N := 10) hx hb hts hi3 hown hK.1 hP 0 rfl rfl 8 (by decide) (hts (.fieldLink RX3 43 "LastPenny" "holders" "[I") (by decide +kernel)) (fun _ h9 => h9) rfl dX3_fitsByTrade_26 ?_
  refine q_cVv (As := [.ref (a 0 4)]) (rest := []) ⟨hx, hb, hml, hown, hts⟩ hK (c_X2_trace l D kc (a 2) (a 0 4) (o6 2) (o6 0 4) H.size _ h) (cwV 1 hts gX3_fitsByTrade_X2_trace rfl rfl rfl (by decide +kernel) ⟨Nat.le_of_ble_eq_true rfl, Nat.le_of_ble_eq_true rfl⟩) (cut_LP_2_h D kc a o6) hP hD hS hA 2 0 rfl rfl rfl hl.1 rfl (Nat.le_of_ble_eq_true rfl) dX3_fitsByTrade_29 ⟨Nat.zero_le _, Nat.zero_le _⟩ (fun u9 H locs h hP hD hS => ?_)
  obtain ⟨w7, f8⟩ := u9
  obtain ⟨o10, eo10⟩ : ∃ z, z = (va_up (va_up o6 2 w7) 0 (va_up (o6 0) 4 f8)) := ⟨_, rfl⟩
  have h := nm_out h o10 eo10
  have hP : va_P D vwCl (cLP kc a o10) H := q_to hP (by subst eo10; rfl)
  have hD : va_D A (cLP kc a o10) := q_toD hD (by subst eo10; rfl)
  refine lv_aload_n hx hb dX3_fitsByTrade_32 rfl (lv_at hl 0 rfl) ?_
  refine va_get (D := D) (ci := 3) (v := .ref (a 1 0)) (C := RX3) (T := TX3) (N := 10) hx hb hts hi3 hown hK.1 hP 0 rfl rfl 1 (by decide) (hts (.fieldLink RX3 19 "LastPenny" "now" "LLastPenny$World;") (by decide +kernel)) (fun _ h9 => h9) rfl dX3_fitsByTrade_33 ?_
  refine lv_aload_n hx hb dX3_fitsByTrade_36 rfl (lv_at hl 0 rfl) ?_
  refine va_get (D := D) (ci := 3) (v := .ref (a 0 4)) (C := RX3) (T := TX3) (N := 10) hx hb hts hi3 hown hK.1 hP 0 rfl rfl 8 (by decide) (hts (.fieldLink RX3 43 "LastPenny" "holders" "[I") (by decide +kernel)) (fun _ h9 => h9) rfl dX3_fitsByTrade_37 ?_
  refine q_cVi (As := [.ref (a 0 4)]) (rest := []) ⟨hx, hb, hml, hown, hts⟩ hK (c_X2_isAsSeen l D kc (a 1) (a 0 4) (o10 1) (o10 0 4) H.size _ h) (cwV 1 hts gX3_fitsByTrade_X2_isAsSeen rfl rfl rfl (by decide +kernel) ⟨Nat.le_of_ble_eq_true rfl, Nat.le_of_ble_eq_true rfl⟩) (cut_LP_1_h D kc a o10) hP hD hS hA 2 0 rfl rfl rfl hl.1 rfl (Nat.le_of_ble_eq_true rfl) dX3_fitsByTrade_40 ⟨Nat.zero_le _, Nat.zero_le _⟩ (fun r13 u14 H locs h hP hD hS => ?_)
  obtain ⟨w11, f12⟩ := u14
  obtain ⟨o15, eo15⟩ : ∃ z, z = (va_up (va_up o10 1 w11) 0 (va_up (o10 0) 4 f12)) := ⟨_, rfl⟩
  have h := nm_out h o15 eo15
  have hP : va_P D vwCl (cLP kc a o15) H := q_to hP (by subst eo15; rfl)
  have hD : va_D A (cLP kc a o15) := q_toD hD (by subst eo15; rfl)
  obtain ⟨hz16, h⟩ := h
  exact hret r13 o15 H locs ls _ (q_nar hz16) h hP hD hS dX3_fitsByTrade_43

def w_X3_trades (p1 : Int32) (o : S3) (K : Int32 → S3 → Prop) : Prop := w_X2_has p1 (o 1) (fun r2 w1 => nm ((va_up o 1 w1) : S3) (fun o4 => br (r2 = 0) (K (-1) o4) (lfp3 (fun G17 (i6 : Int32) (i7 : Int32) (o8 : S3) => br (20 < i7) (K i6 o8) (w_X3_fitsByTrade p1 i7 o8 (fun r11 o10 => jn (fun (i13 : Int32) => nm (i7 + 1 : Int32) (fun x14 => G17 i13 x14 o10)) (fun J38 => br (r11 = 0) (J38 i6) (nm ((i6 ||| (1 <<< (i7 &&& 31))) : Int32) (fun x16 => J38 x16)))))) 0 0 o4)))
abbrev rm_X3_trades : Room := { frames := 5, cells := 0, slots := 0, locals := 151 }
set_option maxHeartbeats 4000000 in
set_option maxRecDepth 100000 in
theorem c_X3_trades (l : Launch) (D : va_G) (kc : Nat → ClassId) (a : Nat → Nat → Nat) (p1 : Int32) (o : S3) (sz : Nat) (K : Int32 → S3 → Prop) (h : w_X3_trades p1 o K) : MetI l yX3_trades wsX3_trades rm_X3_trades D kc (fun u : S3 => cLP kc a u) o [.ref (a 0 0), .int p1] sz (fun r u => K r u) := by
  refine q_ei (code := cX3_trades) (maxL := 4) (by decide) rfl (Nat.le_of_ble_eq_true rfl) ?_
  intro p e s m args below meth c Q A hx hb hml hts hown hK hA hret ls hl hP hD hS
  have hown : s.vm.findClass RX3 = some m.cls := hown
  have hl : lv_has ls 4 [(0, .ref (a 0 0)), (1, .int p1)] := hl
  have hP : va_P D vwCl (cLP kc a o) s.heap := hP
  have hD : va_D A (cLP kc a o) := hD
  have hS : va_S A s.heap s.heap [] := hS
  obtain ⟨H, eH⟩ : ∃ z, z = s.heap := ⟨_, rfl⟩
  obtain ⟨locs, eL⟩ : ∃ z : List Loc, z = [] := ⟨_, rfl⟩
  have hP := q_heap hP eH
  have hS := q_heapS hS eH eL
  refine q_start eH eL ?_
  clear eH eL
  have hi3 : ∀ w ∈ u_ws RX3 TX3 10, w ∈ wsX3_trades := by decide +kernel
  unfold w_X3_trades at h
  refine lv_aload_n hx hb dX3_trades_0 rfl (lv_at hl 0 rfl) ?_
  refine va_get (D := D) (ci := 3) (v := .ref (a 1 0)) (C := RX3) (T := TX3) (N := 10) hx hb hts hi3 hown hK.1 hP 0 rfl rfl 1 (by decide) (hts (.fieldLink RX3 19 "LastPenny" "now" "LLastPenny$World;") (by decide +kernel)) (fun _ h9 => h9) rfl dX3_trades_1 ?_
  refine lv_iload_n hx hb dX3_trades_4 rfl (lv_at hl 1 rfl) ?_
  refine q_cVi (As := [.int p1]) (rest := []) ⟨hx, hb, hml, hown, hts⟩ hK (c_X2_has l D kc (a 1) p1 (o 1) H.size _ h) (cwV 1 hts gX3_trades_X2_has rfl rfl rfl (by decide +kernel) ⟨Nat.le_of_ble_eq_true rfl, Nat.le_of_ble_eq_true rfl⟩) (cut_LP_1 D kc a o) hP hD hS hA 2 0 rfl rfl rfl hl.1 rfl (Nat.le_of_ble_eq_true rfl) dX3_trades_5 ⟨Nat.zero_le _, Nat.zero_le _⟩ (fun r2 u3 H locs h hP hD hS => ?_)
  obtain ⟨w1, rfl⟩ : ∃ z, z = u3 := ⟨_, rfl⟩
  obtain ⟨o4, eo4⟩ : ∃ z, z = (va_up o 1 w1) := ⟨_, rfl⟩
  have h := nm_out h o4 eo4
  have hP : va_P D vwCl (cLP kc a o4) H := q_to hP (by subst eo4; rfl)
  have hD : va_D A (cLP kc a o4) := q_toD hD (by subst eo4; rfl)
  refine lv_if_ne (tgt := 13) hx hb dX3_trades_8 (by decide) (fun c5 => ?_) (fun c5 => ?_)
  · have h := br2 h c5
    refine lv_iconst (v := 0) hx hb dX3_trades_13 (by decide) ?_
    refine lv_istore_n (lv' := [(2, .int 0), (0, .ref (a 0 0)), (1, .int p1)]) hx hb dX3_trades_14 rfl hl (by decide) rfl (fun ls hl => ?_)
    refine lv_iconst (v := 0) hx hb dX3_trades_15 (by decide) ?_
    refine lv_istore_n (lv' := [(3, .int 0), (2, .int 0), (0, .ref (a 0 0)), (1, .int p1)]) hx hb dX3_trades_16 rfl hl (by decide) rfl (fun ls hl => ?_)
    refine h (fun (i6 : Int32) (i7 : Int32) (o8 : S3) => ∀ (ls : Array Slot) (H : Heap) (locs : List Loc), lv_has ls 4 [(0, .ref (a 0 0)), (1, .int p1), (2, .int i6), (3, .int i7)] → va_P D vwCl (cLP kc a o8) H → va_D A (cLP kc a o8) → va_S A s.heap H locs → W p l e rm_X3_trades s m args below meth c H locs 0 0 Q (F0 m 17 ls [])) ?_ ls H locs (lv_sub hl [2, 3, 1, 0] rfl) hP hD hS
    intro i6 i7 o8 h ls H locs hl hP hD hS
    refine lv_iload_n hx hb dX3_trades_17 rfl (lv_at hl 3 rfl) ?_
    refine lv_bipush (v := 20) hx hb dX3_trades_18 (by decide) ?_
    refine lv_icmp_gt (tgt := 44) hx hb dX3_trades_20 (by decide) (fun c9 => ?_) (fun c9 => ?_)
    · have h := br1 h c9
      refine lv_iload_n hx hb dX3_trades_44 rfl (lv_at hl 2 rfl) ?_
      exact hret i6 o8 H locs ls _ h hP hD hS dX3_trades_45
    · have h := br2 h c9
      refine lv_aload_n hx hb dX3_trades_23 rfl (lv_at hl 0 rfl) ?_
      refine lv_iload_n hx hb dX3_trades_24 rfl (lv_at hl 1 rfl) ?_
      refine lv_iload_n hx hb dX3_trades_25 rfl (lv_at hl 3 rfl) ?_
      refine q_cVi (As := [.int p1, .int i7]) (rest := []) ⟨hx, hb, hml, hown, hts⟩ hK (c_X3_fitsByTrade l D kc a p1 i7 o8 H.size _ h) (cwV 2 hts gX3_trades_X3_fitsByTrade rfl rfl rfl (by decide +kernel) ⟨Nat.le_of_ble_eq_true rfl, Nat.le_of_ble_eq_true rfl⟩) (cut_same (fun u : S3 => cLP kc a u) o8) hP hD hS hA 3 0 rfl rfl rfl hl.1 rfl (Nat.le_of_ble_eq_true rfl) dX3_trades_26 ⟨Nat.zero_le _, Nat.zero_le _⟩ (fun r11 u12 H locs h hP hD hS => ?_)
      obtain ⟨o10, rfl⟩ : ∃ z, z = u12 := ⟨_, rfl⟩
      have hP : va_P D vwCl (cLP kc a o10) H := hP
      have hD : va_D A (cLP kc a o10) := hD
      refine jn_elim h (fun J38 eJ38 h => ?_)
      have hJ_38 : ∀ (i13 : Int32) (ls : Array Slot), J38 i13 → lv_has ls 4 [(0, .ref (a 0 0)), (1, .int p1), (2, .int i13), (3, .int i7)] → W p l e rm_X3_trades s m args below meth c H locs 0 0 Q (F0 m 38 ls []) := by
        intro i13 ls h hl
        subst eJ38
        obtain ⟨x14, ex14⟩ : ∃ z : Int32, z = i7 + 1 := ⟨_, rfl⟩
        have h := nm_out h x14 ex14
        refine lv_iinc (v := x14) (lv' := [(3, .int x14), (0, .ref (a 0 0)), (1, .int p1), (2, .int i13)]) hx hb dX3_trades_38 hl (k := 3) rfl (by rw [ex14]; rfl) (by decide) rfl (fun ls hl => ?_)
        refine lv_goto (tgt := 17) hx hb dX3_trades_41 (by decide) ?_
        exact h ls H locs (lv_sub hl [1, 2, 3, 0] rfl) hP hD hS
      refine lv_if_eq (tgt := 38) hx hb dX3_trades_29 (by decide) (fun c15 => ?_) (fun c15 => ?_)
      · have h := br1 h c15
        exact hJ_38 i6 ls h (lv_sub hl [0, 1, 2, 3] rfl)
      · have h := br2 h c15
        refine lv_iload_n hx hb dX3_trades_32 rfl (lv_at hl 2 rfl) ?_
        refine lv_iconst (v := 1) hx hb dX3_trades_33 (by decide) ?_
        refine lv_iload_n hx hb dX3_trades_34 rfl (lv_at hl 3 rfl) ?_
        refine lv_ishl hx hb dX3_trades_35 ?_
        refine lv_ior hx hb dX3_trades_36 ?_
        refine lv_topi (fun x16 ex16 => ?_)
        have h := nm_out h x16 ex16
        refine lv_istore_n (lv' := [(2, .int x16), (0, .ref (a 0 0)), (1, .int p1), (3, .int i7)]) hx hb dX3_trades_37 rfl hl (by decide) rfl (fun ls hl => ?_)
        exact hJ_38 x16 ls h (lv_sub hl [1, 2, 0, 3] rfl)
  · have h := br1 h c5
    refine lv_iconst (v := -1) hx hb dX3_trades_11 (by decide) ?_
    exact hret (-1) o4 H locs ls _ h hP hD hS dX3_trades_12

