def w_X4_kindNow (mo : S2) (lo : SL) (K : Int32 → S2 → SL → Prop) : Prop := w_X4_is (5 : Int32) (112 : Int32) (108 : Int32) (97 : Int32) (105 : Int32) mo lo (fun r3 mo1 lo2 => jn (fun (mo5 : S2) (lo6 : SL) => w_X4_is (5 : Int32) (109 : Int32) (105 : Int32) (115 : Int32) (101 : Int32) mo5 lo6 (fun r9 mo7 lo8 => jn (fun (mo11 : S2) (lo12 : SL) => w_X4_is (7 : Int32) (102 : Int32) (111 : Int32) (117 : Int32) (110 : Int32) mo11 lo12 (fun r15 mo13 lo14 => jn (fun (mo17 : S2) (lo18 : SL) => w_X4_is (5 : Int32) (108 : Int32) (117 : Int32) (99 : Int32) (107 : Int32) mo17 lo18 (fun r21 mo19 lo20 => br (r21 = 0) (K (-4) mo19 lo20) (w_X4_ends (121 : Int32) (0 : Int32) (0 : Int32) mo19 lo20 (fun r26 mo24 lo25 => br (r26 = 0) (K (-4) mo24 lo25) (K 3 mo24 lo25))))) (fun J92 => br (r15 = 0) (J92 mo13 lo14) (w_X4_ends (100 : Int32) (101 : Int32) (114 : Int32) mo13 lo14 (fun r32 mo30 lo31 => br (r32 = 0) (J92 mo30 lo31) (K 2 mo30 lo31)))))) (fun J58 => br (r9 = 0) (J58 mo7 lo8) (w_X4_ends (114 : Int32) (0 : Int32) (0 : Int32) mo7 lo8 (fun r38 mo36 lo37 => br (r38 = 0) (J58 mo36 lo37) (K 1 mo36 lo37)))))) (fun J29 => br (r3 = 0) (J29 mo1 lo2) (w_X4_ends (110 : Int32) (0 : Int32) (0 : Int32) mo1 lo2 (fun r44 mo42 lo43 => br (r44 = 0) (J29 mo42 lo43) (K 0 mo42 lo43)))))
abbrev rm_X4_kindNow : Room := { frames := 2, cells := 0, slots := 0, locals := 46 }
set_option maxHeartbeats 4000000 in
set_option maxRecDepth 100000 in
theorem c_X4_kindNow (l : Launch) (D : va_G) (kc : Nat → ClassId) (a : Nat → Nat) (mo : S2) (lo : SL) (sz : Nat) (K : Int32 → S2 → SL → Prop) (h : w_X4_kindNow mo lo K) : MetI l yX4_kindNow wsX4_kindNow rm_X4_kindNow D kc (fun u : S2 × SL => cM kc a u.1 u.2) (mo, lo) [.ref (a 0)] sz (fun r u => K r u.1 u.2) := by
  refine q_ei (code := cX4_kindNow) (maxL := 1) (by decide) rfl (Nat.le_of_ble_eq_true rfl) ?_
  intro p e s m args below meth c Q A hx hb hml hts hown hK hA hret ls hl hP hD hS
  have hown : s.vm.findClass RX4 = some m.cls := hown
  have hl : lv_has ls 1 [(0, .ref (a 0))] := hl
  have hP : va_P D vwCl (cM kc a mo lo) s.heap := hP
  have hD : va_D A (cM kc a mo lo) := hD
  have hS : va_S A s.heap s.heap [] := hS
  obtain ⟨H, eH⟩ : ∃ z, z = s.heap := ⟨_, rfl⟩
  obtain ⟨locs, eL⟩ : ∃ z : List Loc, z = [] := ⟨_, rfl⟩
  have hP := q_heap hP eH
  have hS := q_heapS hS eH eL
  refine q_start eH eL ?_
  clear eH eL
  unfold w_X4_kindNow at h
  refine lv_aload_n hx hb dX4_kindNow_0 rfl (lv_at hl 0 rfl) ?_
  refine lv_iconst (v := 5) hx hb dX4_kindNow_1 (by decide) ?_
  refine lv_bipush (v := 112) hx hb dX4_kindNow_2 (by decide) ?_
  refine lv_bipush (v := 108) hx hb dX4_kindNow_4 (by decide) ?_
  refine lv_bipush (v := 97) hx hb dX4_kindNow_6 (by decide) ?_
  refine lv_bipush (v := 105) hx hb dX4_kindNow_8 (by decide) ?_
  refine q_cVi (As := [.int 5, .int 112, .int 108, .int 97, .int 105]) (rest := []) ⟨hx, hb, hml, hown, hts⟩ hK (c_X4_is l D kc a (5 : Int32) (112 : Int32) (108 : Int32) (97 : Int32) (105 : Int32) mo lo H.size _ h) (cwV 5 hts gX4_kindNow_X4_is rfl rfl rfl (by decide +kernel) ⟨Nat.le_of_ble_eq_true rfl, Nat.le_of_ble_eq_true rfl⟩) (cut_same (fun u : S2 × SL => cM kc a u.1 u.2) (mo, lo)) hP hD hS hA 4 0 rfl rfl rfl hl.1 rfl (Nat.le_of_ble_eq_true rfl) dX4_kindNow_10 ⟨Nat.zero_le _, Nat.zero_le _⟩ (fun r3 u4 H locs h hP hD hS => ?_)
  obtain ⟨mo1, lo2⟩ := u4
  have hP : va_P D vwCl (cM kc a mo1 lo2) H := hP
  have hD : va_D A (cM kc a mo1 lo2) := hD
  refine jn_elim h (fun J29 eJ29 h => ?_)
  have hJ_29 : ∀ (mo5 : S2) (lo6 : SL) (ls : Array Slot) (H : Heap) (locs : List Loc), J29 mo5 lo6 → lv_has ls 1 [(0, .ref (a 0))] → va_P D vwCl (cM kc a mo5 lo6) H → va_D A (cM kc a mo5 lo6) → va_S A s.heap H locs → W p l e rm_X4_kindNow s m args below meth c H locs 0 0 Q (F0 m 29 ls []) := by
    intro mo5 lo6 ls H locs h hl hP hD hS
    subst eJ29
    refine lv_aload_n hx hb dX4_kindNow_29 rfl (lv_at hl 0 rfl) ?_
    refine lv_iconst (v := 5) hx hb dX4_kindNow_30 (by decide) ?_
    refine lv_bipush (v := 109) hx hb dX4_kindNow_31 (by decide) ?_
    refine lv_bipush (v := 105) hx hb dX4_kindNow_33 (by decide) ?_
    refine lv_bipush (v := 115) hx hb dX4_kindNow_35 (by decide) ?_
    refine lv_bipush (v := 101) hx hb dX4_kindNow_37 (by decide) ?_
    refine q_cVi (As := [.int 5, .int 109, .int 105, .int 115, .int 101]) (rest := []) ⟨hx, hb, hml, hown, hts⟩ hK (c_X4_is l D kc a (5 : Int32) (109 : Int32) (105 : Int32) (115 : Int32) (101 : Int32) mo5 lo6 H.size _ h) (cwV 5 hts gX4_kindNow_X4_is rfl rfl rfl (by decide +kernel) ⟨Nat.le_of_ble_eq_true rfl, Nat.le_of_ble_eq_true rfl⟩) (cut_same (fun u : S2 × SL => cM kc a u.1 u.2) (mo5, lo6)) hP hD hS hA 4 0 rfl rfl rfl hl.1 rfl (Nat.le_of_ble_eq_true rfl) dX4_kindNow_39 ⟨Nat.zero_le _, Nat.zero_le _⟩ (fun r9 u10 H locs h hP hD hS => ?_)
    obtain ⟨mo7, lo8⟩ := u10
    have hP : va_P D vwCl (cM kc a mo7 lo8) H := hP
    have hD : va_D A (cM kc a mo7 lo8) := hD
    refine jn_elim h (fun J58 eJ58 h => ?_)
    have hJ_58 : ∀ (mo11 : S2) (lo12 : SL) (ls : Array Slot) (H : Heap) (locs : List Loc), J58 mo11 lo12 → lv_has ls 1 [(0, .ref (a 0))] → va_P D vwCl (cM kc a mo11 lo12) H → va_D A (cM kc a mo11 lo12) → va_S A s.heap H locs → W p l e rm_X4_kindNow s m args below meth c H locs 0 0 Q (F0 m 58 ls []) := by
      intro mo11 lo12 ls H locs h hl hP hD hS
      subst eJ58
      refine lv_aload_n hx hb dX4_kindNow_58 rfl (lv_at hl 0 rfl) ?_
      refine lv_bipush (v := 7) hx hb dX4_kindNow_59 (by decide) ?_
      refine lv_bipush (v := 102) hx hb dX4_kindNow_61 (by decide) ?_
      refine lv_bipush (v := 111) hx hb dX4_kindNow_63 (by decide) ?_
      refine lv_bipush (v := 117) hx hb dX4_kindNow_65 (by decide) ?_
      refine lv_bipush (v := 110) hx hb dX4_kindNow_67 (by decide) ?_
      refine q_cVi (As := [.int 7, .int 102, .int 111, .int 117, .int 110]) (rest := []) ⟨hx, hb, hml, hown, hts⟩ hK (c_X4_is l D kc a (7 : Int32) (102 : Int32) (111 : Int32) (117 : Int32) (110 : Int32) mo11 lo12 H.size _ h) (cwV 5 hts gX4_kindNow_X4_is rfl rfl rfl (by decide +kernel) ⟨Nat.le_of_ble_eq_true rfl, Nat.le_of_ble_eq_true rfl⟩) (cut_same (fun u : S2 × SL => cM kc a u.1 u.2) (mo11, lo12)) hP hD hS hA 4 0 rfl rfl rfl hl.1 rfl (Nat.le_of_ble_eq_true rfl) dX4_kindNow_69 ⟨Nat.zero_le _, Nat.zero_le _⟩ (fun r15 u16 H locs h hP hD hS => ?_)
      obtain ⟨mo13, lo14⟩ := u16
      have hP : va_P D vwCl (cM kc a mo13 lo14) H := hP
      have hD : va_D A (cM kc a mo13 lo14) := hD
      refine jn_elim h (fun J92 eJ92 h => ?_)
      have hJ_92 : ∀ (mo17 : S2) (lo18 : SL) (ls : Array Slot) (H : Heap) (locs : List Loc), J92 mo17 lo18 → lv_has ls 1 [(0, .ref (a 0))] → va_P D vwCl (cM kc a mo17 lo18) H → va_D A (cM kc a mo17 lo18) → va_S A s.heap H locs → W p l e rm_X4_kindNow s m args below meth c H locs 0 0 Q (F0 m 92 ls []) := by
        intro mo17 lo18 ls H locs h hl hP hD hS
        subst eJ92
        refine lv_aload_n hx hb dX4_kindNow_92 rfl (lv_at hl 0 rfl) ?_
        refine lv_iconst (v := 5) hx hb dX4_kindNow_93 (by decide) ?_
        refine lv_bipush (v := 108) hx hb dX4_kindNow_94 (by decide) ?_
        refine lv_bipush (v := 117) hx hb dX4_kindNow_96 (by decide) ?_
        refine lv_bipush (v := 99) hx hb dX4_kindNow_98 (by decide) ?_
        refine lv_bipush (v := 107) hx hb dX4_kindNow_100 (by decide) ?_
        refine q_cVi (As := [.int 5, .int 108, .int 117, .int 99, .int 107]) (rest := []) ⟨hx, hb, hml, hown, hts⟩ hK (c_X4_is l D kc a (5 : Int32) (108 : Int32) (117 : Int32) (99 : Int32) (107 : Int32) mo17 lo18 H.size _ h) (cwV 5 hts gX4_kindNow_X4_is rfl rfl rfl (by decide +kernel) ⟨Nat.le_of_ble_eq_true rfl, Nat.le_of_ble_eq_true rfl⟩) (cut_same (fun u : S2 × SL => cM kc a u.1 u.2) (mo17, lo18)) hP hD hS hA 4 0 rfl rfl rfl hl.1 rfl (Nat.le_of_ble_eq_true rfl) dX4_kindNow_102 ⟨Nat.zero_le _, Nat.zero_le _⟩ (fun r21 u22 H locs h hP hD hS => ?_)
        obtain ⟨mo19, lo20⟩ := u22
        have hP : va_P D vwCl (cM kc a mo19 lo20) H := hP
        have hD : va_D A (cM kc a mo19 lo20) := hD
        refine lv_if_eq (tgt := 123) hx hb dX4_kindNow_105 (by decide) (fun c23 => ?_) (fun c23 => ?_)
        · have h := br1 h c23
          refine lv_bipush (v := -4) hx hb dX4_kindNow_123 (by decide) ?_
          exact hret (-4) (mo19, lo20) H locs ls _ h hP hD hS dX4_kindNow_125
        · have h := br2 h c23
          refine lv_aload_n hx hb dX4_kindNow_108 rfl (lv_at hl 0 rfl) ?_
          refine lv_bipush (v := 121) hx hb dX4_kindNow_109 (by decide) ?_
          refine lv_iconst (v := 0) hx hb dX4_kindNow_111 (by decide) ?_
          refine lv_iconst (v := 0) hx hb dX4_kindNow_112 (by decide) ?_
          refine q_cVi (As := [.int 121, .int 0, .int 0]) (rest := []) ⟨hx, hb, hml, hown, hts⟩ hK (c_X4_ends l D kc a (121 : Int32) (0 : Int32) (0 : Int32) mo19 lo20 H.size _ h) (cwV 3 hts gX4_kindNow_X4_ends rfl rfl rfl (by decide +kernel) ⟨Nat.le_of_ble_eq_true rfl, Nat.le_of_ble_eq_true rfl⟩) (cut_same (fun u : S2 × SL => cM kc a u.1 u.2) (mo19, lo20)) hP hD hS hA 4 0 rfl rfl rfl hl.1 rfl (Nat.le_of_ble_eq_true rfl) dX4_kindNow_113 ⟨Nat.zero_le _, Nat.zero_le _⟩ (fun r26 u27 H locs h hP hD hS => ?_)
          obtain ⟨mo24, lo25⟩ := u27
          have hP : va_P D vwCl (cM kc a mo24 lo25) H := hP
          have hD : va_D A (cM kc a mo24 lo25) := hD
          refine lv_if_eq (tgt := 123) hx hb dX4_kindNow_116 (by decide) (fun c28 => ?_) (fun c28 => ?_)
          · have h := br1 h c28
            refine lv_bipush (v := -4) hx hb dX4_kindNow_123 (by decide) ?_
            exact hret (-4) (mo24, lo25) H locs ls _ h hP hD hS dX4_kindNow_125
          · have h := br2 h c28
            refine lv_iconst (v := 3) hx hb dX4_kindNow_119 (by decide) ?_
            refine lv_goto (tgt := 125) hx hb dX4_kindNow_120 (by decide) ?_
            exact hret 3 (mo24, lo25) H locs ls _ h hP hD hS dX4_kindNow_125
      refine lv_if_eq (tgt := 92) hx hb dX4_kindNow_72 (by decide) (fun c29 => ?_) (fun c29 => ?_)
      · have h := br1 h c29
        exact hJ_92 mo13 lo14 ls H locs h (lv_sub hl [0] rfl) hP hD hS
      · have h := br2 h c29
        refine lv_aload_n hx hb dX4_kindNow_75 rfl (lv_at hl 0 rfl) ?_
        refine lv_bipush (v := 100) hx hb dX4_kindNow_76 (by decide) ?_
        refine lv_bipush (v := 101) hx hb dX4_kindNow_78 (by decide) ?_
        refine lv_bipush (v := 114) hx hb dX4_kindNow_80 (by decide) ?_
        refine q_cVi (As := [.int 100, .int 101, .int 114]) (rest := []) ⟨hx, hb, hml, hown, hts⟩ hK (c_X4_ends l D kc a (100 : Int32) (101 : Int32) (114 : Int32) mo13 lo14 H.size _ h) (cwV 3 hts gX4_kindNow_X4_ends rfl rfl rfl (by decide +kernel) ⟨Nat.le_of_ble_eq_true rfl, Nat.le_of_ble_eq_true rfl⟩) (cut_same (fun u : S2 × SL => cM kc a u.1 u.2) (mo13, lo14)) hP hD hS hA 4 0 rfl rfl rfl hl.1 rfl (Nat.le_of_ble_eq_true rfl) dX4_kindNow_82 ⟨Nat.zero_le _, Nat.zero_le _⟩ (fun r32 u33 H locs h hP hD hS => ?_)
        obtain ⟨mo30, lo31⟩ := u33
        have hP : va_P D vwCl (cM kc a mo30 lo31) H := hP
        have hD : va_D A (cM kc a mo30 lo31) := hD
        refine lv_if_eq (tgt := 92) hx hb dX4_kindNow_85 (by decide) (fun c34 => ?_) (fun c34 => ?_)
        · have h := br1 h c34
          exact hJ_92 mo30 lo31 ls H locs h (lv_sub hl [0] rfl) hP hD hS
        · have h := br2 h c34
          refine lv_iconst (v := 2) hx hb dX4_kindNow_88 (by decide) ?_
          refine lv_goto (tgt := 125) hx hb dX4_kindNow_89 (by decide) ?_
          exact hret 2 (mo30, lo31) H locs ls _ h hP hD hS dX4_kindNow_125
    refine lv_if_eq (tgt := 58) hx hb dX4_kindNow_42 (by decide) (fun c35 => ?_) (fun c35 => ?_)
    · have h := br1 h c35
      exact hJ_58 mo7 lo8 ls H locs h (lv_sub hl [0] rfl) hP hD hS
    · have h := br2 h c35
      refine lv_aload_n hx hb dX4_kindNow_45 rfl (lv_at hl 0 rfl) ?_
      refine lv_bipush (v := 114) hx hb dX4_kindNow_46 (by decide) ?_
      refine lv_iconst (v := 0) hx hb dX4_kindNow_48 (by decide) ?_
      refine lv_iconst (v := 0) hx hb dX4_kindNow_49 (by decide) ?_
      refine q_cVi (As := [.int 114, .int 0, .int 0]) (rest := []) ⟨hx, hb, hml, hown, hts⟩ hK (c_X4_ends l D kc a (114 : Int32) (0 : Int32) (0 : Int32) mo7 lo8 H.size _ h) (cwV 3 hts gX4_kindNow_X4_ends rfl rfl rfl (by decide +kernel) ⟨Nat.le_of_ble_eq_true rfl, Nat.le_of_ble_eq_true rfl⟩) (cut_same (fun u : S2 × SL => cM kc a u.1 u.2) (mo7, lo8)) hP hD hS hA 4 0 rfl rfl rfl hl.1 rfl (Nat.le_of_ble_eq_true rfl) dX4_kindNow_50 ⟨Nat.zero_le _, Nat.zero_le _⟩ (fun r38 u39 H locs h hP hD hS => ?_)
      obtain ⟨mo36, lo37⟩ := u39
      have hP : va_P D vwCl (cM kc a mo36 lo37) H := hP
      have hD : va_D A (cM kc a mo36 lo37) := hD
      refine lv_if_eq (tgt := 58) hx hb dX4_kindNow_53 (by decide) (fun c40 => ?_) (fun c40 => ?_)
      · have h := br1 h c40
        exact hJ_58 mo36 lo37 ls H locs h (lv_sub hl [0] rfl) hP hD hS
      · have h := br2 h c40
        refine lv_iconst (v := 1) hx hb dX4_kindNow_56 (by decide) ?_
        exact hret 1 (mo36, lo37) H locs ls _ h hP hD hS dX4_kindNow_57
  refine lv_if_eq (tgt := 29) hx hb dX4_kindNow_13 (by decide) (fun c41 => ?_) (fun c41 => ?_)
  · have h := br1 h c41
    exact hJ_29 mo1 lo2 ls H locs h (lv_sub hl [0] rfl) hP hD hS
  · have h := br2 h c41
    refine lv_aload_n hx hb dX4_kindNow_16 rfl (lv_at hl 0 rfl) ?_
    refine lv_bipush (v := 110) hx hb dX4_kindNow_17 (by decide) ?_
    refine lv_iconst (v := 0) hx hb dX4_kindNow_19 (by decide) ?_
    refine lv_iconst (v := 0) hx hb dX4_kindNow_20 (by decide) ?_
    refine q_cVi (As := [.int 110, .int 0, .int 0]) (rest := []) ⟨hx, hb, hml, hown, hts⟩ hK (c_X4_ends l D kc a (110 : Int32) (0 : Int32) (0 : Int32) mo1 lo2 H.size _ h) (cwV 3 hts gX4_kindNow_X4_ends rfl rfl rfl (by decide +kernel) ⟨Nat.le_of_ble_eq_true rfl, Nat.le_of_ble_eq_true rfl⟩) (cut_same (fun u : S2 × SL => cM kc a u.1 u.2) (mo1, lo2)) hP hD hS hA 4 0 rfl rfl rfl hl.1 rfl (Nat.le_of_ble_eq_true rfl) dX4_kindNow_21 ⟨Nat.zero_le _, Nat.zero_le _⟩ (fun r44 u45 H locs h hP hD hS => ?_)
    obtain ⟨mo42, lo43⟩ := u45
    have hP : va_P D vwCl (cM kc a mo42 lo43) H := hP
    have hD : va_D A (cM kc a mo42 lo43) := hD
    refine lv_if_eq (tgt := 29) hx hb dX4_kindNow_24 (by decide) (fun c46 => ?_) (fun c46 => ?_)
    · have h := br1 h c46
      exact hJ_29 mo42 lo43 ls H locs h (lv_sub hl [0] rfl) hP hD hS
    · have h := br2 h c46
      refine lv_iconst (v := 0) hx hb dX4_kindNow_27 (by decide) ?_
      exact hret 0 (mo42, lo43) H locs ls _ h hP hD hS dX4_kindNow_28

def w_X4_lineNow (mo : S2) (lo : SL) (K : Int32 → S2 → SL → Prop) : Prop := w_X4_is (4 : Int32) (103 : Int32) (105 : Int32) (102 : Int32) (116 : Int32) mo lo (fun r3 mo1 lo2 => br (r3 = 0) (w_X4_is (5 : Int32) (115 : Int32) (108 : Int32) (117 : Int32) (109 : Int32) mo1 lo2 (fun r8 mo6 lo7 => jn (fun (mo10 : S2) (lo11 : SL) => w_X4_is (4 : Int32) (99 : Int32) (111 : Int32) (105 : Int32) (110 : Int32) mo10 lo11 (fun r14 mo12 lo13 => br (r14 = 0) (w_X4_kindNow mo12 lo13 (fun r19 mo17 lo18 => K r19 mo17 lo18)) (K 6 mo12 lo13))) (fun J49 => br (r8 = 0) (J49 mo6 lo7) (w_X4_ends (112 : Int32) (0 : Int32) (0 : Int32) mo6 lo7 (fun r24 mo22 lo23 => br (r24 = 0) (J49 mo22 lo23) (K 5 mo22 lo23)))))) (K 4 mo1 lo2))
abbrev rm_X4_lineNow : Room := { frames := 3, cells := 0, slots := 0, locals := 66 }
set_option maxHeartbeats 4000000 in
set_option maxRecDepth 100000 in
theorem c_X4_lineNow (l : Launch) (D : va_G) (kc : Nat → ClassId) (a : Nat → Nat) (mo : S2) (lo : SL) (sz : Nat) (K : Int32 → S2 → SL → Prop) (h : w_X4_lineNow mo lo K) : MetI l yX4_lineNow wsX4_lineNow rm_X4_lineNow D kc (fun u : S2 × SL => cM kc a u.1 u.2) (mo, lo) [.ref (a 0)] sz (fun r u => K r u.1 u.2) := by
  refine q_ei (code := cX4_lineNow) (maxL := 1) (by decide) rfl (Nat.le_of_ble_eq_true rfl) ?_
  intro p e s m args below meth c Q A hx hb hml hts hown hK hA hret ls hl hP hD hS
  have hown : s.vm.findClass RX4 = some m.cls := hown
  have hl : lv_has ls 1 [(0, .ref (a 0))] := hl
  have hP : va_P D vwCl (cM kc a mo lo) s.heap := hP
  have hD : va_D A (cM kc a mo lo) := hD
  have hS : va_S A s.heap s.heap [] := hS
  obtain ⟨H, eH⟩ : ∃ z, z = s.heap := ⟨_, rfl⟩
  obtain ⟨locs, eL⟩ : ∃ z : List Loc, z = [] := ⟨_, rfl⟩
  have hP := q_heap hP eH
  have hS := q_heapS hS eH eL
  refine q_start eH eL ?_
  clear eH eL
  unfold w_X4_lineNow at h
  refine lv_aload_n hx hb dX4_lineNow_0 rfl (lv_at hl 0 rfl) ?_
  refine lv_iconst (v := 4) hx hb dX4_lineNow_1 (by decide) ?_
  refine lv_bipush (v := 103) hx hb dX4_lineNow_2 (by decide) ?_
  refine lv_bipush (v := 105) hx hb dX4_lineNow_4 (by decide) ?_
  refine lv_bipush (v := 102) hx hb dX4_lineNow_6 (by decide) ?_
  refine lv_bipush (v := 116) hx hb dX4_lineNow_8 (by decide) ?_
  refine q_cVi (As := [.int 4, .int 103, .int 105, .int 102, .int 116]) (rest := []) ⟨hx, hb, hml, hown, hts⟩ hK (c_X4_is l D kc a (4 : Int32) (103 : Int32) (105 : Int32) (102 : Int32) (116 : Int32) mo lo H.size _ h) (cwV 5 hts gX4_lineNow_X4_is rfl rfl rfl (by decide +kernel) ⟨Nat.le_of_ble_eq_true rfl, Nat.le_of_ble_eq_true rfl⟩) (cut_same (fun u : S2 × SL => cM kc a u.1 u.2) (mo, lo)) hP hD hS hA 4 0 rfl rfl rfl hl.1 rfl (Nat.le_of_ble_eq_true rfl) dX4_lineNow_10 ⟨Nat.zero_le _, Nat.zero_le _⟩ (fun r3 u4 H locs h hP hD hS => ?_)
  obtain ⟨mo1, lo2⟩ := u4
  have hP : va_P D vwCl (cM kc a mo1 lo2) H := hP
  have hD : va_D A (cM kc a mo1 lo2) := hD
  refine lv_if_eq (tgt := 18) hx hb dX4_lineNow_13 (by decide) (fun c5 => ?_) (fun c5 => ?_)
  · have h := br1 h c5
    refine lv_aload_n hx hb dX4_lineNow_18 rfl (lv_at hl 0 rfl) ?_
    refine lv_iconst (v := 5) hx hb dX4_lineNow_19 (by decide) ?_
    refine lv_bipush (v := 115) hx hb dX4_lineNow_20 (by decide) ?_
    refine lv_bipush (v := 108) hx hb dX4_lineNow_22 (by decide) ?_
    refine lv_bipush (v := 117) hx hb dX4_lineNow_24 (by decide) ?_
    refine lv_bipush (v := 109) hx hb dX4_lineNow_26 (by decide) ?_
    refine q_cVi (As := [.int 5, .int 115, .int 108, .int 117, .int 109]) (rest := []) ⟨hx, hb, hml, hown, hts⟩ hK (c_X4_is l D kc a (5 : Int32) (115 : Int32) (108 : Int32) (117 : Int32) (109 : Int32) mo1 lo2 H.size _ h) (cwV 5 hts gX4_lineNow_X4_is rfl rfl rfl (by decide +kernel) ⟨Nat.le_of_ble_eq_true rfl, Nat.le_of_ble_eq_true rfl⟩) (cut_same (fun u : S2 × SL => cM kc a u.1 u.2) (mo1, lo2)) hP hD hS hA 4 0 rfl rfl rfl hl.1 rfl (Nat.le_of_ble_eq_true rfl) dX4_lineNow_28 ⟨Nat.zero_le _, Nat.zero_le _⟩ (fun r8 u9 H locs h hP hD hS => ?_)
    obtain ⟨mo6, lo7⟩ := u9
    have hP : va_P D vwCl (cM kc a mo6 lo7) H := hP
    have hD : va_D A (cM kc a mo6 lo7) := hD
    refine jn_elim h (fun J49 eJ49 h => ?_)
    have hJ_49 : ∀ (mo10 : S2) (lo11 : SL) (ls : Array Slot) (H : Heap) (locs : List Loc), J49 mo10 lo11 → lv_has ls 1 [(0, .ref (a 0))] → va_P D vwCl (cM kc a mo10 lo11) H → va_D A (cM kc a mo10 lo11) → va_S A s.heap H locs → W p l e rm_X4_lineNow s m args below meth c H locs 0 0 Q (F0 m 49 ls []) := by
      intro mo10 lo11 ls H locs h hl hP hD hS
      subst eJ49
      refine lv_aload_n hx hb dX4_lineNow_49 rfl (lv_at hl 0 rfl) ?_
      refine lv_iconst (v := 4) hx hb dX4_lineNow_50 (by decide) ?_
      refine lv_bipush (v := 99) hx hb dX4_lineNow_51 (by decide) ?_
      refine lv_bipush (v := 111) hx hb dX4_lineNow_53 (by decide) ?_
      refine lv_bipush (v := 105) hx hb dX4_lineNow_55 (by decide) ?_
      refine lv_bipush (v := 110) hx hb dX4_lineNow_57 (by decide) ?_
      refine q_cVi (As := [.int 4, .int 99, .int 111, .int 105, .int 110]) (rest := []) ⟨hx, hb, hml, hown, hts⟩ hK (c_X4_is l D kc a (4 : Int32) (99 : Int32) (111 : Int32) (105 : Int32) (110 : Int32) mo10 lo11 H.size _ h) (cwV 5 hts gX4_lineNow_X4_is rfl rfl rfl (by decide +kernel) ⟨Nat.le_of_ble_eq_true rfl, Nat.le_of_ble_eq_true rfl⟩) (cut_same (fun u : S2 × SL => cM kc a u.1 u.2) (mo10, lo11)) hP hD hS hA 4 0 rfl rfl rfl hl.1 rfl (Nat.le_of_ble_eq_true rfl) dX4_lineNow_59 ⟨Nat.zero_le _, Nat.zero_le _⟩ (fun r14 u15 H locs h hP hD hS => ?_)
      obtain ⟨mo12, lo13⟩ := u15
      have hP : va_P D vwCl (cM kc a mo12 lo13) H := hP
      have hD : va_D A (cM kc a mo12 lo13) := hD
      refine lv_if_eq (tgt := 70) hx hb dX4_lineNow_62 (by decide) (fun c16 => ?_) (fun c16 => ?_)
      · have h := br1 h c16
        refine lv_aload_n hx hb dX4_lineNow_70 rfl (lv_at hl 0 rfl) ?_
        refine q_cVi (As := []) (rest := []) ⟨hx, hb, hml, hown, hts⟩ hK (c_X4_kindNow l D kc a mo12 lo13 H.size _ h) (cwV 0 hts gX4_lineNow_X4_kindNow rfl rfl rfl (by decide +kernel) ⟨Nat.le_of_ble_eq_true rfl, Nat.le_of_ble_eq_true rfl⟩) (cut_same (fun u : S2 × SL => cM kc a u.1 u.2) (mo12, lo13)) hP hD hS hA 4 0 rfl rfl rfl hl.1 rfl (Nat.le_of_ble_eq_true rfl) dX4_lineNow_71 ⟨Nat.zero_le _, Nat.zero_le _⟩ (fun r19 u20 H locs h hP hD hS => ?_)
        obtain ⟨mo17, lo18⟩ := u20
        have hP : va_P D vwCl (cM kc a mo17 lo18) H := hP
        have hD : va_D A (cM kc a mo17 lo18) := hD
        exact hret r19 (mo17, lo18) H locs ls _ h hP hD hS dX4_lineNow_74
      · have h := br2 h c16
        refine lv_bipush (v := 6) hx hb dX4_lineNow_65 (by decide) ?_
        refine lv_goto (tgt := 74) hx hb dX4_lineNow_67 (by decide) ?_
        exact hret 6 (mo12, lo13) H locs ls _ h hP hD hS dX4_lineNow_74
    refine lv_if_eq (tgt := 49) hx hb dX4_lineNow_31 (by decide) (fun c21 => ?_) (fun c21 => ?_)
    · have h := br1 h c21
      exact hJ_49 mo6 lo7 ls H locs h (lv_sub hl [0] rfl) hP hD hS
    · have h := br2 h c21
      refine lv_aload_n hx hb dX4_lineNow_34 rfl (lv_at hl 0 rfl) ?_
      refine lv_bipush (v := 112) hx hb dX4_lineNow_35 (by decide) ?_
      refine lv_iconst (v := 0) hx hb dX4_lineNow_37 (by decide) ?_
      refine lv_iconst (v := 0) hx hb dX4_lineNow_38 (by decide) ?_
      refine q_cVi (As := [.int 112, .int 0, .int 0]) (rest := []) ⟨hx, hb, hml, hown, hts⟩ hK (c_X4_ends l D kc a (112 : Int32) (0 : Int32) (0 : Int32) mo6 lo7 H.size _ h) (cwV 3 hts gX4_lineNow_X4_ends rfl rfl rfl (by decide +kernel) ⟨Nat.le_of_ble_eq_true rfl, Nat.le_of_ble_eq_true rfl⟩) (cut_same (fun u : S2 × SL => cM kc a u.1 u.2) (mo6, lo7)) hP hD hS hA 4 0 rfl rfl rfl hl.1 rfl (Nat.le_of_ble_eq_true rfl) dX4_lineNow_39 ⟨Nat.zero_le _, Nat.zero_le _⟩ (fun r24 u25 H locs h hP hD hS => ?_)
      obtain ⟨mo22, lo23⟩ := u25
      have hP : va_P D vwCl (cM kc a mo22 lo23) H := hP
      have hD : va_D A (cM kc a mo22 lo23) := hD
      refine lv_if_eq (tgt := 49) hx hb dX4_lineNow_42 (by decide) (fun c26 => ?_) (fun c26 => ?_)
      · have h := br1 h c26
        exact hJ_49 mo22 lo23 ls H locs h (lv_sub hl [0] rfl) hP hD hS
      · have h := br2 h c26
        refine lv_iconst (v := 5) hx hb dX4_lineNow_45 (by decide) ?_
        refine lv_goto (tgt := 74) hx hb dX4_lineNow_46 (by decide) ?_
        exact hret 5 (mo22, lo23) H locs ls _ h hP hD hS dX4_lineNow_74
  · have h := br2 h c5
    refine lv_iconst (v := 4) hx hb dX4_lineNow_16 (by decide) ?_
    exact hret 4 (mo1, lo2) H locs ls _ h hP hD hS dX4_lineNow_17

def w_X4_takes (mo : S2) (lo : SL) (K : S2 → SL → Prop) : Prop := br ((mo 0 15) ≤ 0) (lfp2 (fun G8 (mo2 : S2) (lo3 : SL) => w_X4_byteAt (mo2 0 11) mo2 lo3 (fun r6 mo4 lo5 => br (r6 = 32) (nm ((va_up mo4 0 (upd (mo4 0) 11 ((mo4 0 11) + 1))) : S2) (fun mo66 => G8 mo66 lo5)) (nm ((va_up mo4 0 (upd (mo4 0) 12 (mo4 0 11))) : S2) (fun mo9 => w_X4_byteAt (mo9 0 11) mo9 lo5 (fun r12 mo10 lo11 => br (0 ≤ r12) (w_X4_in (r12.toInt64) (97 : Int64) (122 : Int64) (fun r15 => br (r15 = 0) (w_X4_in (r12.toInt64) (48 : Int64) (57 : Int64) (fun r18 => br (r18 = 0) (nm ((va_up mo10 0 (upd (mo10 0) 13 3)) : S2) (fun mo21 => jn (fun (k22 : Int32) => w_X4_needs k22 (1 : Int32) mo21 lo11 (fun mo23 lo24 => nm ((va_up mo23 0 (upd (mo23 0) 11 ((mo23 0 11) + 1))) : S2) (fun mo26 => K mo26 lo24))) (fun J260 => br (r12 = 59) (J260 1) (J260 0)))) (nm ((va_up mo10 0 (upd (mo10 0) 13 2)) : S2) (fun mo28 => nm ((va_up mo28 0 (upd (mo28 0) 14 0)) : S2) (fun mo29 => lfp2 (fun G140 (mo30 : S2) (lo31 : SL) => w_X4_byteAt (mo30 0 11) mo30 lo31 (fun r34 mo32 lo33 => w_X4_in (r34.toInt64) (48 : Int64) (57 : Int64) (fun r36 => br (r36 = 0) (jn (fun (k39 : Int32) => w_X4_needs k39 (1 : Int32) mo32 lo33 (fun mo40 lo41 => K mo40 lo41)) (fun J236 => br (2 < ((mo32 0 11) - (mo32 0 12))) (J236 0) (J236 1))) (jn (fun (k44 : Int32) (mo45 : S2) (lo46 : SL) => nm ((va_up mo45 0 (upd (mo45 0) 14 k44)) : S2) (fun mo47 => nm ((va_up mo47 0 (upd (mo47 0) 11 ((mo47 0 11) + 1))) : S2) (fun mo48 => G140 mo48 lo46))) (fun J201 => br (2 ≤ ((mo32 0 11) - (mo32 0 12))) (J201 (mo32 0 14) mo32 lo33) (w_X4_byteAt (mo32 0 11) mo32 lo33 (fun r52 mo50 lo51 => J201 (((10 * (mo32 0 14)) + r52) - 48) mo50 lo51))))))) mo29 lo11))))) (nm ((va_up mo10 0 (upd (mo10 0) 13 1)) : S2) (fun mo54 => lfp2 (fun G82 (mo55 : S2) (lo56 : SL) => w_X4_byteAt (mo55 0 11) mo55 lo56 (fun r59 mo57 lo58 => w_X4_in (r59.toInt64) (97 : Int64) (122 : Int64) (fun r61 => br (r61 = 0) (K mo57 lo58) (nm ((va_up mo57 0 (upd (mo57 0) 11 ((mo57 0 11) + 1))) : S2) (fun mo64 => G82 mo64 lo58))))) mo54 lo11)))) (nm ((va_up mo10 0 (upd (mo10 0) 13 0)) : S2) (fun mo65 => K mo65 lo11))))))) mo lo) (K mo lo)
abbrev rm_X4_takes : Room := { frames := 1, cells := 0, slots := 0, locals := 25 }
set_option maxHeartbeats 4000000 in
set_option maxRecDepth 100000 in
theorem c_X4_takes (l : Launch) (D : va_G) (kc : Nat → ClassId) (a : Nat → Nat) (mo : S2) (lo : SL) (sz : Nat) (K : S2 → SL → Prop) (h : w_X4_takes mo lo K) : MetV l yX4_takes wsX4_takes rm_X4_takes D kc (fun u : S2 × SL => cM kc a u.1 u.2) (mo, lo) [.ref (a 0)] sz (fun u => K u.1 u.2) := by
  refine q_ev (code := cX4_takes) (maxL := 2) (by decide) rfl (Nat.le_of_ble_eq_true rfl) ?_
  intro p e s m args below meth c Q A hx hb hml hts hown hK hA hret ls hl hP hD hS
  have hown : s.vm.findClass RX4 = some m.cls := hown
  have hl : lv_has ls 2 [(0, .ref (a 0))] := hl
  have hP : va_P D vwCl (cM kc a mo lo) s.heap := hP
  have hD : va_D A (cM kc a mo lo) := hD
  have hS : va_S A s.heap s.heap [] := hS
  obtain ⟨H, eH⟩ : ∃ z, z = s.heap := ⟨_, rfl⟩
  obtain ⟨locs, eL⟩ : ∃ z : List Loc, z = [] := ⟨_, rfl⟩
  have hP := q_heap hP eH
  have hS := q_heapS hS eH eL
  refine q_start eH eL ?_
  clear eH eL
  have hi4 : ∀ w ∈ u_ws RX4 TX4 29, w ∈ wsX4_takes := by decide +kernel
  unfold w_X4_takes at h
  refine lv_aload_n hx hb dX4_takes_0 rfl (lv_at hl 0 rfl) ?_
  refine va_get (D := D) (ci := 4) (v := .int (mo 0 15)) (C := RX4) (T := TX4) (N := 29) hx hb hts hi4 hown hK.1 hP 0 rfl rfl 15 (by decide) (hts (.fieldLink RX4 79 "LastPennyModel" "fault" "I") (by decide +kernel)) (fun _ h9 => h9) rfl dX4_takes_1 ?_
  refine lv_if_le (tgt := 8) hx hb dX4_takes_4 (by decide) (fun c1 => ?_) (fun c1 => ?_)
  · have h := br1 h c1
    refine h (fun (mo2 : S2) (lo3 : SL) => ∀ (ls : Array Slot) (H : Heap) (locs : List Loc), lv_has ls 2 [(0, .ref (a 0))] → va_P D vwCl (cM kc a mo2 lo3) H → va_D A (cM kc a mo2 lo3) → va_S A s.heap H locs → W p l e rm_X4_takes s m args below meth c H locs 0 0 Q (F0 m 8 ls [])) ?_ ls H locs (lv_sub hl [0] rfl) hP hD hS
    intro mo2 lo3 h ls H locs hl hP hD hS
    refine lv_aload_n hx hb dX4_takes_8 rfl (lv_at hl 0 rfl) ?_
    refine lv_aload_n hx hb dX4_takes_9 rfl (lv_at hl 0 rfl) ?_
    refine va_get (D := D) (ci := 4) (v := .int (mo2 0 11)) (C := RX4) (T := TX4) (N := 29) hx hb hts hi4 hown hK.1 hP 0 rfl rfl 11 (by decide) (hts (.fieldLink RX4 88 "LastPennyModel" "pos" "I") (by decide +kernel)) (fun _ h9 => h9) rfl dX4_takes_10 ?_
    refine q_cVi (As := [.int (mo2 0 11)]) (rest := []) ⟨hx, hb, hml, hown, hts⟩ hK (c_X4_byteAt l D kc a (mo2 0 11) mo2 lo3 H.size _ h) (cwV 1 hts gX4_takes_X4_byteAt rfl rfl rfl (by decide +kernel) ⟨Nat.le_of_ble_eq_true rfl, Nat.le_of_ble_eq_true rfl⟩) (cut_same (fun u : S2 × SL => cM kc a u.1 u.2) (mo2, lo3)) hP hD hS hA 4 0 rfl rfl rfl hl.1 rfl (Nat.le_of_ble_eq_true rfl) dX4_takes_13 ⟨Nat.zero_le _, Nat.zero_le _⟩ (fun r6 u7 H locs h hP hD hS => ?_)
    obtain ⟨mo4, lo5⟩ := u7
    have hP : va_P D vwCl (cM kc a mo4 lo5) H := hP
    have hD : va_D A (cM kc a mo4 lo5) := hD
    refine lv_bipush (v := 32) hx hb dX4_takes_16 (by decide) ?_
    refine lv_icmp_ne (tgt := 34) hx hb dX4_takes_18 (by decide) (fun c8 => ?_) (fun c8 => ?_)
    · have h := br2 h c8
      refine lv_aload_n hx hb dX4_takes_34 rfl (lv_at hl 0 rfl) ?_
      refine lv_aload_n hx hb dX4_takes_35 rfl (lv_at hl 0 rfl) ?_
      refine va_get (D := D) (ci := 4) (v := .int (mo4 0 11)) (C := RX4) (T := TX4) (N := 29) hx hb hts hi4 hown hK.1 hP 0 rfl rfl 11 (by decide) (hts (.fieldLink RX4 88 "LastPennyModel" "pos" "I") (by decide +kernel)) (fun _ h9 => h9) rfl dX4_takes_36 ?_
      refine va_put (D := D) (ci := 4) (v := .int (mo4 0 11)) (ty := .int) (C := RX4) (T := TX4) (N := 29) hx hb hts hi4 tyX4 tyX4_ok nmX4 hown hK.1 hP hD hS 0 rfl rfl 12 (by decide) (hts (.fieldLink RX4 82 "LastPennyModel" "begun" "I") (by decide +kernel)) (fun _ h9 => h9) rfl (by decide +kernel) rfl rfl (Nat.le_of_ble_eq_true rfl) dX4_takes_39 (fun H locs hP hD hS => ?_)
      obtain ⟨mo9, emo9⟩ : ∃ z, z = (va_up mo4 0 (upd (mo4 0) 12 (mo4 0 11))) := ⟨_, rfl⟩
      have h := nm_out h mo9 emo9
      have hP : va_P D vwCl (cM kc a mo9 lo5) H := q_to hP (by subst emo9; rfl)
      have hD : va_D A (cM kc a mo9 lo5) := q_toD hD (by subst emo9; rfl)
      refine lv_aload_n hx hb dX4_takes_42 rfl (lv_at hl 0 rfl) ?_
      refine lv_aload_n hx hb dX4_takes_43 rfl (lv_at hl 0 rfl) ?_
      refine va_get (D := D) (ci := 4) (v := .int (mo9 0 11)) (C := RX4) (T := TX4) (N := 29) hx hb hts hi4 hown hK.1 hP 0 rfl rfl 11 (by decide) (hts (.fieldLink RX4 88 "LastPennyModel" "pos" "I") (by decide +kernel)) (fun _ h9 => h9) rfl dX4_takes_44 ?_
      refine q_cVi (As := [.int (mo9 0 11)]) (rest := []) ⟨hx, hb, hml, hown, hts⟩ hK (c_X4_byteAt l D kc a (mo9 0 11) mo9 lo5 H.size _ h) (cwV 1 hts gX4_takes_X4_byteAt rfl rfl rfl (by decide +kernel) ⟨Nat.le_of_ble_eq_true rfl, Nat.le_of_ble_eq_true rfl⟩) (cut_same (fun u : S2 × SL => cM kc a u.1 u.2) (mo9, lo5)) hP hD hS hA 4 0 rfl rfl rfl hl.1 rfl (Nat.le_of_ble_eq_true rfl) dX4_takes_47 ⟨Nat.zero_le _, Nat.zero_le _⟩ (fun r12 u13 H locs h hP hD hS => ?_)
      obtain ⟨mo10, lo11⟩ := u13
      have hP : va_P D vwCl (cM kc a mo10 lo11) H := hP
      have hD : va_D A (cM kc a mo10 lo11) := hD
      refine lv_istore_n (lv' := [(1, .int r12), (0, .ref (a 0))]) hx hb dX4_takes_50 rfl hl (by decide) rfl (fun ls hl => ?_)
      refine lv_iload_n hx hb dX4_takes_51 rfl (lv_at hl 0 rfl) ?_
      refine lv_if_ge (tgt := 63) hx hb dX4_takes_52 (by decide) (fun c14 => ?_) (fun c14 => ?_)
      · have h := br1 h c14
        refine lv_iload_n hx hb dX4_takes_63 rfl (lv_at hl 0 rfl) ?_
        refine lv_i2l hx hb dX4_takes_64 rfl ?_
        refine lv_ldc2 (v := 97) hx hb hown (hts (.constantLong RX4 110 (97)) (by decide +kernel)) dX4_takes_65 ?_
        refine lv_ldc2 (v := 122) hx hb hown (hts (.constantLong RX4 112 (122)) (by decide +kernel)) dX4_takes_68 ?_
        refine q_cSi (As := [.long (r12.toInt64), .long 97, .long 122]) (rest := []) ⟨hx, hb, hml, hown, hts⟩ hK (c_X4_in l D kc (r12.toInt64) (97 : Int64) (122 : Int64) H.size _ h) (va_cwS 3 hts gX4_takes_X4_in rfl rfl rfl (by decide +kernel) ⟨Nat.le_of_ble_eq_true rfl, Nat.le_of_ble_eq_true rfl⟩) (cut_nil _) hP hD hS hA rfl hl.1 rfl (Nat.le_of_ble_eq_true rfl) dX4_takes_71 ⟨Nat.zero_le _, Nat.zero_le _⟩ (fun r15 _ H locs h hP hD hS => ?_)
        have hP : va_P D vwCl (cM kc a mo10 lo11) H := hP
        have hD : va_D A (cM kc a mo10 lo11) := hD
        refine lv_if_eq (tgt := 116) hx hb dX4_takes_74 (by decide) (fun c17 => ?_) (fun c17 => ?_)
        · have h := br1 h c17
          refine lv_iload_n hx hb dX4_takes_116 rfl (lv_at hl 0 rfl) ?_
          refine lv_i2l hx hb dX4_takes_117 rfl ?_
          refine lv_ldc2 (v := 48) hx hb hown (hts (.constantLong RX4 114 (48)) (by decide +kernel)) dX4_takes_118 ?_
          refine lv_ldc2 (v := 57) hx hb hown (hts (.constantLong RX4 116 (57)) (by decide +kernel)) dX4_takes_121 ?_
          refine q_cSi (As := [.long (r12.toInt64), .long 48, .long 57]) (rest := []) ⟨hx, hb, hml, hown, hts⟩ hK (c_X4_in l D kc (r12.toInt64) (48 : Int64) (57 : Int64) H.size _ h) (va_cwS 3 hts gX4_takes_X4_in rfl rfl rfl (by decide +kernel) ⟨Nat.le_of_ble_eq_true rfl, Nat.le_of_ble_eq_true rfl⟩) (cut_nil _) hP hD hS hA rfl hl.1 rfl (Nat.le_of_ble_eq_true rfl) dX4_takes_124 ⟨Nat.zero_le _, Nat.zero_le _⟩ (fun r18 _ H locs h hP hD hS => ?_)
          have hP : va_P D vwCl (cM kc a mo10 lo11) H := hP
          have hD : va_D A (cM kc a mo10 lo11) := hD
          refine lv_if_eq (tgt := 243) hx hb dX4_takes_127 (by decide) (fun c20 => ?_) (fun c20 => ?_)
          · have h := br1 h c20
            refine lv_aload_n hx hb dX4_takes_243 rfl (lv_at hl 1 rfl) ?_
            refine lv_iconst (v := 3) hx hb dX4_takes_244 (by decide) ?_
            refine va_put (D := D) (ci := 4) (v := .int 3) (ty := .int) (C := RX4) (T := TX4) (N := 29) hx hb hts hi4 tyX4 tyX4_ok nmX4 hown hK.1 hP hD hS 0 rfl rfl 13 (by decide) (hts (.fieldLink RX4 107 "LastPennyModel" "sort" "I") (by decide +kernel)) (fun _ h9 => h9) rfl (by decide +kernel) rfl rfl (Nat.le_of_ble_eq_true rfl) dX4_takes_245 (fun H locs hP hD hS => ?_)
            obtain ⟨mo21, emo21⟩ : ∃ z, z = (va_up mo10 0 (upd (mo10 0) 13 3)) := ⟨_, rfl⟩
            have h := nm_out h mo21 emo21
            have hP : va_P D vwCl (cM kc a mo21 lo11) H := q_to hP (by subst emo21; rfl)
            have hD : va_D A (cM kc a mo21 lo11) := q_toD hD (by subst emo21; rfl)
            refine lv_aload_n hx hb dX4_takes_248 rfl (lv_at hl 1 rfl) ?_
            refine lv_iload_n hx hb dX4_takes_249 rfl (lv_at hl 0 rfl) ?_
            refine lv_bipush (v := 59) hx hb dX4_takes_250 (by decide) ?_
            refine jn_elim h (fun J260 eJ260 h => ?_)
            have hJ_260 : ∀ (k22 : Int32) (ls : Array Slot), J260 k22 → lv_has ls 2 [(0, .ref (a 0))] → W p l e rm_X4_takes s m args below meth c H locs 0 0 Q (F0 m 260 ls [.int k22, .ref (a 0)]) := by
              intro k22 ls h hl
              subst eJ260
              refine lv_iconst (v := 1) hx hb dX4_takes_260 (by decide) ?_
              refine q_cVv (As := [.int k22, .int 1]) (rest := []) ⟨hx, hb, hml, hown, hts⟩ hK (c_X4_needs l D kc a k22 (1 : Int32) mo21 lo11 H.size _ h) (cwV 2 hts gX4_takes_X4_needs rfl rfl rfl (by decide +kernel) ⟨Nat.le_of_ble_eq_true rfl, Nat.le_of_ble_eq_true rfl⟩) (cut_same (fun u : S2 × SL => cM kc a u.1 u.2) (mo21, lo11)) hP hD hS hA 4 0 rfl rfl rfl hl.1 rfl (Nat.le_of_ble_eq_true rfl) dX4_takes_261 ⟨Nat.zero_le _, Nat.zero_le _⟩ (fun u25 H locs h hP hD hS => ?_)
              obtain ⟨mo23, lo24⟩ := u25
              have hP : va_P D vwCl (cM kc a mo23 lo24) H := hP
              have hD : va_D A (cM kc a mo23 lo24) := hD
              refine lv_aload_n hx hb dX4_takes_264 rfl (lv_at hl 0 rfl) ?_
              refine lv_dup hx hb dX4_takes_265 rfl ?_
              refine va_get (D := D) (ci := 4) (v := .int (mo23 0 11)) (C := RX4) (T := TX4) (N := 29) hx hb hts hi4 hown hK.1 hP 0 rfl rfl 11 (by decide) (hts (.fieldLink RX4 88 "LastPennyModel" "pos" "I") (by decide +kernel)) (fun _ h9 => h9) rfl dX4_takes_266 ?_
              refine lv_iconst (v := 1) hx hb dX4_takes_269 (by decide) ?_
              refine lv_iadd hx hb dX4_takes_270 ?_
              refine va_put (D := D) (ci := 4) (v := .int ((mo23 0 11) + 1)) (ty := .int) (C := RX4) (T := TX4) (N := 29) hx hb hts hi4 tyX4 tyX4_ok nmX4 hown hK.1 hP hD hS 0 rfl rfl 11 (by decide) (hts (.fieldLink RX4 88 "LastPennyModel" "pos" "I") (by decide +kernel)) (fun _ h9 => h9) rfl (by decide +kernel) rfl rfl (Nat.le_of_ble_eq_true rfl) dX4_takes_271 (fun H locs hP hD hS => ?_)
              obtain ⟨mo26, emo26⟩ : ∃ z, z = (va_up mo23 0 (upd (mo23 0) 11 ((mo23 0 11) + 1))) := ⟨_, rfl⟩
              have h := nm_out h mo26 emo26
              have hP : va_P D vwCl (cM kc a mo26 lo24) H := q_to hP (by subst emo26; rfl)
              have hD : va_D A (cM kc a mo26 lo24) := q_toD hD (by subst emo26; rfl)
              exact hret (mo26, lo24) H locs ls _ h hP hD hS dX4_takes_274
            refine lv_icmp_ne (tgt := 259) hx hb dX4_takes_252 (by decide) (fun c27 => ?_) (fun c27 => ?_)
            · have h := br2 h c27
              refine lv_iconst (v := 0) hx hb dX4_takes_259 (by decide) ?_
              exact hJ_260 0 ls h (lv_sub hl [1] rfl)
            · have h := br1 h c27
              refine lv_iconst (v := 1) hx hb dX4_takes_255 (by decide) ?_
              refine lv_goto (tgt := 260) hx hb dX4_takes_256 (by decide) ?_
              exact hJ_260 1 ls h (lv_sub hl [1] rfl)
          · have h := br2 h c20
            refine lv_aload_n hx hb dX4_takes_130 rfl (lv_at hl 1 rfl) ?_
            refine lv_iconst (v := 2) hx hb dX4_takes_131 (by decide) ?_
            refine va_put (D := D) (ci := 4) (v := .int 2) (ty := .int) (C := RX4) (T := TX4) (N := 29) hx hb hts hi4 tyX4 tyX4_ok nmX4 hown hK.1 hP hD hS 0 rfl rfl 13 (by decide) (hts (.fieldLink RX4 107 "LastPennyModel" "sort" "I") (by decide +kernel)) (fun _ h9 => h9) rfl (by decide +kernel) rfl rfl (Nat.le_of_ble_eq_true rfl) dX4_takes_132 (fun H locs hP hD hS => ?_)
            obtain ⟨mo28, emo28⟩ : ∃ z, z = (va_up mo10 0 (upd (mo10 0) 13 2)) := ⟨_, rfl⟩
            have h := nm_out h mo28 emo28
            have hP : va_P D vwCl (cM kc a mo28 lo11) H := q_to hP (by subst emo28; rfl)
            have hD : va_D A (cM kc a mo28 lo11) := q_toD hD (by subst emo28; rfl)
            refine lv_aload_n hx hb dX4_takes_135 rfl (lv_at hl 1 rfl) ?_
            refine lv_iconst (v := 0) hx hb dX4_takes_136 (by decide) ?_
            refine va_put (D := D) (ci := 4) (v := .int 0) (ty := .int) (C := RX4) (T := TX4) (N := 29) hx hb hts hi4 tyX4 tyX4_ok nmX4 hown hK.1 hP hD hS 0 rfl rfl 14 (by decide) (hts (.fieldLink RX4 118 "LastPennyModel" "value" "I") (by decide +kernel)) (fun _ h9 => h9) rfl (by decide +kernel) rfl rfl (Nat.le_of_ble_eq_true rfl) dX4_takes_137 (fun H locs hP hD hS => ?_)
            obtain ⟨mo29, emo29⟩ : ∃ z, z = (va_up mo28 0 (upd (mo28 0) 14 0)) := ⟨_, rfl⟩
            have h := nm_out h mo29 emo29
            have hP : va_P D vwCl (cM kc a mo29 lo11) H := q_to hP (by subst emo29; rfl)
            have hD : va_D A (cM kc a mo29 lo11) := q_toD hD (by subst emo29; rfl)
            refine h (fun (mo30 : S2) (lo31 : SL) => ∀ (ls : Array Slot) (H : Heap) (locs : List Loc), lv_has ls 2 [(0, .ref (a 0))] → va_P D vwCl (cM kc a mo30 lo31) H → va_D A (cM kc a mo30 lo31) → va_S A s.heap H locs → W p l e rm_X4_takes s m args below meth c H locs 0 0 Q (F0 m 140 ls [])) ?_ ls H locs (lv_sub hl [1] rfl) hP hD hS
            intro mo30 lo31 h ls H locs hl hP hD hS
            refine lv_aload_n hx hb dX4_takes_140 rfl (lv_at hl 0 rfl) ?_
            refine lv_aload_n hx hb dX4_takes_141 rfl (lv_at hl 0 rfl) ?_
            refine va_get (D := D) (ci := 4) (v := .int (mo30 0 11)) (C := RX4) (T := TX4) (N := 29) hx hb hts hi4 hown hK.1 hP 0 rfl rfl 11 (by decide) (hts (.fieldLink RX4 88 "LastPennyModel" "pos" "I") (by decide +kernel)) (fun _ h9 => h9) rfl dX4_takes_142 ?_
            refine q_cVi (As := [.int (mo30 0 11)]) (rest := []) ⟨hx, hb, hml, hown, hts⟩ hK (c_X4_byteAt l D kc a (mo30 0 11) mo30 lo31 H.size _ h) (cwV 1 hts gX4_takes_X4_byteAt rfl rfl rfl (by decide +kernel) ⟨Nat.le_of_ble_eq_true rfl, Nat.le_of_ble_eq_true rfl⟩) (cut_same (fun u : S2 × SL => cM kc a u.1 u.2) (mo30, lo31)) hP hD hS hA 4 0 rfl rfl rfl hl.1 rfl (Nat.le_of_ble_eq_true rfl) dX4_takes_145 ⟨Nat.zero_le _, Nat.zero_le _⟩ (fun r34 u35 H locs h hP hD hS => ?_)
            obtain ⟨mo32, lo33⟩ := u35
            have hP : va_P D vwCl (cM kc a mo32 lo33) H := hP
            have hD : va_D A (cM kc a mo32 lo33) := hD
            refine lv_i2l hx hb dX4_takes_148 rfl ?_
            refine lv_ldc2 (v := 48) hx hb hown (hts (.constantLong RX4 114 (48)) (by decide +kernel)) dX4_takes_149 ?_
            refine lv_ldc2 (v := 57) hx hb hown (hts (.constantLong RX4 116 (57)) (by decide +kernel)) dX4_takes_152 ?_
            refine q_cSi (As := [.long (r34.toInt64), .long 48, .long 57]) (rest := []) ⟨hx, hb, hml, hown, hts⟩ hK (c_X4_in l D kc (r34.toInt64) (48 : Int64) (57 : Int64) H.size _ h) (va_cwS 3 hts gX4_takes_X4_in rfl rfl rfl (by decide +kernel) ⟨Nat.le_of_ble_eq_true rfl, Nat.le_of_ble_eq_true rfl⟩) (cut_nil _) hP hD hS hA rfl hl.1 rfl (Nat.le_of_ble_eq_true rfl) dX4_takes_155 ⟨Nat.zero_le _, Nat.zero_le _⟩ (fun r36 _ H locs h hP hD hS => ?_)
            have hP : va_P D vwCl (cM kc a mo32 lo33) H := hP
            have hD : va_D A (cM kc a mo32 lo33) := hD
            refine lv_if_eq (tgt := 217) hx hb dX4_takes_158 (by decide) (fun c38 => ?_) (fun c38 => ?_)
            · have h := br1 h c38
              refine lv_aload_n hx hb dX4_takes_217 rfl (lv_at hl 0 rfl) ?_
              refine lv_aload_n hx hb dX4_takes_218 rfl (lv_at hl 0 rfl) ?_
              refine va_get (D := D) (ci := 4) (v := .int (mo32 0 11)) (C := RX4) (T := TX4) (N := 29) hx hb hts hi4 hown hK.1 hP 0 rfl rfl 11 (by decide) (hts (.fieldLink RX4 88 "LastPennyModel" "pos" "I") (by decide +kernel)) (fun _ h9 => h9) rfl dX4_takes_219 ?_
              refine lv_aload_n hx hb dX4_takes_222 rfl (lv_at hl 0 rfl) ?_
              refine va_get (D := D) (ci := 4) (v := .int (mo32 0 12)) (C := RX4) (T := TX4) (N := 29) hx hb hts hi4 hown hK.1 hP 0 rfl rfl 12 (by decide) (hts (.fieldLink RX4 82 "LastPennyModel" "begun" "I") (by decide +kernel)) (fun _ h9 => h9) rfl dX4_takes_223 ?_
              refine lv_isub hx hb dX4_takes_226 ?_
              refine lv_iconst (v := 2) hx hb dX4_takes_227 (by decide) ?_
              refine jn_elim h (fun J236 eJ236 h => ?_)
              have hJ_236 : ∀ (k39 : Int32) (ls : Array Slot), J236 k39 → lv_has ls 2 [] → W p l e rm_X4_takes s m args below meth c H locs 0 0 Q (F0 m 236 ls [.int k39, .ref (a 0)]) := by
                intro k39 ls h hl
                subst eJ236
                refine lv_iconst (v := 1) hx hb dX4_takes_236 (by decide) ?_
                refine q_cVv (As := [.int k39, .int 1]) (rest := []) ⟨hx, hb, hml, hown, hts⟩ hK (c_X4_needs l D kc a k39 (1 : Int32) mo32 lo33 H.size _ h) (cwV 2 hts gX4_takes_X4_needs rfl rfl rfl (by decide +kernel) ⟨Nat.le_of_ble_eq_true rfl, Nat.le_of_ble_eq_true rfl⟩) (cut_same (fun u : S2 × SL => cM kc a u.1 u.2) (mo32, lo33)) hP hD hS hA 4 0 rfl rfl rfl hl.1 rfl (Nat.le_of_ble_eq_true rfl) dX4_takes_237 ⟨Nat.zero_le _, Nat.zero_le _⟩ (fun u42 H locs h hP hD hS => ?_)
                obtain ⟨mo40, lo41⟩ := u42
                have hP : va_P D vwCl (cM kc a mo40 lo41) H := hP
                have hD : va_D A (cM kc a mo40 lo41) := hD
                refine lv_goto (tgt := 274) hx hb dX4_takes_240 (by decide) ?_
                exact hret (mo40, lo41) H locs ls _ h hP hD hS dX4_takes_274
              refine lv_icmp_gt (tgt := 235) hx hb dX4_takes_228 (by decide) (fun c43 => ?_) (fun c43 => ?_)
              · have h := br1 h c43
                refine lv_iconst (v := 0) hx hb dX4_takes_235 (by decide) ?_
                exact hJ_236 0 ls h (lv_sub hl [] rfl)
              · have h := br2 h c43
                refine lv_iconst (v := 1) hx hb dX4_takes_231 (by decide) ?_
                refine lv_goto (tgt := 236) hx hb dX4_takes_232 (by decide) ?_
                exact hJ_236 1 ls h (lv_sub hl [] rfl)
            · have h := br2 h c38
              refine lv_aload_n hx hb dX4_takes_161 rfl (lv_at hl 0 rfl) ?_
              refine lv_aload_n hx hb dX4_takes_162 rfl (lv_at hl 0 rfl) ?_
              refine va_get (D := D) (ci := 4) (v := .int (mo32 0 11)) (C := RX4) (T := TX4) (N := 29) hx hb hts hi4 hown hK.1 hP 0 rfl rfl 11 (by decide) (hts (.fieldLink RX4 88 "LastPennyModel" "pos" "I") (by decide +kernel)) (fun _ h9 => h9) rfl dX4_takes_163 ?_
              refine lv_aload_n hx hb dX4_takes_166 rfl (lv_at hl 0 rfl) ?_
              refine va_get (D := D) (ci := 4) (v := .int (mo32 0 12)) (C := RX4) (T := TX4) (N := 29) hx hb hts hi4 hown hK.1 hP 0 rfl rfl 12 (by decide) (hts (.fieldLink RX4 82 "LastPennyModel" "begun" "I") (by decide +kernel)) (fun _ h9 => h9) rfl dX4_takes_167 ?_
              refine lv_isub hx hb dX4_takes_170 ?_
              refine lv_iconst (v := 2) hx hb dX4_takes_171 (by decide) ?_
              refine jn_elim h (fun J201 eJ201 h => ?_)
              have hJ_201 : ∀ (k44 : Int32) (mo45 : S2) (lo46 : SL) (ls : Array Slot) (H : Heap) (locs : List Loc), J201 k44 mo45 lo46 → lv_has ls 2 [(0, .ref (a 0))] → va_P D vwCl (cM kc a mo45 lo46) H → va_D A (cM kc a mo45 lo46) → va_S A s.heap H locs → W p l e rm_X4_takes s m args below meth c H locs 0 0 Q (F0 m 201 ls [.int k44, .ref (a 0)]) := by
                intro k44 mo45 lo46 ls H locs h hl hP hD hS
                subst eJ201
                refine va_put (D := D) (ci := 4) (v := .int k44) (ty := .int) (C := RX4) (T := TX4) (N := 29) hx hb hts hi4 tyX4 tyX4_ok nmX4 hown hK.1 hP hD hS 0 rfl rfl 14 (by decide) (hts (.fieldLink RX4 118 "LastPennyModel" "value" "I") (by decide +kernel)) (fun _ h9 => h9) rfl (by decide +kernel) rfl rfl (Nat.le_of_ble_eq_true rfl) dX4_takes_201 (fun H locs hP hD hS => ?_)
                obtain ⟨mo47, emo47⟩ : ∃ z, z = (va_up mo45 0 (upd (mo45 0) 14 k44)) := ⟨_, rfl⟩
                have h := nm_out h mo47 emo47
                have hP : va_P D vwCl (cM kc a mo47 lo46) H := q_to hP (by subst emo47; rfl)
                have hD : va_D A (cM kc a mo47 lo46) := q_toD hD (by subst emo47; rfl)
                refine lv_aload_n hx hb dX4_takes_204 rfl (lv_at hl 0 rfl) ?_
                refine lv_dup hx hb dX4_takes_205 rfl ?_
                refine va_get (D := D) (ci := 4) (v := .int (mo47 0 11)) (C := RX4) (T := TX4) (N := 29) hx hb hts hi4 hown hK.1 hP 0 rfl rfl 11 (by decide) (hts (.fieldLink RX4 88 "LastPennyModel" "pos" "I") (by decide +kernel)) (fun _ h9 => h9) rfl dX4_takes_206 ?_
                refine lv_iconst (v := 1) hx hb dX4_takes_209 (by decide) ?_
                refine lv_iadd hx hb dX4_takes_210 ?_
                refine va_put (D := D) (ci := 4) (v := .int ((mo47 0 11) + 1)) (ty := .int) (C := RX4) (T := TX4) (N := 29) hx hb hts hi4 tyX4 tyX4_ok nmX4 hown hK.1 hP hD hS 0 rfl rfl 11 (by decide) (hts (.fieldLink RX4 88 "LastPennyModel" "pos" "I") (by decide +kernel)) (fun _ h9 => h9) rfl (by decide +kernel) rfl rfl (Nat.le_of_ble_eq_true rfl) dX4_takes_211 (fun H locs hP hD hS => ?_)
                obtain ⟨mo48, emo48⟩ : ∃ z, z = (va_up mo47 0 (upd (mo47 0) 11 ((mo47 0 11) + 1))) := ⟨_, rfl⟩
                have h := nm_out h mo48 emo48
                have hP : va_P D vwCl (cM kc a mo48 lo46) H := q_to hP (by subst emo48; rfl)
                have hD : va_D A (cM kc a mo48 lo46) := q_toD hD (by subst emo48; rfl)
                refine lv_goto (tgt := 140) hx hb dX4_takes_214 (by decide) ?_
                exact h ls H locs (lv_sub hl [0] rfl) hP hD hS
              refine lv_icmp_ge (tgt := 197) hx hb dX4_takes_172 (by decide) (fun c49 => ?_) (fun c49 => ?_)
              · have h := br1 h c49
                refine lv_aload_n hx hb dX4_takes_197 rfl (lv_at hl 0 rfl) ?_
                refine va_get (D := D) (ci := 4) (v := .int (mo32 0 14)) (C := RX4) (T := TX4) (N := 29) hx hb hts hi4 hown hK.1 hP 0 rfl rfl 14 (by decide) (hts (.fieldLink RX4 118 "LastPennyModel" "value" "I") (by decide +kernel)) (fun _ h9 => h9) rfl dX4_takes_198 ?_
                exact hJ_201 (mo32 0 14) mo32 lo33 ls H locs h (lv_sub hl [0] rfl) hP hD hS
              · have h := br2 h c49
                refine lv_bipush (v := 10) hx hb dX4_takes_175 (by decide) ?_
                refine lv_aload_n hx hb dX4_takes_177 rfl (lv_at hl 0 rfl) ?_
                refine va_get (D := D) (ci := 4) (v := .int (mo32 0 14)) (C := RX4) (T := TX4) (N := 29) hx hb hts hi4 hown hK.1 hP 0 rfl rfl 14 (by decide) (hts (.fieldLink RX4 118 "LastPennyModel" "value" "I") (by decide +kernel)) (fun _ h9 => h9) rfl dX4_takes_178 ?_
                refine lv_imul hx hb dX4_takes_181 ?_
                refine lv_aload_n hx hb dX4_takes_182 rfl (lv_at hl 0 rfl) ?_
                refine lv_aload_n hx hb dX4_takes_183 rfl (lv_at hl 0 rfl) ?_
                refine va_get (D := D) (ci := 4) (v := .int (mo32 0 11)) (C := RX4) (T := TX4) (N := 29) hx hb hts hi4 hown hK.1 hP 0 rfl rfl 11 (by decide) (hts (.fieldLink RX4 88 "LastPennyModel" "pos" "I") (by decide +kernel)) (fun _ h9 => h9) rfl dX4_takes_184 ?_
                refine q_cVi (As := [.int (mo32 0 11)]) (rest := [.int (10 * (mo32 0 14)), .ref (a 0)]) ⟨hx, hb, hml, hown, hts⟩ hK (c_X4_byteAt l D kc a (mo32 0 11) mo32 lo33 H.size _ h) (cwV 1 hts gX4_takes_X4_byteAt rfl rfl rfl (by decide +kernel) ⟨Nat.le_of_ble_eq_true rfl, Nat.le_of_ble_eq_true rfl⟩) (cut_same (fun u : S2 × SL => cM kc a u.1 u.2) (mo32, lo33)) hP hD hS hA 4 0 rfl rfl rfl hl.1 rfl (Nat.le_of_ble_eq_true rfl) dX4_takes_187 ⟨Nat.zero_le _, Nat.zero_le _⟩ (fun r52 u53 H locs h hP hD hS => ?_)
                obtain ⟨mo50, lo51⟩ := u53
                have hP : va_P D vwCl (cM kc a mo50 lo51) H := hP
                have hD : va_D A (cM kc a mo50 lo51) := hD
                refine lv_iadd hx hb dX4_takes_190 ?_
                refine lv_bipush (v := 48) hx hb dX4_takes_191 (by decide) ?_
                refine lv_isub hx hb dX4_takes_193 ?_
                refine lv_goto (tgt := 201) hx hb dX4_takes_194 (by decide) ?_
                exact hJ_201 (((10 * (mo32 0 14)) + r52) - 48) mo50 lo51 ls H locs h (lv_sub hl [0] rfl) hP hD hS
        · have h := br2 h c17
          refine lv_aload_n hx hb dX4_takes_77 rfl (lv_at hl 1 rfl) ?_
          refine lv_iconst (v := 1) hx hb dX4_takes_78 (by decide) ?_
          refine va_put (D := D) (ci := 4) (v := .int 1) (ty := .int) (C := RX4) (T := TX4) (N := 29) hx hb hts hi4 tyX4 tyX4_ok nmX4 hown hK.1 hP hD hS 0 rfl rfl 13 (by decide) (hts (.fieldLink RX4 107 "LastPennyModel" "sort" "I") (by decide +kernel)) (fun _ h9 => h9) rfl (by decide +kernel) rfl rfl (Nat.le_of_ble_eq_true rfl) dX4_takes_79 (fun H locs hP hD hS => ?_)
          obtain ⟨mo54, emo54⟩ : ∃ z, z = (va_up mo10 0 (upd (mo10 0) 13 1)) := ⟨_, rfl⟩
          have h := nm_out h mo54 emo54
          have hP : va_P D vwCl (cM kc a mo54 lo11) H := q_to hP (by subst emo54; rfl)
          have hD : va_D A (cM kc a mo54 lo11) := q_toD hD (by subst emo54; rfl)
          refine h (fun (mo55 : S2) (lo56 : SL) => ∀ (ls : Array Slot) (H : Heap) (locs : List Loc), lv_has ls 2 [(0, .ref (a 0))] → va_P D vwCl (cM kc a mo55 lo56) H → va_D A (cM kc a mo55 lo56) → va_S A s.heap H locs → W p l e rm_X4_takes s m args below meth c H locs 0 0 Q (F0 m 82 ls [])) ?_ ls H locs (lv_sub hl [1] rfl) hP hD hS
          intro mo55 lo56 h ls H locs hl hP hD hS
          refine lv_aload_n hx hb dX4_takes_82 rfl (lv_at hl 0 rfl) ?_
          refine lv_aload_n hx hb dX4_takes_83 rfl (lv_at hl 0 rfl) ?_
          refine va_get (D := D) (ci := 4) (v := .int (mo55 0 11)) (C := RX4) (T := TX4) (N := 29) hx hb hts hi4 hown hK.1 hP 0 rfl rfl 11 (by decide) (hts (.fieldLink RX4 88 "LastPennyModel" "pos" "I") (by decide +kernel)) (fun _ h9 => h9) rfl dX4_takes_84 ?_
          refine q_cVi (As := [.int (mo55 0 11)]) (rest := []) ⟨hx, hb, hml, hown, hts⟩ hK (c_X4_byteAt l D kc a (mo55 0 11) mo55 lo56 H.size _ h) (cwV 1 hts gX4_takes_X4_byteAt rfl rfl rfl (by decide +kernel) ⟨Nat.le_of_ble_eq_true rfl, Nat.le_of_ble_eq_true rfl⟩) (cut_same (fun u : S2 × SL => cM kc a u.1 u.2) (mo55, lo56)) hP hD hS hA 4 0 rfl rfl rfl hl.1 rfl (Nat.le_of_ble_eq_true rfl) dX4_takes_87 ⟨Nat.zero_le _, Nat.zero_le _⟩ (fun r59 u60 H locs h hP hD hS => ?_)
          obtain ⟨mo57, lo58⟩ := u60
          have hP : va_P D vwCl (cM kc a mo57 lo58) H := hP
          have hD : va_D A (cM kc a mo57 lo58) := hD
          refine lv_i2l hx hb dX4_takes_90 rfl ?_
          refine lv_ldc2 (v := 97) hx hb hown (hts (.constantLong RX4 110 (97)) (by decide +kernel)) dX4_takes_91 ?_
          refine lv_ldc2 (v := 122) hx hb hown (hts (.constantLong RX4 112 (122)) (by decide +kernel)) dX4_takes_94 ?_
          refine q_cSi (As := [.long (r59.toInt64), .long 97, .long 122]) (rest := []) ⟨hx, hb, hml, hown, hts⟩ hK (c_X4_in l D kc (r59.toInt64) (97 : Int64) (122 : Int64) H.size _ h) (va_cwS 3 hts gX4_takes_X4_in rfl rfl rfl (by decide +kernel) ⟨Nat.le_of_ble_eq_true rfl, Nat.le_of_ble_eq_true rfl⟩) (cut_nil _) hP hD hS hA rfl hl.1 rfl (Nat.le_of_ble_eq_true rfl) dX4_takes_97 ⟨Nat.zero_le _, Nat.zero_le _⟩ (fun r61 _ H locs h hP hD hS => ?_)
          have hP : va_P D vwCl (cM kc a mo57 lo58) H := hP
          have hD : va_D A (cM kc a mo57 lo58) := hD
          refine lv_if_eq (tgt := 274) hx hb dX4_takes_100 (by decide) (fun c63 => ?_) (fun c63 => ?_)
          · have h := br1 h c63
            exact hret (mo57, lo58) H locs ls _ h hP hD hS dX4_takes_274
          · have h := br2 h c63
            refine lv_aload_n hx hb dX4_takes_103 rfl (lv_at hl 0 rfl) ?_
            refine lv_dup hx hb dX4_takes_104 rfl ?_
            refine va_get (D := D) (ci := 4) (v := .int (mo57 0 11)) (C := RX4) (T := TX4) (N := 29) hx hb hts hi4 hown hK.1 hP 0 rfl rfl 11 (by decide) (hts (.fieldLink RX4 88 "LastPennyModel" "pos" "I") (by decide +kernel)) (fun _ h9 => h9) rfl dX4_takes_105 ?_
            refine lv_iconst (v := 1) hx hb dX4_takes_108 (by decide) ?_
            refine lv_iadd hx hb dX4_takes_109 ?_
            refine va_put (D := D) (ci := 4) (v := .int ((mo57 0 11) + 1)) (ty := .int) (C := RX4) (T := TX4) (N := 29) hx hb hts hi4 tyX4 tyX4_ok nmX4 hown hK.1 hP hD hS 0 rfl rfl 11 (by decide) (hts (.fieldLink RX4 88 "LastPennyModel" "pos" "I") (by decide +kernel)) (fun _ h9 => h9) rfl (by decide +kernel) rfl rfl (Nat.le_of_ble_eq_true rfl) dX4_takes_110 (fun H locs hP hD hS => ?_)
            obtain ⟨mo64, emo64⟩ : ∃ z, z = (va_up mo57 0 (upd (mo57 0) 11 ((mo57 0 11) + 1))) := ⟨_, rfl⟩
            have h := nm_out h mo64 emo64
            have hP : va_P D vwCl (cM kc a mo64 lo58) H := q_to hP (by subst emo64; rfl)
            have hD : va_D A (cM kc a mo64 lo58) := q_toD hD (by subst emo64; rfl)
            refine lv_goto (tgt := 82) hx hb dX4_takes_113 (by decide) ?_
            exact h ls H locs (lv_sub hl [0] rfl) hP hD hS
      · have h := br2 h c14
        refine lv_aload_n hx hb dX4_takes_55 rfl (lv_at hl 1 rfl) ?_
        refine lv_iconst (v := 0) hx hb dX4_takes_56 (by decide) ?_
        refine va_put (D := D) (ci := 4) (v := .int 0) (ty := .int) (C := RX4) (T := TX4) (N := 29) hx hb hts hi4 tyX4 tyX4_ok nmX4 hown hK.1 hP hD hS 0 rfl rfl 13 (by decide) (hts (.fieldLink RX4 107 "LastPennyModel" "sort" "I") (by decide +kernel)) (fun _ h9 => h9) rfl (by decide +kernel) rfl rfl (Nat.le_of_ble_eq_true rfl) dX4_takes_57 (fun H locs hP hD hS => ?_)
        obtain ⟨mo65, emo65⟩ : ∃ z, z = (va_up mo10 0 (upd (mo10 0) 13 0)) := ⟨_, rfl⟩
        have h := nm_out h mo65 emo65
        have hP : va_P D vwCl (cM kc a mo65 lo11) H := q_to hP (by subst emo65; rfl)
        have hD : va_D A (cM kc a mo65 lo11) := q_toD hD (by subst emo65; rfl)
        refine lv_goto (tgt := 274) hx hb dX4_takes_60 (by decide) ?_
        exact hret (mo65, lo11) H locs ls _ h hP hD hS dX4_takes_274
    · have h := br1 h c8
      refine lv_aload_n hx hb dX4_takes_21 rfl (lv_at hl 0 rfl) ?_
      refine lv_dup hx hb dX4_takes_22 rfl ?_
      refine va_get (D := D) (ci := 4) (v := .int (mo4 0 11)) (C := RX4) (T := TX4) (N := 29) hx hb hts hi4 hown hK.1 hP 0 rfl rfl 11 (by decide) (hts (.fieldLink RX4 88 "LastPennyModel" "pos" "I") (by decide +kernel)) (fun _ h9 => h9) rfl dX4_takes_23 ?_
      refine lv_iconst (v := 1) hx hb dX4_takes_26 (by decide) ?_
      refine lv_iadd hx hb dX4_takes_27 ?_
      refine va_put (D := D) (ci := 4) (v := .int ((mo4 0 11) + 1)) (ty := .int) (C := RX4) (T := TX4) (N := 29) hx hb hts hi4 tyX4 tyX4_ok nmX4 hown hK.1 hP hD hS 0 rfl rfl 11 (by decide) (hts (.fieldLink RX4 88 "LastPennyModel" "pos" "I") (by decide +kernel)) (fun _ h9 => h9) rfl (by decide +kernel) rfl rfl (Nat.le_of_ble_eq_true rfl) dX4_takes_28 (fun H locs hP hD hS => ?_)
      obtain ⟨mo66, emo66⟩ : ∃ z, z = (va_up mo4 0 (upd (mo4 0) 11 ((mo4 0 11) + 1))) := ⟨_, rfl⟩
      have h := nm_out h mo66 emo66
      have hP : va_P D vwCl (cM kc a mo66 lo5) H := q_to hP (by subst emo66; rfl)
      have hD : va_D A (cM kc a mo66 lo5) := q_toD hD (by subst emo66; rfl)
      refine lv_goto (tgt := 8) hx hb dX4_takes_31 (by decide) ?_
      exact h ls H locs (lv_sub hl [0] rfl) hP hD hS
  · have h := br2 h c1
    exact hret (mo, lo) H locs ls _ h hP hD hS dX4_takes_7

def w_X4_looked (p1 : Int32) (p2 : Int32) (mo : S2) (lo : SL) (K : Int32 → S2 → SL → Prop) : Prop := jn (fun (mo1 : S2) (lo2 : SL) => jn (fun (mo3 : S2) (lo4 : SL) => br ((mo3 0 15) = 0) (K (mo3 0 14) mo3 lo4) (K 0 mo3 lo4)) (fun J49 => br ((mo1 0 15) = 0) (w_X4_in ((mo1 0 14).toInt64) (p1.toInt64) (p2.toInt64) (fun r7 => w_X4_needs r7 (3 : Int32) mo1 lo2 (fun mo9 lo10 => J49 mo9 lo10))) (J49 mo1 lo2))) (fun J25 => br ((mo 0 15) = 0) (jn (fun (k13 : Int32) => w_X4_needs k13 (2 : Int32) mo lo (fun mo14 lo15 => J25 mo14 lo15)) (fun J21 => br ((mo 0 13) = 2) (J21 1) (J21 0))) (J25 mo lo))
abbrev rm_X4_looked : Room := { frames := 1, cells := 0, slots := 0, locals := 25 }
set_option maxHeartbeats 4000000 in
set_option maxRecDepth 100000 in
theorem c_X4_looked (l : Launch) (D : va_G) (kc : Nat → ClassId) (a : Nat → Nat) (p1 : Int32) (p2 : Int32) (mo : S2) (lo : SL) (sz : Nat) (K : Int32 → S2 → SL → Prop) (h : w_X4_looked p1 p2 mo lo K) : MetI l yX4_looked wsX4_looked rm_X4_looked D kc (fun u : S2 × SL => cM kc a u.1 u.2) (mo, lo) [.ref (a 0), .int p1, .int p2] sz (fun r u => K r u.1 u.2) := by
  refine q_ei (code := cX4_looked) (maxL := 3) (by decide) rfl (Nat.le_of_ble_eq_true rfl) ?_
  intro p e s m args below meth c Q A hx hb hml hts hown hK hA hret ls hl hP hD hS
  have hown : s.vm.findClass RX4 = some m.cls := hown
  have hl : lv_has ls 3 [(0, .ref (a 0)), (1, .int p1), (2, .int p2)] := hl
  have hP : va_P D vwCl (cM kc a mo lo) s.heap := hP
  have hD : va_D A (cM kc a mo lo) := hD
  have hS : va_S A s.heap s.heap [] := hS
  obtain ⟨H, eH⟩ : ∃ z, z = s.heap := ⟨_, rfl⟩
  obtain ⟨locs, eL⟩ : ∃ z : List Loc, z = [] := ⟨_, rfl⟩
  have hP := q_heap hP eH
  have hS := q_heapS hS eH eL
  refine q_start eH eL ?_
  clear eH eL
  have hi4 : ∀ w ∈ u_ws RX4 TX4 29, w ∈ wsX4_looked := by decide +kernel
  unfold w_X4_looked at h
  refine lv_aload_n hx hb dX4_looked_0 rfl (lv_at hl 0 rfl) ?_
  refine va_get (D := D) (ci := 4) (v := .int (mo 0 15)) (C := RX4) (T := TX4) (N := 29) hx hb hts hi4 hown hK.1 hP 0 rfl rfl 15 (by decide) (hts (.fieldLink RX4 79 "LastPennyModel" "fault" "I") (by decide +kernel)) (fun _ h9 => h9) rfl dX4_looked_1 ?_
  refine jn_elim h (fun J25 eJ25 h => ?_)
  have hJ_25 : ∀ (mo1 : S2) (lo2 : SL) (ls : Array Slot) (H : Heap) (locs : List Loc), J25 mo1 lo2 → lv_has ls 3 [(0, .ref (a 0)), (1, .int p1), (2, .int p2)] → va_P D vwCl (cM kc a mo1 lo2) H → va_D A (cM kc a mo1 lo2) → va_S A s.heap H locs → W p l e rm_X4_looked s m args below meth c H locs 0 0 Q (F0 m 25 ls []) := by
    intro mo1 lo2 ls H locs h hl hP hD hS
    subst eJ25
    refine lv_aload_n hx hb dX4_looked_25 rfl (lv_at hl 0 rfl) ?_
    refine va_get (D := D) (ci := 4) (v := .int (mo1 0 15)) (C := RX4) (T := TX4) (N := 29) hx hb hts hi4 hown hK.1 hP 0 rfl rfl 15 (by decide) (hts (.fieldLink RX4 79 "LastPennyModel" "fault" "I") (by decide +kernel)) (fun _ h9 => h9) rfl dX4_looked_26 ?_
    refine jn_elim h (fun J49 eJ49 h => ?_)
    have hJ_49 : ∀ (mo3 : S2) (lo4 : SL) (ls : Array Slot) (H : Heap) (locs : List Loc), J49 mo3 lo4 → lv_has ls 3 [(0, .ref (a 0))] → va_P D vwCl (cM kc a mo3 lo4) H → va_D A (cM kc a mo3 lo4) → va_S A s.heap H locs → W p l e rm_X4_looked s m args below meth c H locs 0 0 Q (F0 m 49 ls []) := by
      intro mo3 lo4 ls H locs h hl hP hD hS
      subst eJ49
      refine lv_aload_n hx hb dX4_looked_49 rfl (lv_at hl 0 rfl) ?_
      refine va_get (D := D) (ci := 4) (v := .int (mo3 0 15)) (C := RX4) (T := TX4) (N := 29) hx hb hts hi4 hown hK.1 hP 0 rfl rfl 15 (by decide) (hts (.fieldLink RX4 79 "LastPennyModel" "fault" "I") (by decide +kernel)) (fun _ h9 => h9) rfl dX4_looked_50 ?_
      refine lv_if_ne (tgt := 63) hx hb dX4_looked_53 (by decide) (fun c5 => ?_) (fun c5 => ?_)
      · have h := br2 h c5
        refine lv_iconst (v := 0) hx hb dX4_looked_63 (by decide) ?_
        exact hret 0 (mo3, lo4) H locs ls _ h hP hD hS dX4_looked_64
      · have h := br1 h c5
        refine lv_aload_n hx hb dX4_looked_56 rfl (lv_at hl 0 rfl) ?_
        refine va_get (D := D) (ci := 4) (v := .int (mo3 0 14)) (C := RX4) (T := TX4) (N := 29) hx hb hts hi4 hown hK.1 hP 0 rfl rfl 14 (by decide) (hts (.fieldLink RX4 118 "LastPennyModel" "value" "I") (by decide +kernel)) (fun _ h9 => h9) rfl dX4_looked_57 ?_
        refine lv_goto (tgt := 64) hx hb dX4_looked_60 (by decide) ?_
        exact hret (mo3 0 14) (mo3, lo4) H locs ls _ h hP hD hS dX4_looked_64
    refine lv_if_ne (tgt := 49) hx hb dX4_looked_29 (by decide) (fun c6 => ?_) (fun c6 => ?_)
    · have h := br2 h c6
      exact hJ_49 mo1 lo2 ls H locs h (lv_sub hl [0] rfl) hP hD hS
    · have h := br1 h c6
      refine lv_aload_n hx hb dX4_looked_32 rfl (lv_at hl 0 rfl) ?_
      refine lv_aload_n hx hb dX4_looked_33 rfl (lv_at hl 0 rfl) ?_
      refine va_get (D := D) (ci := 4) (v := .int (mo1 0 14)) (C := RX4) (T := TX4) (N := 29) hx hb hts hi4 hown hK.1 hP 0 rfl rfl 14 (by decide) (hts (.fieldLink RX4 118 "LastPennyModel" "value" "I") (by decide +kernel)) (fun _ h9 => h9) rfl dX4_looked_34 ?_
      refine lv_i2l hx hb dX4_looked_37 rfl ?_
      refine lv_iload_n hx hb dX4_looked_38 rfl (lv_at hl 1 rfl) ?_
      refine lv_i2l hx hb dX4_looked_39 rfl ?_
      refine lv_iload_n hx hb dX4_looked_40 rfl (lv_at hl 2 rfl) ?_
      refine lv_i2l hx hb dX4_looked_41 rfl ?_
      refine q_cSi (As := [.long ((mo1 0 14).toInt64), .long (p1.toInt64), .long (p2.toInt64)]) (rest := [.ref (a 0)]) ⟨hx, hb, hml, hown, hts⟩ hK (c_X4_in l D kc ((mo1 0 14).toInt64) (p1.toInt64) (p2.toInt64) H.size _ h) (va_cwS 3 hts gX4_looked_X4_in rfl rfl rfl (by decide +kernel) ⟨Nat.le_of_ble_eq_true rfl, Nat.le_of_ble_eq_true rfl⟩) (cut_nil _) hP hD hS hA rfl hl.1 rfl (Nat.le_of_ble_eq_true rfl) dX4_looked_42 ⟨Nat.zero_le _, Nat.zero_le _⟩ (fun r7 _ H locs h hP hD hS => ?_)
      have hP : va_P D vwCl (cM kc a mo1 lo2) H := hP
      have hD : va_D A (cM kc a mo1 lo2) := hD
      refine lv_iconst (v := 3) hx hb dX4_looked_45 (by decide) ?_
      refine q_cVv (As := [.int r7, .int 3]) (rest := []) ⟨hx, hb, hml, hown, hts⟩ hK (c_X4_needs l D kc a r7 (3 : Int32) mo1 lo2 H.size _ h) (cwV 2 hts gX4_looked_X4_needs rfl rfl rfl (by decide +kernel) ⟨Nat.le_of_ble_eq_true rfl, Nat.le_of_ble_eq_true rfl⟩) (cut_same (fun u : S2 × SL => cM kc a u.1 u.2) (mo1, lo2)) hP hD hS hA 4 0 rfl rfl rfl hl.1 rfl (Nat.le_of_ble_eq_true rfl) dX4_looked_46 ⟨Nat.zero_le _, Nat.zero_le _⟩ (fun u11 H locs h hP hD hS => ?_)
      obtain ⟨mo9, lo10⟩ := u11
      have hP : va_P D vwCl (cM kc a mo9 lo10) H := hP
      have hD : va_D A (cM kc a mo9 lo10) := hD
      exact hJ_49 mo9 lo10 ls H locs h (lv_sub hl [0] rfl) hP hD hS
  refine lv_if_ne (tgt := 25) hx hb dX4_looked_4 (by decide) (fun c12 => ?_) (fun c12 => ?_)
  · have h := br2 h c12
    exact hJ_25 mo lo ls H locs h (lv_sub hl [0, 1, 2] rfl) hP hD hS
  · have h := br1 h c12
    refine lv_aload_n hx hb dX4_looked_7 rfl (lv_at hl 0 rfl) ?_
    refine lv_aload_n hx hb dX4_looked_8 rfl (lv_at hl 0 rfl) ?_
    refine va_get (D := D) (ci := 4) (v := .int (mo 0 13)) (C := RX4) (T := TX4) (N := 29) hx hb hts hi4 hown hK.1 hP 0 rfl rfl 13 (by decide) (hts (.fieldLink RX4 107 "LastPennyModel" "sort" "I") (by decide +kernel)) (fun _ h9 => h9) rfl dX4_looked_9 ?_
    refine lv_iconst (v := 2) hx hb dX4_looked_12 (by decide) ?_
    refine jn_elim h (fun J21 eJ21 h => ?_)
    have hJ_21 : ∀ (k13 : Int32) (ls : Array Slot), J21 k13 → lv_has ls 3 [(0, .ref (a 0)), (1, .int p1), (2, .int p2)] → W p l e rm_X4_looked s m args below meth c H locs 0 0 Q (F0 m 21 ls [.int k13, .ref (a 0)]) := by
      intro k13 ls h hl
      subst eJ21
      refine lv_iconst (v := 2) hx hb dX4_looked_21 (by decide) ?_
      refine q_cVv (As := [.int k13, .int 2]) (rest := []) ⟨hx, hb, hml, hown, hts⟩ hK (c_X4_needs l D kc a k13 (2 : Int32) mo lo H.size _ h) (cwV 2 hts gX4_looked_X4_needs rfl rfl rfl (by decide +kernel) ⟨Nat.le_of_ble_eq_true rfl, Nat.le_of_ble_eq_true rfl⟩) (cut_same (fun u : S2 × SL => cM kc a u.1 u.2) (mo, lo)) hP hD hS hA 4 0 rfl rfl rfl hl.1 rfl (Nat.le_of_ble_eq_true rfl) dX4_looked_22 ⟨Nat.zero_le _, Nat.zero_le _⟩ (fun u16 H locs h hP hD hS => ?_)
      obtain ⟨mo14, lo15⟩ := u16
      have hP : va_P D vwCl (cM kc a mo14 lo15) H := hP
      have hD : va_D A (cM kc a mo14 lo15) := hD
      exact hJ_25 mo14 lo15 ls H locs h (lv_sub hl [0, 1, 2] rfl) hP hD hS
    refine lv_icmp_ne (tgt := 20) hx hb dX4_looked_13 (by decide) (fun c17 => ?_) (fun c17 => ?_)
    · have h := br2 h c17
      refine lv_iconst (v := 0) hx hb dX4_looked_20 (by decide) ?_
      exact hJ_21 0 ls h (lv_sub hl [0, 1, 2] rfl)
    · have h := br1 h c17
      refine lv_iconst (v := 1) hx hb dX4_looked_16 (by decide) ?_
      refine lv_goto (tgt := 21) hx hb dX4_looked_17 (by decide) ?_
      exact hJ_21 1 ls h (lv_sub hl [0, 1, 2] rfl)

def w_X4_readNumber (p1 : Int32) (p2 : Int32) (mo : S2) (lo : SL) (K : Int32 → S2 → SL → Prop) : Prop := w_X4_looked p1 p2 mo lo (fun r3 mo1 lo2 => w_X4_takes mo1 lo2 (fun mo5 lo6 => K r3 mo5 lo6))
abbrev rm_X4_readNumber : Room := { frames := 2, cells := 0, slots := 0, locals := 47 }
set_option maxHeartbeats 4000000 in
set_option maxRecDepth 100000 in
theorem c_X4_readNumber (l : Launch) (D : va_G) (kc : Nat → ClassId) (a : Nat → Nat) (p1 : Int32) (p2 : Int32) (mo : S2) (lo : SL) (sz : Nat) (K : Int32 → S2 → SL → Prop) (h : w_X4_readNumber p1 p2 mo lo K) : MetI l yX4_readNumber wsX4_readNumber rm_X4_readNumber D kc (fun u : S2 × SL => cM kc a u.1 u.2) (mo, lo) [.ref (a 0), .int p1, .int p2] sz (fun r u => K r u.1 u.2) := by
  refine q_ei (code := cX4_readNumber) (maxL := 4) (by decide) rfl (Nat.le_of_ble_eq_true rfl) ?_
  intro p e s m args below meth c Q A hx hb hml hts hown hK hA hret ls hl hP hD hS
  have hown : s.vm.findClass RX4 = some m.cls := hown
  have hl : lv_has ls 4 [(0, .ref (a 0)), (1, .int p1), (2, .int p2)] := hl
  have hP : va_P D vwCl (cM kc a mo lo) s.heap := hP
  have hD : va_D A (cM kc a mo lo) := hD
  have hS : va_S A s.heap s.heap [] := hS
  obtain ⟨H, eH⟩ : ∃ z, z = s.heap := ⟨_, rfl⟩
  obtain ⟨locs, eL⟩ : ∃ z : List Loc, z = [] := ⟨_, rfl⟩
  have hP := q_heap hP eH
  have hS := q_heapS hS eH eL
  refine q_start eH eL ?_
  clear eH eL
  unfold w_X4_readNumber at h
  refine lv_aload_n hx hb dX4_readNumber_0 rfl (lv_at hl 0 rfl) ?_
  refine lv_iload_n hx hb dX4_readNumber_1 rfl (lv_at hl 1 rfl) ?_
  refine lv_iload_n hx hb dX4_readNumber_2 rfl (lv_at hl 2 rfl) ?_
  refine q_cVi (As := [.int p1, .int p2]) (rest := []) ⟨hx, hb, hml, hown, hts⟩ hK (c_X4_looked l D kc a p1 p2 mo lo H.size _ h) (cwV 2 hts gX4_readNumber_X4_looked rfl rfl rfl (by decide +kernel) ⟨Nat.le_of_ble_eq_true rfl, Nat.le_of_ble_eq_true rfl⟩) (cut_same (fun u : S2 × SL => cM kc a u.1 u.2) (mo, lo)) hP hD hS hA 4 0 rfl rfl rfl hl.1 rfl (Nat.le_of_ble_eq_true rfl) dX4_readNumber_3 ⟨Nat.zero_le _, Nat.zero_le _⟩ (fun r3 u4 H locs h hP hD hS => ?_)
  obtain ⟨mo1, lo2⟩ := u4
  have hP : va_P D vwCl (cM kc a mo1 lo2) H := hP
  have hD : va_D A (cM kc a mo1 lo2) := hD
  refine lv_istore_n (lv' := [(3, .int r3), (0, .ref (a 0)), (1, .int p1), (2, .int p2)]) hx hb dX4_readNumber_6 rfl hl (by decide) rfl (fun ls hl => ?_)
  refine lv_aload_n hx hb dX4_readNumber_7 rfl (lv_at hl 1 rfl) ?_
  refine q_cVv (As := []) (rest := []) ⟨hx, hb, hml, hown, hts⟩ hK (c_X4_takes l D kc a mo1 lo2 H.size _ h) (cwV 0 hts gX4_readNumber_X4_takes rfl rfl rfl (by decide +kernel) ⟨Nat.le_of_ble_eq_true rfl, Nat.le_of_ble_eq_true rfl⟩) (cut_same (fun u : S2 × SL => cM kc a u.1 u.2) (mo1, lo2)) hP hD hS hA 4 0 rfl rfl rfl hl.1 rfl (Nat.le_of_ble_eq_true rfl) dX4_readNumber_8 ⟨Nat.zero_le _, Nat.zero_le _⟩ (fun u7 H locs h hP hD hS => ?_)
  obtain ⟨mo5, lo6⟩ := u7
  have hP : va_P D vwCl (cM kc a mo5 lo6) H := hP
  have hD : va_D A (cM kc a mo5 lo6) := hD
  refine lv_iload_n hx hb dX4_readNumber_11 rfl (lv_at hl 0 rfl) ?_
  exact hret r3 (mo5, lo6) H locs ls _ h hP hD hS dX4_readNumber_12

