def w_X4_keeper (p1 : Int32) (p2 : Int32) (mo : S2) (lo : SL) (K : Int32 → S2 → SL → Prop) : Prop := w_X4_isFar p1 (fun r1 => br (r1 = 0) (K (-1) mo lo) (w_X4_isPart p2 (fun r4 => br (r4 = 0) (K (-1) mo lo) (nm ((-1) : Int32) (fun x7 => nm ((-4) : Int32) (fun x8 => lfp5 (fun G25 (i9 : Int32) (i10 : Int32) (i11 : Int32) (mo12 : S2) (lo13 : SL) => br ((mo12 0 3) ≤ i11) (br (i10 = (-4)) (K (-4) mo12 lo13) (br (p2 = 0) (K i10 mo12 lo13) (K i9 mo12 lo13))) (w_X4_starts mo12 lo13 (fun mo17 lo18 => nm ((va_up mo17 2 (upd (mo17 2) (22 : Int32).toNatClampNeg i11)) : S2) (fun mo20 => w_X4_quartersGo p1 mo20 lo18 (fun mo21 lo22 => w_X4_allOf (1 : Int32) mo21 lo22 (fun r26 mo24 lo25 => jn (fun (k28 : Int32) => jn (fun (k29 : Int32) => nm (i11 + 1 : Int32) (fun x30 => G25 k29 k28 x30 mo24 lo25)) (fun J86 => br (r26 ≤ i9) (J86 i9) (J86 r26))) (fun J72 => br (r26 ≤ i9) (J72 i10) (J72 i11)))))))) x7 x8 0 mo lo))))))
abbrev rm_X4_keeper : Room := { frames := 5, cells := 0, slots := 0, locals := 110 }
set_option maxHeartbeats 4000000 in
set_option maxRecDepth 100000 in
theorem c_X4_keeper (l : Launch) (D : va_G) (kc : Nat → ClassId) (a : Nat → Nat) (p1 : Int32) (p2 : Int32) (mo : S2) (lo : SL) (sz : Nat) (K : Int32 → S2 → SL → Prop) (h : w_X4_keeper p1 p2 mo lo K) : MetI l yX4_keeper wsX4_keeper rm_X4_keeper D kc (fun u : S2 × SL => cM kc a u.1 u.2) (mo, lo) [.ref (a 0), .int p1, .int p2] sz (fun r u => K r u.1 u.2) := by
  refine q_ei (code := cX4_keeper) (maxL := 7) (by decide) rfl (Nat.le_of_ble_eq_true rfl) ?_
  intro p e s m args below meth c Q A hx hb hml hts hown hK hA hret ls hl hP hD hS
  have hown : s.vm.findClass RX4 = some m.cls := hown
  have hl : lv_has ls 7 [(0, .ref (a 0)), (1, .int p1), (2, .int p2)] := hl
  have hP : va_P D vwCl (cM kc a mo lo) s.heap := hP
  have hD : va_D A (cM kc a mo lo) := hD
  have hS : va_S A s.heap s.heap [] := hS
  obtain ⟨H, eH⟩ : ∃ z, z = s.heap := ⟨_, rfl⟩
  obtain ⟨locs, eL⟩ : ∃ z : List Loc, z = [] := ⟨_, rfl⟩
  have hP := q_heap hP eH
  have hS := q_heapS hS eH eL
  refine q_start eH eL ?_
  clear eH eL
  have hi4 : ∀ w ∈ u_ws RX4 TX4 29, w ∈ wsX4_keeper := by decide +kernel
  unfold w_X4_keeper at h
  refine lv_iload_n hx hb dX4_keeper_0 rfl (lv_at hl 1 rfl) ?_
  refine q_cSi (As := [.int p1]) (rest := []) ⟨hx, hb, hml, hown, hts⟩ hK (c_X4_isFar l D kc p1 H.size _ h) (va_cwS 1 hts gX4_keeper_X4_isFar rfl rfl rfl (by decide +kernel) ⟨Nat.le_of_ble_eq_true rfl, Nat.le_of_ble_eq_true rfl⟩) (cut_nil _) hP hD hS hA rfl hl.1 rfl (Nat.le_of_ble_eq_true rfl) dX4_keeper_1 ⟨Nat.zero_le _, Nat.zero_le _⟩ (fun r1 _ H locs h hP hD hS => ?_)
  have hP : va_P D vwCl (cM kc a mo lo) H := hP
  have hD : va_D A (cM kc a mo lo) := hD
  refine lv_if_eq (tgt := 14) hx hb dX4_keeper_4 (by decide) (fun c3 => ?_) (fun c3 => ?_)
  · have h := br1 h c3
    refine lv_iconst (v := -1) hx hb dX4_keeper_14 (by decide) ?_
    exact hret (-1) (mo, lo) H locs ls _ h hP hD hS dX4_keeper_15
  · have h := br2 h c3
    refine lv_iload_n hx hb dX4_keeper_7 rfl (lv_at hl 2 rfl) ?_
    refine q_cSi (As := [.int p2]) (rest := []) ⟨hx, hb, hml, hown, hts⟩ hK (c_X4_isPart l D kc p2 H.size _ h) (va_cwS 1 hts gX4_keeper_X4_isPart rfl rfl rfl (by decide +kernel) ⟨Nat.le_of_ble_eq_true rfl, Nat.le_of_ble_eq_true rfl⟩) (cut_nil _) hP hD hS hA rfl hl.1 rfl (Nat.le_of_ble_eq_true rfl) dX4_keeper_8 ⟨Nat.zero_le _, Nat.zero_le _⟩ (fun r4 _ H locs h hP hD hS => ?_)
    have hP : va_P D vwCl (cM kc a mo lo) H := hP
    have hD : va_D A (cM kc a mo lo) := hD
    refine lv_if_ne (tgt := 16) hx hb dX4_keeper_11 (by decide) (fun c6 => ?_) (fun c6 => ?_)
    · have h := br2 h c6
      refine lv_iconst (v := -1) hx hb dX4_keeper_16 (by decide) ?_
      refine lv_topi (fun x7 ex7 => ?_)
      have h := nm_out h x7 ex7
      refine lv_istore_n (lv' := [(3, .int x7), (0, .ref (a 0)), (1, .int p1), (2, .int p2)]) hx hb dX4_keeper_17 rfl hl (by decide) rfl (fun ls hl => ?_)
      refine lv_bipush (v := -4) hx hb dX4_keeper_18 (by decide) ?_
      refine lv_topi (fun x8 ex8 => ?_)
      have h := nm_out h x8 ex8
      refine lv_istore (lv' := [(4, .int x8), (3, .int x7), (0, .ref (a 0)), (1, .int p1), (2, .int p2)]) hx hb dX4_keeper_20 hl (by decide) rfl (fun ls hl => ?_)
      refine lv_iconst (v := 0) hx hb dX4_keeper_22 (by decide) ?_
      refine lv_istore (lv' := [(5, .int 0), (4, .int x8), (3, .int x7), (0, .ref (a 0)), (1, .int p1), (2, .int p2)]) hx hb dX4_keeper_23 hl (by decide) rfl (fun ls hl => ?_)
      refine h (fun (i9 : Int32) (i10 : Int32) (i11 : Int32) (mo12 : S2) (lo13 : SL) => ∀ (ls : Array Slot) (H : Heap) (locs : List Loc), lv_has ls 7 [(0, .ref (a 0)), (1, .int p1), (2, .int p2), (3, .int i9), (4, .int i10), (5, .int i11)] → va_P D vwCl (cM kc a mo12 lo13) H → va_D A (cM kc a mo12 lo13) → va_S A s.heap H locs → W p l e rm_X4_keeper s m args below meth c H locs 0 0 Q (F0 m 25 ls [])) ?_ ls H locs (lv_sub hl [3, 4, 5, 2, 1, 0] rfl) hP hD hS
      intro i9 i10 i11 mo12 lo13 h ls H locs hl hP hD hS
      refine lv_iload hx hb dX4_keeper_25 (lv_at hl 5 rfl) ?_
      refine lv_aload_n hx hb dX4_keeper_27 rfl (lv_at hl 0 rfl) ?_
      refine va_get (D := D) (ci := 4) (v := .int (mo12 0 3)) (C := RX4) (T := TX4) (N := 29) hx hb hts hi4 hown hK.1 hP 0 rfl rfl 3 (by decide) (hts (.fieldLink RX4 67 "LastPennyModel" "people" "I") (by decide +kernel)) (fun _ h9 => h9) rfl dX4_keeper_28 ?_
      refine lv_icmp_ge (tgt := 93) hx hb dX4_keeper_31 (by decide) (fun c14 => ?_) (fun c14 => ?_)
      · have h := br1 h c14
        refine lv_iload hx hb dX4_keeper_93 (lv_at hl 4 rfl) ?_
        refine lv_bipush (v := -4) hx hb dX4_keeper_95 (by decide) ?_
        refine lv_icmp_ne (tgt := 105) hx hb dX4_keeper_97 (by decide) (fun c15 => ?_) (fun c15 => ?_)
        · have h := br2 h c15
          refine lv_iload_n hx hb dX4_keeper_105 rfl (lv_at hl 2 rfl) ?_
          refine lv_if_ne (tgt := 114) hx hb dX4_keeper_106 (by decide) (fun c16 => ?_) (fun c16 => ?_)
          · have h := br2 h c16
            refine lv_iload_n hx hb dX4_keeper_114 rfl (lv_at hl 3 rfl) ?_
            exact hret i9 (mo12, lo13) H locs ls _ h hP hD hS dX4_keeper_115
          · have h := br1 h c16
            refine lv_iload hx hb dX4_keeper_109 (lv_at hl 4 rfl) ?_
            refine lv_goto (tgt := 115) hx hb dX4_keeper_111 (by decide) ?_
            exact hret i10 (mo12, lo13) H locs ls _ h hP hD hS dX4_keeper_115
        · have h := br1 h c15
          refine lv_bipush (v := -4) hx hb dX4_keeper_100 (by decide) ?_
          refine lv_goto (tgt := 115) hx hb dX4_keeper_102 (by decide) ?_
          exact hret (-4) (mo12, lo13) H locs ls _ h hP hD hS dX4_keeper_115
      · have h := br2 h c14
        refine lv_aload_n hx hb dX4_keeper_34 rfl (lv_at hl 0 rfl) ?_
        refine q_cVv (As := []) (rest := []) ⟨hx, hb, hml, hown, hts⟩ hK (c_X4_starts l D kc a mo12 lo13 H.size _ h) (cwV 0 hts gX4_keeper_X4_starts rfl rfl rfl (by decide +kernel) ⟨Nat.le_of_ble_eq_true rfl, Nat.le_of_ble_eq_true rfl⟩) (cut_same (fun u : S2 × SL => cM kc a u.1 u.2) (mo12, lo13)) hP hD hS hA 4 0 rfl rfl rfl hl.1 rfl (Nat.le_of_ble_eq_true rfl) dX4_keeper_35 ⟨Nat.zero_le _, Nat.zero_le _⟩ (fun u19 H locs h hP hD hS => ?_)
        obtain ⟨mo17, lo18⟩ := u19
        have hP : va_P D vwCl (cM kc a mo17 lo18) H := hP
        have hD : va_D A (cM kc a mo17 lo18) := hD
        refine lv_aload_n hx hb dX4_keeper_38 rfl (lv_at hl 0 rfl) ?_
        refine va_get (D := D) (ci := 4) (v := .ref (a 2)) (C := RX4) (T := TX4) (N := 29) hx hb hts hi4 hown hK.1 hP 0 rfl rfl 1 (by decide) (hts (.fieldLink RX4 13 "LastPennyModel" "now" "[I") (by decide +kernel)) (fun _ h9 => h9) rfl dX4_keeper_39 ?_
        refine lv_bipush (v := 22) hx hb dX4_keeper_42 (by decide) ?_
        refine lv_iload hx hb dX4_keeper_44 (lv_at hl 5 rfl) ?_
        refine va_iast hx hb hK.1 hP hD hS 2 0 rfl rfl (by unfold vp_in; decide) dX4_keeper_46 (fun H locs hP hD hS => ?_)
        obtain ⟨mo20, emo20⟩ : ∃ z, z = (va_up mo17 2 (upd (mo17 2) (22 : Int32).toNatClampNeg i11)) := ⟨_, rfl⟩
        have h := nm_out h mo20 emo20
        have hP : va_P D vwCl (cM kc a mo20 lo18) H := q_to hP (by subst emo20; rfl)
        have hD : va_D A (cM kc a mo20 lo18) := q_toD hD (by subst emo20; rfl)
        refine lv_aload_n hx hb dX4_keeper_47 rfl (lv_at hl 0 rfl) ?_
        refine lv_iload_n hx hb dX4_keeper_48 rfl (lv_at hl 1 rfl) ?_
        refine q_cVv (As := [.int p1]) (rest := []) ⟨hx, hb, hml, hown, hts⟩ hK (c_X4_quartersGo l D kc a p1 mo20 lo18 H.size _ h) (cwV 1 hts gX4_keeper_X4_quartersGo rfl rfl rfl (by decide +kernel) ⟨Nat.le_of_ble_eq_true rfl, Nat.le_of_ble_eq_true rfl⟩) (cut_same (fun u : S2 × SL => cM kc a u.1 u.2) (mo20, lo18)) hP hD hS hA 4 0 rfl rfl rfl hl.1 rfl (Nat.le_of_ble_eq_true rfl) dX4_keeper_49 ⟨Nat.zero_le _, Nat.zero_le _⟩ (fun u23 H locs h hP hD hS => ?_)
        obtain ⟨mo21, lo22⟩ := u23
        have hP : va_P D vwCl (cM kc a mo21 lo22) H := hP
        have hD : va_D A (cM kc a mo21 lo22) := hD
        refine lv_aload_n hx hb dX4_keeper_52 rfl (lv_at hl 0 rfl) ?_
        refine lv_iconst (v := 1) hx hb dX4_keeper_53 (by decide) ?_
        refine q_cVi (As := [.int 1]) (rest := []) ⟨hx, hb, hml, hown, hts⟩ hK (c_X4_allOf l D kc a (1 : Int32) mo21 lo22 H.size _ h) (cwV 1 hts gX4_keeper_X4_allOf rfl rfl rfl (by decide +kernel) ⟨Nat.le_of_ble_eq_true rfl, Nat.le_of_ble_eq_true rfl⟩) (cut_same (fun u : S2 × SL => cM kc a u.1 u.2) (mo21, lo22)) hP hD hS hA 4 0 rfl rfl rfl hl.1 rfl (Nat.le_of_ble_eq_true rfl) dX4_keeper_54 ⟨Nat.zero_le _, Nat.zero_le _⟩ (fun r26 u27 H locs h hP hD hS => ?_)
        obtain ⟨mo24, lo25⟩ := u27
        have hP : va_P D vwCl (cM kc a mo24 lo25) H := hP
        have hD : va_D A (cM kc a mo24 lo25) := hD
        refine lv_istore (lv' := [(6, .int r26), (0, .ref (a 0)), (1, .int p1), (2, .int p2), (3, .int i9), (4, .int i10), (5, .int i11)]) hx hb dX4_keeper_57 hl (by decide) rfl (fun ls hl => ?_)
        refine lv_iload hx hb dX4_keeper_59 (lv_at hl 0 rfl) ?_
        refine lv_iload_n hx hb dX4_keeper_61 rfl (lv_at hl 4 rfl) ?_
        refine jn_elim h (fun J72 eJ72 h => ?_)
        have hJ_72 : ∀ (k28 : Int32) (ls : Array Slot), J72 k28 → lv_has ls 7 [(0, .ref (a 0)), (1, .int p1), (2, .int p2), (3, .int i9), (5, .int i11), (6, .int r26)] → W p l e rm_X4_keeper s m args below meth c H locs 0 0 Q (F0 m 72 ls [.int k28]) := by
          intro k28 ls h hl
          subst eJ72
          refine lv_istore (lv' := [(4, .int k28), (0, .ref (a 0)), (1, .int p1), (2, .int p2), (3, .int i9), (5, .int i11), (6, .int r26)]) hx hb dX4_keeper_72 hl (by decide) rfl (fun ls hl => ?_)
          refine lv_iload hx hb dX4_keeper_74 (lv_at hl 6 rfl) ?_
          refine lv_iload_n hx hb dX4_keeper_76 rfl (lv_at hl 4 rfl) ?_
          refine jn_elim h (fun J86 eJ86 h => ?_)
          have hJ_86 : ∀ (k29 : Int32) (ls : Array Slot), J86 k29 → lv_has ls 7 [(0, .ref (a 0)), (1, .int p1), (2, .int p2), (4, .int k28), (5, .int i11)] → W p l e rm_X4_keeper s m args below meth c H locs 0 0 Q (F0 m 86 ls [.int k29]) := by
            intro k29 ls h hl
            subst eJ86
            refine lv_istore_n (lv' := [(3, .int k29), (0, .ref (a 0)), (1, .int p1), (2, .int p2), (4, .int k28), (5, .int i11)]) hx hb dX4_keeper_86 rfl hl (by decide) rfl (fun ls hl => ?_)
            obtain ⟨x30, ex30⟩ : ∃ z : Int32, z = i11 + 1 := ⟨_, rfl⟩
            have h := nm_out h x30 ex30
            refine lv_iinc (v := x30) (lv' := [(5, .int x30), (3, .int k29), (0, .ref (a 0)), (1, .int p1), (2, .int p2), (4, .int k28)]) hx hb dX4_keeper_87 hl (k := 5) rfl (by rw [ex30]; rfl) (by decide) rfl (fun ls hl => ?_)
            refine lv_goto (tgt := 25) hx hb dX4_keeper_90 (by decide) ?_
            exact h ls H locs (lv_sub hl [2, 3, 4, 1, 5, 0] rfl) hP hD hS
          refine lv_icmp_le (tgt := 85) hx hb dX4_keeper_77 (by decide) (fun c31 => ?_) (fun c31 => ?_)
          · have h := br1 h c31
            refine lv_iload_n hx hb dX4_keeper_85 rfl (lv_at hl 4 rfl) ?_
            exact hJ_86 i9 ls h (lv_sub hl [1, 2, 3, 0, 5] rfl)
          · have h := br2 h c31
            refine lv_iload hx hb dX4_keeper_80 (lv_at hl 6 rfl) ?_
            refine lv_goto (tgt := 86) hx hb dX4_keeper_82 (by decide) ?_
            exact hJ_86 r26 ls h (lv_sub hl [1, 2, 3, 0, 5] rfl)
        refine lv_icmp_le (tgt := 70) hx hb dX4_keeper_62 (by decide) (fun c32 => ?_) (fun c32 => ?_)
        · have h := br1 h c32
          refine lv_iload hx hb dX4_keeper_70 (lv_at hl 5 rfl) ?_
          exact hJ_72 i10 ls h (lv_sub hl [1, 2, 3, 4, 6, 0] rfl)
        · have h := br2 h c32
          refine lv_iload hx hb dX4_keeper_65 (lv_at hl 6 rfl) ?_
          refine lv_goto (tgt := 72) hx hb dX4_keeper_67 (by decide) ?_
          exact hJ_72 i11 ls h (lv_sub hl [1, 2, 3, 4, 6, 0] rfl)
    · have h := br1 h c6
      refine lv_iconst (v := -1) hx hb dX4_keeper_14 (by decide) ?_
      exact hret (-1) (mo, lo) H locs ls _ h hP hD hS dX4_keeper_15

def w_X4_kind (p1 : Int32) (p2 : Int32) (p3 : Int32) (mo : S2) (lo : SL) (K : Int32 → S2 → SL → Prop) : Prop := w_X4_isOne p1 mo lo (fun r3 mo1 lo2 => br (r3 = 0) (K (-1) mo1 lo2) (w_X4_isFar p2 (fun r6 => br (r6 = 0) (K (-1) mo1 lo2) (w_X4_isPart p3 (fun r9 => br (r9 = 0) (K (-1) mo1 lo2) (nm ((-1) : Int32) (fun x12 => lfp5 (fun G33 (i13 : Int32) (i14 : Int32) (i15 : Int32) (mo16 : S2) (lo17 : SL) => br (4 ≤ i15) (br (p3 = 0) (K i14 mo16 lo17) (K i13 mo16 lo17)) (w_X4_starts mo16 lo17 (fun mo20 lo21 => w_X4_becomesOf p1 (0 : Int32) i15 mo20 lo21 (fun mo23 lo24 => w_X4_quartersGo p2 mo23 lo24 (fun mo26 lo27 => w_X4_of p1 (1 : Int32) mo26 lo27 (fun r31 mo29 lo30 => jn (fun (k33 : Int32) => w_X4_of p1 (1 : Int32) mo29 lo30 (fun r36 mo34 lo35 => jn (fun (k38 : Int32) (mo39 : S2) (lo40 : SL) => nm (i15 + 1 : Int32) (fun x41 => G33 k38 k33 x41 mo39 lo40)) (fun J98 => br (r36 ≤ i13) (J98 i13 mo34 lo35) (w_X4_of p1 (1 : Int32) mo34 lo35 (fun r45 mo43 lo44 => J98 r45 mo43 lo44))))) (fun J74 => br (r31 ≤ i13) (J74 i14) (J74 i15)))))))) x12 0 0 mo1 lo2)))))))
abbrev rm_X4_kind : Room := { frames := 5, cells := 0, slots := 0, locals := 110 }
set_option maxHeartbeats 4000000 in
set_option maxRecDepth 100000 in
theorem c_X4_kind (l : Launch) (D : va_G) (kc : Nat → ClassId) (a : Nat → Nat) (p1 : Int32) (p2 : Int32) (p3 : Int32) (mo : S2) (lo : SL) (sz : Nat) (K : Int32 → S2 → SL → Prop) (h : w_X4_kind p1 p2 p3 mo lo K) : MetI l yX4_kind wsX4_kind rm_X4_kind D kc (fun u : S2 × SL => cM kc a u.1 u.2) (mo, lo) [.ref (a 0), .int p1, .int p2, .int p3] sz (fun r u => K r u.1 u.2) := by
  refine q_ei (code := cX4_kind) (maxL := 7) (by decide) rfl (Nat.le_of_ble_eq_true rfl) ?_
  intro p e s m args below meth c Q A hx hb hml hts hown hK hA hret ls hl hP hD hS
  have hown : s.vm.findClass RX4 = some m.cls := hown
  have hl : lv_has ls 7 [(0, .ref (a 0)), (1, .int p1), (2, .int p2), (3, .int p3)] := hl
  have hP : va_P D vwCl (cM kc a mo lo) s.heap := hP
  have hD : va_D A (cM kc a mo lo) := hD
  have hS : va_S A s.heap s.heap [] := hS
  obtain ⟨H, eH⟩ : ∃ z, z = s.heap := ⟨_, rfl⟩
  obtain ⟨locs, eL⟩ : ∃ z : List Loc, z = [] := ⟨_, rfl⟩
  have hP := q_heap hP eH
  have hS := q_heapS hS eH eL
  refine q_start eH eL ?_
  clear eH eL
  unfold w_X4_kind at h
  refine lv_aload_n hx hb dX4_kind_0 rfl (lv_at hl 0 rfl) ?_
  refine lv_iload_n hx hb dX4_kind_1 rfl (lv_at hl 1 rfl) ?_
  refine q_cVi (As := [.int p1]) (rest := []) ⟨hx, hb, hml, hown, hts⟩ hK (c_X4_isOne l D kc a p1 mo lo H.size _ h) (cwV 1 hts gX4_kind_X4_isOne rfl rfl rfl (by decide +kernel) ⟨Nat.le_of_ble_eq_true rfl, Nat.le_of_ble_eq_true rfl⟩) (cut_same (fun u : S2 × SL => cM kc a u.1 u.2) (mo, lo)) hP hD hS hA 4 0 rfl rfl rfl hl.1 rfl (Nat.le_of_ble_eq_true rfl) dX4_kind_2 ⟨Nat.zero_le _, Nat.zero_le _⟩ (fun r3 u4 H locs h hP hD hS => ?_)
  obtain ⟨mo1, lo2⟩ := u4
  have hP : va_P D vwCl (cM kc a mo1 lo2) H := hP
  have hD : va_D A (cM kc a mo1 lo2) := hD
  refine lv_if_eq (tgt := 22) hx hb dX4_kind_5 (by decide) (fun c5 => ?_) (fun c5 => ?_)
  · have h := br1 h c5
    refine lv_iconst (v := -1) hx hb dX4_kind_22 (by decide) ?_
    exact hret (-1) (mo1, lo2) H locs ls _ h hP hD hS dX4_kind_23
  · have h := br2 h c5
    refine lv_iload_n hx hb dX4_kind_8 rfl (lv_at hl 2 rfl) ?_
    refine q_cSi (As := [.int p2]) (rest := []) ⟨hx, hb, hml, hown, hts⟩ hK (c_X4_isFar l D kc p2 H.size _ h) (va_cwS 1 hts gX4_kind_X4_isFar rfl rfl rfl (by decide +kernel) ⟨Nat.le_of_ble_eq_true rfl, Nat.le_of_ble_eq_true rfl⟩) (cut_nil _) hP hD hS hA rfl hl.1 rfl (Nat.le_of_ble_eq_true rfl) dX4_kind_9 ⟨Nat.zero_le _, Nat.zero_le _⟩ (fun r6 _ H locs h hP hD hS => ?_)
    have hP : va_P D vwCl (cM kc a mo1 lo2) H := hP
    have hD : va_D A (cM kc a mo1 lo2) := hD
    refine lv_if_eq (tgt := 22) hx hb dX4_kind_12 (by decide) (fun c8 => ?_) (fun c8 => ?_)
    · have h := br1 h c8
      refine lv_iconst (v := -1) hx hb dX4_kind_22 (by decide) ?_
      exact hret (-1) (mo1, lo2) H locs ls _ h hP hD hS dX4_kind_23
    · have h := br2 h c8
      refine lv_iload_n hx hb dX4_kind_15 rfl (lv_at hl 3 rfl) ?_
      refine q_cSi (As := [.int p3]) (rest := []) ⟨hx, hb, hml, hown, hts⟩ hK (c_X4_isPart l D kc p3 H.size _ h) (va_cwS 1 hts gX4_kind_X4_isPart rfl rfl rfl (by decide +kernel) ⟨Nat.le_of_ble_eq_true rfl, Nat.le_of_ble_eq_true rfl⟩) (cut_nil _) hP hD hS hA rfl hl.1 rfl (Nat.le_of_ble_eq_true rfl) dX4_kind_16 ⟨Nat.zero_le _, Nat.zero_le _⟩ (fun r9 _ H locs h hP hD hS => ?_)
      have hP : va_P D vwCl (cM kc a mo1 lo2) H := hP
      have hD : va_D A (cM kc a mo1 lo2) := hD
      refine lv_if_ne (tgt := 24) hx hb dX4_kind_19 (by decide) (fun c11 => ?_) (fun c11 => ?_)
      · have h := br2 h c11
        refine lv_iconst (v := -1) hx hb dX4_kind_24 (by decide) ?_
        refine lv_topi (fun x12 ex12 => ?_)
        have h := nm_out h x12 ex12
        refine lv_istore (lv' := [(4, .int x12), (0, .ref (a 0)), (1, .int p1), (2, .int p2), (3, .int p3)]) hx hb dX4_kind_25 hl (by decide) rfl (fun ls hl => ?_)
        refine lv_iconst (v := 0) hx hb dX4_kind_27 (by decide) ?_
        refine lv_istore (lv' := [(5, .int 0), (4, .int x12), (0, .ref (a 0)), (1, .int p1), (2, .int p2), (3, .int p3)]) hx hb dX4_kind_28 hl (by decide) rfl (fun ls hl => ?_)
        refine lv_iconst (v := 0) hx hb dX4_kind_30 (by decide) ?_
        refine lv_istore (lv' := [(6, .int 0), (5, .int 0), (4, .int x12), (0, .ref (a 0)), (1, .int p1), (2, .int p2), (3, .int p3)]) hx hb dX4_kind_31 hl (by decide) rfl (fun ls hl => ?_)
        refine h (fun (i13 : Int32) (i14 : Int32) (i15 : Int32) (mo16 : S2) (lo17 : SL) => ∀ (ls : Array Slot) (H : Heap) (locs : List Loc), lv_has ls 7 [(0, .ref (a 0)), (1, .int p1), (2, .int p2), (3, .int p3), (4, .int i13), (5, .int i14), (6, .int i15)] → va_P D vwCl (cM kc a mo16 lo17) H → va_D A (cM kc a mo16 lo17) → va_S A s.heap H locs → W p l e rm_X4_kind s m args below meth c H locs 0 0 Q (F0 m 33 ls [])) ?_ ls H locs (lv_sub hl [3, 4, 5, 6, 2, 1, 0] rfl) hP hD hS
        intro i13 i14 i15 mo16 lo17 h ls H locs hl hP hD hS
        refine lv_iload hx hb dX4_kind_33 (lv_at hl 6 rfl) ?_
        refine lv_iconst (v := 4) hx hb dX4_kind_35 (by decide) ?_
        refine lv_icmp_ge (tgt := 106) hx hb dX4_kind_36 (by decide) (fun c18 => ?_) (fun c18 => ?_)
        · have h := br1 h c18
          refine lv_iload_n hx hb dX4_kind_106 rfl (lv_at hl 3 rfl) ?_
          refine lv_if_ne (tgt := 115) hx hb dX4_kind_107 (by decide) (fun c19 => ?_) (fun c19 => ?_)
          · have h := br2 h c19
            refine lv_iload hx hb dX4_kind_115 (lv_at hl 4 rfl) ?_
            exact hret i13 (mo16, lo17) H locs ls _ h hP hD hS dX4_kind_117
          · have h := br1 h c19
            refine lv_iload hx hb dX4_kind_110 (lv_at hl 5 rfl) ?_
            refine lv_goto (tgt := 117) hx hb dX4_kind_112 (by decide) ?_
            exact hret i14 (mo16, lo17) H locs ls _ h hP hD hS dX4_kind_117
        · have h := br2 h c18
          refine lv_aload_n hx hb dX4_kind_39 rfl (lv_at hl 0 rfl) ?_
          refine q_cVv (As := []) (rest := []) ⟨hx, hb, hml, hown, hts⟩ hK (c_X4_starts l D kc a mo16 lo17 H.size _ h) (cwV 0 hts gX4_kind_X4_starts rfl rfl rfl (by decide +kernel) ⟨Nat.le_of_ble_eq_true rfl, Nat.le_of_ble_eq_true rfl⟩) (cut_same (fun u : S2 × SL => cM kc a u.1 u.2) (mo16, lo17)) hP hD hS hA 4 0 rfl rfl rfl hl.1 rfl (Nat.le_of_ble_eq_true rfl) dX4_kind_40 ⟨Nat.zero_le _, Nat.zero_le _⟩ (fun u22 H locs h hP hD hS => ?_)
          obtain ⟨mo20, lo21⟩ := u22
          have hP : va_P D vwCl (cM kc a mo20 lo21) H := hP
          have hD : va_D A (cM kc a mo20 lo21) := hD
          refine lv_aload_n hx hb dX4_kind_43 rfl (lv_at hl 0 rfl) ?_
          refine lv_iload_n hx hb dX4_kind_44 rfl (lv_at hl 1 rfl) ?_
          refine lv_iconst (v := 0) hx hb dX4_kind_45 (by decide) ?_
          refine lv_iload hx hb dX4_kind_46 (lv_at hl 6 rfl) ?_
          refine q_cVv (As := [.int p1, .int 0, .int i15]) (rest := []) ⟨hx, hb, hml, hown, hts⟩ hK (c_X4_becomesOf l D kc a p1 (0 : Int32) i15 mo20 lo21 H.size _ h) (cwV 3 hts gX4_kind_X4_becomesOf rfl rfl rfl (by decide +kernel) ⟨Nat.le_of_ble_eq_true rfl, Nat.le_of_ble_eq_true rfl⟩) (cut_same (fun u : S2 × SL => cM kc a u.1 u.2) (mo20, lo21)) hP hD hS hA 4 0 rfl rfl rfl hl.1 rfl (Nat.le_of_ble_eq_true rfl) dX4_kind_48 ⟨Nat.zero_le _, Nat.zero_le _⟩ (fun u25 H locs h hP hD hS => ?_)
          obtain ⟨mo23, lo24⟩ := u25
          have hP : va_P D vwCl (cM kc a mo23 lo24) H := hP
          have hD : va_D A (cM kc a mo23 lo24) := hD
          refine lv_aload_n hx hb dX4_kind_51 rfl (lv_at hl 0 rfl) ?_
          refine lv_iload_n hx hb dX4_kind_52 rfl (lv_at hl 2 rfl) ?_
          refine q_cVv (As := [.int p2]) (rest := []) ⟨hx, hb, hml, hown, hts⟩ hK (c_X4_quartersGo l D kc a p2 mo23 lo24 H.size _ h) (cwV 1 hts gX4_kind_X4_quartersGo rfl rfl rfl (by decide +kernel) ⟨Nat.le_of_ble_eq_true rfl, Nat.le_of_ble_eq_true rfl⟩) (cut_same (fun u : S2 × SL => cM kc a u.1 u.2) (mo23, lo24)) hP hD hS hA 4 0 rfl rfl rfl hl.1 rfl (Nat.le_of_ble_eq_true rfl) dX4_kind_53 ⟨Nat.zero_le _, Nat.zero_le _⟩ (fun u28 H locs h hP hD hS => ?_)
          obtain ⟨mo26, lo27⟩ := u28
          have hP : va_P D vwCl (cM kc a mo26 lo27) H := hP
          have hD : va_D A (cM kc a mo26 lo27) := hD
          refine lv_aload_n hx hb dX4_kind_56 rfl (lv_at hl 0 rfl) ?_
          refine lv_iload_n hx hb dX4_kind_57 rfl (lv_at hl 1 rfl) ?_
          refine lv_iconst (v := 1) hx hb dX4_kind_58 (by decide) ?_
          refine q_cVi (As := [.int p1, .int 1]) (rest := []) ⟨hx, hb, hml, hown, hts⟩ hK (c_X4_of l D kc a p1 (1 : Int32) mo26 lo27 H.size _ h) (cwV 2 hts gX4_kind_X4_of rfl rfl rfl (by decide +kernel) ⟨Nat.le_of_ble_eq_true rfl, Nat.le_of_ble_eq_true rfl⟩) (cut_same (fun u : S2 × SL => cM kc a u.1 u.2) (mo26, lo27)) hP hD hS hA 4 0 rfl rfl rfl hl.1 rfl (Nat.le_of_ble_eq_true rfl) dX4_kind_59 ⟨Nat.zero_le _, Nat.zero_le _⟩ (fun r31 u32 H locs h hP hD hS => ?_)
          obtain ⟨mo29, lo30⟩ := u32
          have hP : va_P D vwCl (cM kc a mo29 lo30) H := hP
          have hD : va_D A (cM kc a mo29 lo30) := hD
          refine lv_iload hx hb dX4_kind_62 (lv_at hl 4 rfl) ?_
          refine jn_elim h (fun J74 eJ74 h => ?_)
          have hJ_74 : ∀ (k33 : Int32) (ls : Array Slot), J74 k33 → lv_has ls 7 [(0, .ref (a 0)), (1, .int p1), (2, .int p2), (3, .int p3), (4, .int i13), (6, .int i15)] → W p l e rm_X4_kind s m args below meth c H locs 0 0 Q (F0 m 74 ls [.int k33]) := by
            intro k33 ls h hl
            subst eJ74
            refine lv_istore (lv' := [(5, .int k33), (0, .ref (a 0)), (1, .int p1), (2, .int p2), (3, .int p3), (4, .int i13), (6, .int i15)]) hx hb dX4_kind_74 hl (by decide) rfl (fun ls hl => ?_)
            refine lv_aload_n hx hb dX4_kind_76 rfl (lv_at hl 1 rfl) ?_
            refine lv_iload_n hx hb dX4_kind_77 rfl (lv_at hl 2 rfl) ?_
            refine lv_iconst (v := 1) hx hb dX4_kind_78 (by decide) ?_
            refine q_cVi (As := [.int p1, .int 1]) (rest := []) ⟨hx, hb, hml, hown, hts⟩ hK (c_X4_of l D kc a p1 (1 : Int32) mo29 lo30 H.size _ h) (cwV 2 hts gX4_kind_X4_of rfl rfl rfl (by decide +kernel) ⟨Nat.le_of_ble_eq_true rfl, Nat.le_of_ble_eq_true rfl⟩) (cut_same (fun u : S2 × SL => cM kc a u.1 u.2) (mo29, lo30)) hP hD hS hA 4 0 rfl rfl rfl hl.1 rfl (Nat.le_of_ble_eq_true rfl) dX4_kind_79 ⟨Nat.zero_le _, Nat.zero_le _⟩ (fun r36 u37 H locs h hP hD hS => ?_)
            obtain ⟨mo34, lo35⟩ := u37
            have hP : va_P D vwCl (cM kc a mo34 lo35) H := hP
            have hD : va_D A (cM kc a mo34 lo35) := hD
            refine lv_iload hx hb dX4_kind_82 (lv_at hl 5 rfl) ?_
            refine jn_elim h (fun J98 eJ98 h => ?_)
            have hJ_98 : ∀ (k38 : Int32) (mo39 : S2) (lo40 : SL) (ls : Array Slot) (H : Heap) (locs : List Loc), J98 k38 mo39 lo40 → lv_has ls 7 [(0, .ref (a 0)), (1, .int p1), (2, .int p2), (3, .int p3), (5, .int k33), (6, .int i15)] → va_P D vwCl (cM kc a mo39 lo40) H → va_D A (cM kc a mo39 lo40) → va_S A s.heap H locs → W p l e rm_X4_kind s m args below meth c H locs 0 0 Q (F0 m 98 ls [.int k38]) := by
              intro k38 mo39 lo40 ls H locs h hl hP hD hS
              subst eJ98
              refine lv_istore (lv' := [(4, .int k38), (0, .ref (a 0)), (1, .int p1), (2, .int p2), (3, .int p3), (5, .int k33), (6, .int i15)]) hx hb dX4_kind_98 hl (by decide) rfl (fun ls hl => ?_)
              obtain ⟨x41, ex41⟩ : ∃ z : Int32, z = i15 + 1 := ⟨_, rfl⟩
              have h := nm_out h x41 ex41
              refine lv_iinc (v := x41) (lv' := [(6, .int x41), (4, .int k38), (0, .ref (a 0)), (1, .int p1), (2, .int p2), (3, .int p3), (5, .int k33)]) hx hb dX4_kind_100 hl (k := 6) rfl (by rw [ex41]; rfl) (by decide) rfl (fun ls hl => ?_)
              refine lv_goto (tgt := 33) hx hb dX4_kind_103 (by decide) ?_
              exact h ls H locs (lv_sub hl [2, 3, 4, 5, 1, 6, 0] rfl) hP hD hS
            refine lv_icmp_le (tgt := 96) hx hb dX4_kind_84 (by decide) (fun c42 => ?_) (fun c42 => ?_)
            · have h := br1 h c42
              refine lv_iload hx hb dX4_kind_96 (lv_at hl 5 rfl) ?_
              exact hJ_98 i13 mo34 lo35 ls H locs h (lv_sub hl [1, 2, 3, 4, 0, 6] rfl) hP hD hS
            · have h := br2 h c42
              refine lv_aload_n hx hb dX4_kind_87 rfl (lv_at hl 1 rfl) ?_
              refine lv_iload_n hx hb dX4_kind_88 rfl (lv_at hl 2 rfl) ?_
              refine lv_iconst (v := 1) hx hb dX4_kind_89 (by decide) ?_
              refine q_cVi (As := [.int p1, .int 1]) (rest := []) ⟨hx, hb, hml, hown, hts⟩ hK (c_X4_of l D kc a p1 (1 : Int32) mo34 lo35 H.size _ h) (cwV 2 hts gX4_kind_X4_of rfl rfl rfl (by decide +kernel) ⟨Nat.le_of_ble_eq_true rfl, Nat.le_of_ble_eq_true rfl⟩) (cut_same (fun u : S2 × SL => cM kc a u.1 u.2) (mo34, lo35)) hP hD hS hA 4 0 rfl rfl rfl hl.1 rfl (Nat.le_of_ble_eq_true rfl) dX4_kind_90 ⟨Nat.zero_le _, Nat.zero_le _⟩ (fun r45 u46 H locs h hP hD hS => ?_)
              obtain ⟨mo43, lo44⟩ := u46
              have hP : va_P D vwCl (cM kc a mo43 lo44) H := hP
              have hD : va_D A (cM kc a mo43 lo44) := hD
              refine lv_goto (tgt := 98) hx hb dX4_kind_93 (by decide) ?_
              exact hJ_98 r45 mo43 lo44 ls H locs h (lv_sub hl [1, 2, 3, 4, 0, 6] rfl) hP hD hS
          refine lv_icmp_le (tgt := 72) hx hb dX4_kind_64 (by decide) (fun c47 => ?_) (fun c47 => ?_)
          · have h := br1 h c47
            refine lv_iload hx hb dX4_kind_72 (lv_at hl 5 rfl) ?_
            exact hJ_74 i14 ls h (lv_sub hl [0, 1, 2, 3, 4, 6] rfl)
          · have h := br2 h c47
            refine lv_iload hx hb dX4_kind_67 (lv_at hl 6 rfl) ?_
            refine lv_goto (tgt := 74) hx hb dX4_kind_69 (by decide) ?_
            exact hJ_74 i15 ls h (lv_sub hl [0, 1, 2, 3, 4, 6] rfl)
      · have h := br1 h c11
        refine lv_iconst (v := -1) hx hb dX4_kind_22 (by decide) ?_
        exact hret (-1) (mo1, lo2) H locs ls _ h hP hD hS dX4_kind_23

def w_X4_alms (p1 : Int32) (p2 : Int32) (mo : S2) (lo : SL) (K : Int32 → S2 → SL → Prop) : Prop := w_X4_isOne p1 mo lo (fun r3 mo1 lo2 => br (r3 = 0) (K (-1) mo1 lo2) (w_X4_isFar p2 (fun r6 => br (r6 = 0) (K (-1) mo1 lo2) (lfp3 (fun G19 (i9 : Int32) (mo10 : S2) (lo11 : SL) => br (99 < i9) (K (-4) mo10 lo11) (w_X4_starts mo10 lo11 (fun mo13 lo14 => w_X4_of p1 (1 : Int32) mo13 lo14 (fun r18 mo16 lo17 => w_X4_within (r18 + i9) (fun r20 => w_X4_becomesOf p1 (1 : Int32) r20 mo16 lo17 (fun mo22 lo23 => lfp4 (fun G52 (i25 : Int32) (i26 : Int32) (mo27 : S2) (lo28 : SL) => br (p2 ≤ i26) (br (i25 = 0) (K i9 mo27 lo28) (nm (i9 + 1 : Int32) (fun x31 => G19 x31 mo27 lo28))) (w_X4_quarterGoes mo27 lo28 (fun mo32 lo33 => jn (fun (k35 : Int32) (mo36 : S2) (lo37 : SL) => nm (i26 + 1 : Int32) (fun x38 => G52 k35 x38 mo36 lo37)) (fun J81 => jn (fun (mo39 : S2) (lo40 : SL) => J81 1 mo39 lo40) (fun J76 => br (i25 = 0) (w_X4_of p1 (1 : Int32) mo32 lo33 (fun r44 mo42 lo43 => br (r44 = 0) (J76 mo42 lo43) (J81 0 mo42 lo43))) (J76 mo32 lo33)))))) 0 0 mo22 lo23)))))) 0 mo1 lo2))))
abbrev rm_X4_alms : Room := { frames := 4, cells := 0, slots := 0, locals := 88 }
set_option maxHeartbeats 4000000 in
set_option maxRecDepth 100000 in
theorem c_X4_alms (l : Launch) (D : va_G) (kc : Nat → ClassId) (a : Nat → Nat) (p1 : Int32) (p2 : Int32) (mo : S2) (lo : SL) (sz : Nat) (K : Int32 → S2 → SL → Prop) (h : w_X4_alms p1 p2 mo lo K) : MetI l yX4_alms wsX4_alms rm_X4_alms D kc (fun u : S2 × SL => cM kc a u.1 u.2) (mo, lo) [.ref (a 0), .int p1, .int p2] sz (fun r u => K r u.1 u.2) := by
  refine q_ei (code := cX4_alms) (maxL := 6) (by decide) rfl (Nat.le_of_ble_eq_true rfl) ?_
  intro p e s m args below meth c Q A hx hb hml hts hown hK hA hret ls hl hP hD hS
  have hown : s.vm.findClass RX4 = some m.cls := hown
  have hl : lv_has ls 6 [(0, .ref (a 0)), (1, .int p1), (2, .int p2)] := hl
  have hP : va_P D vwCl (cM kc a mo lo) s.heap := hP
  have hD : va_D A (cM kc a mo lo) := hD
  have hS : va_S A s.heap s.heap [] := hS
  obtain ⟨H, eH⟩ : ∃ z, z = s.heap := ⟨_, rfl⟩
  obtain ⟨locs, eL⟩ : ∃ z : List Loc, z = [] := ⟨_, rfl⟩
  have hP := q_heap hP eH
  have hS := q_heapS hS eH eL
  refine q_start eH eL ?_
  clear eH eL
  unfold w_X4_alms at h
  refine lv_aload_n hx hb dX4_alms_0 rfl (lv_at hl 0 rfl) ?_
  refine lv_iload_n hx hb dX4_alms_1 rfl (lv_at hl 1 rfl) ?_
  refine q_cVi (As := [.int p1]) (rest := []) ⟨hx, hb, hml, hown, hts⟩ hK (c_X4_isOne l D kc a p1 mo lo H.size _ h) (cwV 1 hts gX4_alms_X4_isOne rfl rfl rfl (by decide +kernel) ⟨Nat.le_of_ble_eq_true rfl, Nat.le_of_ble_eq_true rfl⟩) (cut_same (fun u : S2 × SL => cM kc a u.1 u.2) (mo, lo)) hP hD hS hA 4 0 rfl rfl rfl hl.1 rfl (Nat.le_of_ble_eq_true rfl) dX4_alms_2 ⟨Nat.zero_le _, Nat.zero_le _⟩ (fun r3 u4 H locs h hP hD hS => ?_)
  obtain ⟨mo1, lo2⟩ := u4
  have hP : va_P D vwCl (cM kc a mo1 lo2) H := hP
  have hD : va_D A (cM kc a mo1 lo2) := hD
  refine lv_if_eq (tgt := 15) hx hb dX4_alms_5 (by decide) (fun c5 => ?_) (fun c5 => ?_)
  · have h := br1 h c5
    refine lv_iconst (v := -1) hx hb dX4_alms_15 (by decide) ?_
    exact hret (-1) (mo1, lo2) H locs ls _ h hP hD hS dX4_alms_16
  · have h := br2 h c5
    refine lv_iload_n hx hb dX4_alms_8 rfl (lv_at hl 2 rfl) ?_
    refine q_cSi (As := [.int p2]) (rest := []) ⟨hx, hb, hml, hown, hts⟩ hK (c_X4_isFar l D kc p2 H.size _ h) (va_cwS 1 hts gX4_alms_X4_isFar rfl rfl rfl (by decide +kernel) ⟨Nat.le_of_ble_eq_true rfl, Nat.le_of_ble_eq_true rfl⟩) (cut_nil _) hP hD hS hA rfl hl.1 rfl (Nat.le_of_ble_eq_true rfl) dX4_alms_9 ⟨Nat.zero_le _, Nat.zero_le _⟩ (fun r6 _ H locs h hP hD hS => ?_)
    have hP : va_P D vwCl (cM kc a mo1 lo2) H := hP
    have hD : va_D A (cM kc a mo1 lo2) := hD
    refine lv_if_ne (tgt := 17) hx hb dX4_alms_12 (by decide) (fun c8 => ?_) (fun c8 => ?_)
    · have h := br2 h c8
      refine lv_iconst (v := 0) hx hb dX4_alms_17 (by decide) ?_
      refine lv_istore_n (lv' := [(3, .int 0), (0, .ref (a 0)), (1, .int p1), (2, .int p2)]) hx hb dX4_alms_18 rfl hl (by decide) rfl (fun ls hl => ?_)
      refine h (fun (i9 : Int32) (mo10 : S2) (lo11 : SL) => ∀ (ls : Array Slot) (H : Heap) (locs : List Loc), lv_has ls 6 [(0, .ref (a 0)), (1, .int p1), (2, .int p2), (3, .int i9)] → va_P D vwCl (cM kc a mo10 lo11) H → va_D A (cM kc a mo10 lo11) → va_S A s.heap H locs → W p l e rm_X4_alms s m args below meth c H locs 0 0 Q (F0 m 19 ls [])) ?_ ls H locs (lv_sub hl [1, 2, 3, 0] rfl) hP hD hS
      intro i9 mo10 lo11 h ls H locs hl hP hD hS
      refine lv_iload_n hx hb dX4_alms_19 rfl (lv_at hl 3 rfl) ?_
      refine lv_bipush (v := 99) hx hb dX4_alms_20 (by decide) ?_
      refine lv_icmp_gt (tgt := 102) hx hb dX4_alms_22 (by decide) (fun c12 => ?_) (fun c12 => ?_)
      · have h := br1 h c12
        refine lv_bipush (v := -4) hx hb dX4_alms_102 (by decide) ?_
        exact hret (-4) (mo10, lo11) H locs ls _ h hP hD hS dX4_alms_104
      · have h := br2 h c12
        refine lv_iconst (v := 0) hx hb dX4_alms_25 (by decide) ?_
        refine lv_istore (lv' := [(4, .int 0), (0, .ref (a 0)), (1, .int p1), (2, .int p2), (3, .int i9)]) hx hb dX4_alms_26 hl (by decide) rfl (fun ls hl => ?_)
        refine lv_aload_n hx hb dX4_alms_28 rfl (lv_at hl 1 rfl) ?_
        refine q_cVv (As := []) (rest := []) ⟨hx, hb, hml, hown, hts⟩ hK (c_X4_starts l D kc a mo10 lo11 H.size _ h) (cwV 0 hts gX4_alms_X4_starts rfl rfl rfl (by decide +kernel) ⟨Nat.le_of_ble_eq_true rfl, Nat.le_of_ble_eq_true rfl⟩) (cut_same (fun u : S2 × SL => cM kc a u.1 u.2) (mo10, lo11)) hP hD hS hA 4 0 rfl rfl rfl hl.1 rfl (Nat.le_of_ble_eq_true rfl) dX4_alms_29 ⟨Nat.zero_le _, Nat.zero_le _⟩ (fun u15 H locs h hP hD hS => ?_)
        obtain ⟨mo13, lo14⟩ := u15
        have hP : va_P D vwCl (cM kc a mo13 lo14) H := hP
        have hD : va_D A (cM kc a mo13 lo14) := hD
        refine lv_aload_n hx hb dX4_alms_32 rfl (lv_at hl 1 rfl) ?_
        refine lv_iload_n hx hb dX4_alms_33 rfl (lv_at hl 2 rfl) ?_
        refine lv_iconst (v := 1) hx hb dX4_alms_34 (by decide) ?_
        refine lv_aload_n hx hb dX4_alms_35 rfl (lv_at hl 1 rfl) ?_
        refine lv_iload_n hx hb dX4_alms_36 rfl (lv_at hl 2 rfl) ?_
        refine lv_iconst (v := 1) hx hb dX4_alms_37 (by decide) ?_
        refine q_cVi (As := [.int p1, .int 1]) (rest := [.int 1, .int p1, .ref (a 0)]) ⟨hx, hb, hml, hown, hts⟩ hK (c_X4_of l D kc a p1 (1 : Int32) mo13 lo14 H.size _ h) (cwV 2 hts gX4_alms_X4_of rfl rfl rfl (by decide +kernel) ⟨Nat.le_of_ble_eq_true rfl, Nat.le_of_ble_eq_true rfl⟩) (cut_same (fun u : S2 × SL => cM kc a u.1 u.2) (mo13, lo14)) hP hD hS hA 4 0 rfl rfl rfl hl.1 rfl (Nat.le_of_ble_eq_true rfl) dX4_alms_38 ⟨Nat.zero_le _, Nat.zero_le _⟩ (fun r18 u19 H locs h hP hD hS => ?_)
        obtain ⟨mo16, lo17⟩ := u19
        have hP : va_P D vwCl (cM kc a mo16 lo17) H := hP
        have hD : va_D A (cM kc a mo16 lo17) := hD
        refine lv_iload_n hx hb dX4_alms_41 rfl (lv_at hl 4 rfl) ?_
        refine lv_iadd hx hb dX4_alms_42 ?_
        refine q_cSi (As := [.int (r18 + i9)]) (rest := [.int 1, .int p1, .ref (a 0)]) ⟨hx, hb, hml, hown, hts⟩ hK (c_X4_within l D kc (r18 + i9) H.size _ h) (va_cwS 1 hts gX4_alms_X4_within rfl rfl rfl (by decide +kernel) ⟨Nat.le_of_ble_eq_true rfl, Nat.le_of_ble_eq_true rfl⟩) (cut_nil _) hP hD hS hA rfl hl.1 rfl (Nat.le_of_ble_eq_true rfl) dX4_alms_43 ⟨Nat.zero_le _, Nat.zero_le _⟩ (fun r20 _ H locs h hP hD hS => ?_)
        have hP : va_P D vwCl (cM kc a mo16 lo17) H := hP
        have hD : va_D A (cM kc a mo16 lo17) := hD
        refine q_cVv (As := [.int p1, .int 1, .int r20]) (rest := []) ⟨hx, hb, hml, hown, hts⟩ hK (c_X4_becomesOf l D kc a p1 (1 : Int32) r20 mo16 lo17 H.size _ h) (cwV 3 hts gX4_alms_X4_becomesOf rfl rfl rfl (by decide +kernel) ⟨Nat.le_of_ble_eq_true rfl, Nat.le_of_ble_eq_true rfl⟩) (cut_same (fun u : S2 × SL => cM kc a u.1 u.2) (mo16, lo17)) hP hD hS hA 4 0 rfl rfl rfl hl.1 rfl (Nat.le_of_ble_eq_true rfl) dX4_alms_46 ⟨Nat.zero_le _, Nat.zero_le _⟩ (fun u24 H locs h hP hD hS => ?_)
        obtain ⟨mo22, lo23⟩ := u24
        have hP : va_P D vwCl (cM kc a mo22 lo23) H := hP
        have hD : va_D A (cM kc a mo22 lo23) := hD
        refine lv_iconst (v := 0) hx hb dX4_alms_49 (by decide) ?_
        refine lv_istore (lv' := [(5, .int 0), (4, .int 0), (0, .ref (a 0)), (1, .int p1), (2, .int p2), (3, .int i9)]) hx hb dX4_alms_50 hl (by decide) rfl (fun ls hl => ?_)
        refine h (fun (i25 : Int32) (i26 : Int32) (mo27 : S2) (lo28 : SL) => ∀ (ls : Array Slot) (H : Heap) (locs : List Loc), lv_has ls 6 [(0, .ref (a 0)), (1, .int p1), (2, .int p2), (3, .int i9), (4, .int i25), (5, .int i26)] → va_P D vwCl (cM kc a mo27 lo28) H → va_D A (cM kc a mo27 lo28) → va_S A s.heap H locs → W p l e rm_X4_alms s m args below meth c H locs 0 0 Q (F0 m 52 ls [])) ?_ ls H locs (lv_sub hl [2, 3, 4, 5, 1, 0] rfl) hP hD hS
        intro i25 i26 mo27 lo28 h ls H locs hl hP hD hS
        refine lv_iload hx hb dX4_alms_52 (lv_at hl 5 rfl) ?_
        refine lv_iload_n hx hb dX4_alms_54 rfl (lv_at hl 2 rfl) ?_
        refine lv_icmp_ge (tgt := 89) hx hb dX4_alms_55 (by decide) (fun c29 => ?_) (fun c29 => ?_)
        · have h := br1 h c29
          refine lv_iload hx hb dX4_alms_89 (lv_at hl 4 rfl) ?_
          refine lv_if_ne (tgt := 96) hx hb dX4_alms_91 (by decide) (fun c30 => ?_) (fun c30 => ?_)
          · have h := br2 h c30
            obtain ⟨x31, ex31⟩ : ∃ z : Int32, z = i9 + 1 := ⟨_, rfl⟩
            have h := nm_out h x31 ex31
            refine lv_iinc (v := x31) (lv' := [(3, .int x31), (0, .ref (a 0)), (1, .int p1), (2, .int p2), (4, .int i25), (5, .int i26)]) hx hb dX4_alms_96 hl (k := 3) rfl (by rw [ex31]; rfl) (by decide) rfl (fun ls hl => ?_)
            refine lv_goto (tgt := 19) hx hb dX4_alms_99 (by decide) ?_
            exact h ls H locs (lv_sub hl [1, 2, 3, 0] rfl) hP hD hS
          · have h := br1 h c30
            refine lv_iload_n hx hb dX4_alms_94 rfl (lv_at hl 3 rfl) ?_
            exact hret i9 (mo27, lo28) H locs ls _ h hP hD hS dX4_alms_95
        · have h := br2 h c29
          refine lv_aload_n hx hb dX4_alms_58 rfl (lv_at hl 0 rfl) ?_
          refine q_cVv (As := []) (rest := []) ⟨hx, hb, hml, hown, hts⟩ hK (c_X4_quarterGoes l D kc a mo27 lo28 H.size _ h) (cwV 0 hts gX4_alms_X4_quarterGoes rfl rfl rfl (by decide +kernel) ⟨Nat.le_of_ble_eq_true rfl, Nat.le_of_ble_eq_true rfl⟩) (cut_same (fun u : S2 × SL => cM kc a u.1 u.2) (mo27, lo28)) hP hD hS hA 4 0 rfl rfl rfl hl.1 rfl (Nat.le_of_ble_eq_true rfl) dX4_alms_59 ⟨Nat.zero_le _, Nat.zero_le _⟩ (fun u34 H locs h hP hD hS => ?_)
          obtain ⟨mo32, lo33⟩ := u34
          have hP : va_P D vwCl (cM kc a mo32 lo33) H := hP
          have hD : va_D A (cM kc a mo32 lo33) := hD
          refine lv_iload hx hb dX4_alms_62 (lv_at hl 4 rfl) ?_
          refine jn_elim h (fun J81 eJ81 h => ?_)
          have hJ_81 : ∀ (k35 : Int32) (mo36 : S2) (lo37 : SL) (ls : Array Slot) (H : Heap) (locs : List Loc), J81 k35 mo36 lo37 → lv_has ls 6 [(0, .ref (a 0)), (1, .int p1), (2, .int p2), (3, .int i9), (5, .int i26)] → va_P D vwCl (cM kc a mo36 lo37) H → va_D A (cM kc a mo36 lo37) → va_S A s.heap H locs → W p l e rm_X4_alms s m args below meth c H locs 0 0 Q (F0 m 81 ls [.int k35]) := by
            intro k35 mo36 lo37 ls H locs h hl hP hD hS
            subst eJ81
            refine lv_istore (lv' := [(4, .int k35), (0, .ref (a 0)), (1, .int p1), (2, .int p2), (3, .int i9), (5, .int i26)]) hx hb dX4_alms_81 hl (by decide) rfl (fun ls hl => ?_)
            obtain ⟨x38, ex38⟩ : ∃ z : Int32, z = i26 + 1 := ⟨_, rfl⟩
            have h := nm_out h x38 ex38
            refine lv_iinc (v := x38) (lv' := [(5, .int x38), (4, .int k35), (0, .ref (a 0)), (1, .int p1), (2, .int p2), (3, .int i9)]) hx hb dX4_alms_83 hl (k := 5) rfl (by rw [ex38]; rfl) (by decide) rfl (fun ls hl => ?_)
            refine lv_goto (tgt := 52) hx hb dX4_alms_86 (by decide) ?_
            exact h ls H locs (lv_sub hl [2, 3, 4, 5, 1, 0] rfl) hP hD hS
          refine jn_elim h (fun J76 eJ76 h => ?_)
          have hJ_76 : ∀ (mo39 : S2) (lo40 : SL) (ls : Array Slot) (H : Heap) (locs : List Loc), J76 mo39 lo40 → lv_has ls 6 [(0, .ref (a 0)), (1, .int p1), (2, .int p2), (3, .int i9), (5, .int i26)] → va_P D vwCl (cM kc a mo39 lo40) H → va_D A (cM kc a mo39 lo40) → va_S A s.heap H locs → W p l e rm_X4_alms s m args below meth c H locs 0 0 Q (F0 m 76 ls []) := by
            intro mo39 lo40 ls H locs h hl hP hD hS
            subst eJ76
            refine lv_iconst (v := 1) hx hb dX4_alms_76 (by decide) ?_
            refine lv_goto (tgt := 81) hx hb dX4_alms_77 (by decide) ?_
            exact hJ_81 1 mo39 lo40 ls H locs h (lv_sub hl [0, 1, 2, 3, 4] rfl) hP hD hS
          refine lv_if_ne (tgt := 76) hx hb dX4_alms_64 (by decide) (fun c41 => ?_) (fun c41 => ?_)
          · have h := br2 h c41
            exact hJ_76 mo32 lo33 ls H locs h (lv_sub hl [0, 1, 2, 3, 5] rfl) hP hD hS
          · have h := br1 h c41
            refine lv_aload_n hx hb dX4_alms_67 rfl (lv_at hl 0 rfl) ?_
            refine lv_iload_n hx hb dX4_alms_68 rfl (lv_at hl 1 rfl) ?_
            refine lv_iconst (v := 1) hx hb dX4_alms_69 (by decide) ?_
            refine q_cVi (As := [.int p1, .int 1]) (rest := []) ⟨hx, hb, hml, hown, hts⟩ hK (c_X4_of l D kc a p1 (1 : Int32) mo32 lo33 H.size _ h) (cwV 2 hts gX4_alms_X4_of rfl rfl rfl (by decide +kernel) ⟨Nat.le_of_ble_eq_true rfl, Nat.le_of_ble_eq_true rfl⟩) (cut_same (fun u : S2 × SL => cM kc a u.1 u.2) (mo32, lo33)) hP hD hS hA 4 0 rfl rfl rfl hl.1 rfl (Nat.le_of_ble_eq_true rfl) dX4_alms_70 ⟨Nat.zero_le _, Nat.zero_le _⟩ (fun r44 u45 H locs h hP hD hS => ?_)
            obtain ⟨mo42, lo43⟩ := u45
            have hP : va_P D vwCl (cM kc a mo42 lo43) H := hP
            have hD : va_D A (cM kc a mo42 lo43) := hD
            refine lv_if_ne (tgt := 80) hx hb dX4_alms_73 (by decide) (fun c46 => ?_) (fun c46 => ?_)
            · have h := br2 h c46
              refine lv_iconst (v := 0) hx hb dX4_alms_80 (by decide) ?_
              exact hJ_81 0 mo42 lo43 ls H locs h (lv_sub hl [0, 1, 2, 3, 5] rfl) hP hD hS
            · have h := br1 h c46
              exact hJ_76 mo42 lo43 ls H locs h (lv_sub hl [0, 1, 2, 3, 5] rfl) hP hD hS
    · have h := br1 h c8
      refine lv_iconst (v := -1) hx hb dX4_alms_15 (by decide) ?_
      exact hret (-1) (mo1, lo2) H locs ls _ h hP hD hS dX4_alms_16

def w_X4_ruinedBehind (p1 : Int32) (mo : S2) (lo : SL) (K : Int32 → S2 → SL → Prop) : Prop := w_X4_quartersGo p1 mo lo (fun mo1 lo2 => w_X4_ruined mo1 lo2 (fun r6 mo4 lo5 => w_X4_bitsOf r6 (fun r8 => K r8 mo4 lo5)))
abbrev rm_X4_ruinedBehind : Room := { frames := 5, cells := 0, slots := 0, locals := 110 }
set_option maxHeartbeats 4000000 in
set_option maxRecDepth 100000 in
theorem c_X4_ruinedBehind (l : Launch) (D : va_G) (kc : Nat → ClassId) (a : Nat → Nat) (p1 : Int32) (mo : S2) (lo : SL) (sz : Nat) (K : Int32 → S2 → SL → Prop) (h : w_X4_ruinedBehind p1 mo lo K) : MetI l yX4_ruinedBehind wsX4_ruinedBehind rm_X4_ruinedBehind D kc (fun u : S2 × SL => cM kc a u.1 u.2) (mo, lo) [.ref (a 0), .int p1] sz (fun r u => K r u.1 u.2) := by
  refine q_ei (code := cX4_ruinedBehind) (maxL := 2) (by decide) rfl (Nat.le_of_ble_eq_true rfl) ?_
  intro p e s m args below meth c Q A hx hb hml hts hown hK hA hret ls hl hP hD hS
  have hown : s.vm.findClass RX4 = some m.cls := hown
  have hl : lv_has ls 2 [(0, .ref (a 0)), (1, .int p1)] := hl
  have hP : va_P D vwCl (cM kc a mo lo) s.heap := hP
  have hD : va_D A (cM kc a mo lo) := hD
  have hS : va_S A s.heap s.heap [] := hS
  obtain ⟨H, eH⟩ : ∃ z, z = s.heap := ⟨_, rfl⟩
  obtain ⟨locs, eL⟩ : ∃ z : List Loc, z = [] := ⟨_, rfl⟩
  have hP := q_heap hP eH
  have hS := q_heapS hS eH eL
  refine q_start eH eL ?_
  clear eH eL
  unfold w_X4_ruinedBehind at h
  refine lv_aload_n hx hb dX4_ruinedBehind_0 rfl (lv_at hl 0 rfl) ?_
  refine lv_iload_n hx hb dX4_ruinedBehind_1 rfl (lv_at hl 1 rfl) ?_
  refine q_cVv (As := [.int p1]) (rest := []) ⟨hx, hb, hml, hown, hts⟩ hK (c_X4_quartersGo l D kc a p1 mo lo H.size _ h) (cwV 1 hts gX4_ruinedBehind_X4_quartersGo rfl rfl rfl (by decide +kernel) ⟨Nat.le_of_ble_eq_true rfl, Nat.le_of_ble_eq_true rfl⟩) (cut_same (fun u : S2 × SL => cM kc a u.1 u.2) (mo, lo)) hP hD hS hA 4 0 rfl rfl rfl hl.1 rfl (Nat.le_of_ble_eq_true rfl) dX4_ruinedBehind_2 ⟨Nat.zero_le _, Nat.zero_le _⟩ (fun u3 H locs h hP hD hS => ?_)
  obtain ⟨mo1, lo2⟩ := u3
  have hP : va_P D vwCl (cM kc a mo1 lo2) H := hP
  have hD : va_D A (cM kc a mo1 lo2) := hD
  refine lv_aload_n hx hb dX4_ruinedBehind_5 rfl (lv_at hl 0 rfl) ?_
  refine q_cVi (As := []) (rest := []) ⟨hx, hb, hml, hown, hts⟩ hK (c_X4_ruined l D kc a mo1 lo2 H.size _ h) (cwV 0 hts gX4_ruinedBehind_X4_ruined rfl rfl rfl (by decide +kernel) ⟨Nat.le_of_ble_eq_true rfl, Nat.le_of_ble_eq_true rfl⟩) (cut_same (fun u : S2 × SL => cM kc a u.1 u.2) (mo1, lo2)) hP hD hS hA 4 0 rfl rfl rfl hl.1 rfl (Nat.le_of_ble_eq_true rfl) dX4_ruinedBehind_6 ⟨Nat.zero_le _, Nat.zero_le _⟩ (fun r6 u7 H locs h hP hD hS => ?_)
  obtain ⟨mo4, lo5⟩ := u7
  have hP : va_P D vwCl (cM kc a mo4 lo5) H := hP
  have hD : va_D A (cM kc a mo4 lo5) := hD
  refine q_cSi (As := [.int r6]) (rest := []) ⟨hx, hb, hml, hown, hts⟩ hK (c_X4_bitsOf l D kc r6 H.size _ h) (va_cwS 1 hts gX4_ruinedBehind_X4_bitsOf rfl rfl rfl (by decide +kernel) ⟨Nat.le_of_ble_eq_true rfl, Nat.le_of_ble_eq_true rfl⟩) (cut_nil _) hP hD hS hA rfl hl.1 rfl (Nat.le_of_ble_eq_true rfl) dX4_ruinedBehind_9 ⟨Nat.zero_le _, Nat.zero_le _⟩ (fun r8 _ H locs h hP hD hS => ?_)
  have hP : va_P D vwCl (cM kc a mo4 lo5) H := hP
  have hD : va_D A (cM kc a mo4 lo5) := hD
  exact hret r8 (mo4, lo5) H locs ls _ h hP hD hS dX4_ruinedBehind_12

