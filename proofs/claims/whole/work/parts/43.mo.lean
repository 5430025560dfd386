def w_X4_text (mo : S2) (lo : SL) (K : Int32 → S2 → SL → Prop) : Prop := nm ((va_up mo 0 (upd (mo 0) 15 0)) : S2) (fun mo1 => nm ((va_up mo1 0 (upd (mo1 0) 11 0)) : S2) (fun mo2 => w_X4_firstDraft mo2 lo (fun mo3 lo4 => w_X4_takes mo3 lo4 (fun mo6 lo7 => lfp3 (fun G20 (i9 : Int32) (mo10 : S2) (lo11 : SL) => jn (fun (_ : Unit) => jn (fun (mo12 : S2) (lo13 : SL) => nm ((va_up mo12 0 (upd (mo12 0) 10 0)) : S2) (fun mo14 => br ((mo14 0 15) ≤ 0) (w_X4_keepDraft mo14 lo13 (fun mo16 lo17 => K i9 mo16 lo17)) (K ((-10) - (mo14 0 16)) mo14 lo13))) (fun J73 => br ((mo10 0 15) = 0) (jn (fun (k20 : Int32) => w_X4_needs k20 (6 : Int32) mo10 lo11 (fun mo21 lo22 => J73 mo21 lo22)) (fun J68 => br ((mo10 0 5) ≤ (mo10 0 8)) (J68 0) (J68 1))) (J73 mo10 lo11))) (fun J44 => br ((mo10 0 15) = 0) (br ((mo10 0 13) = 0) (J44 ()) (w_X4_readLine mo10 lo11 (fun mo27 lo28 => nm (i9 + 1 : Int32) (fun x30 => G20 x30 mo27 lo28)))) (J44 ()))) 0 mo6 lo7))))
abbrev rm_X4_text : Room := { frames := 7, cells := 0, slots := 0, locals := 155 }
set_option maxHeartbeats 4000000 in
set_option maxRecDepth 100000 in
theorem c_X4_text (l : Launch) (D : va_G) (kc : Nat → ClassId) (a : Nat → Nat) (mo : S2) (lo : SL) (sz : Nat) (K : Int32 → S2 → SL → Prop) (h : w_X4_text mo lo K) : MetI l yX4_text wsX4_text rm_X4_text D kc (fun u : S2 × SL => cM kc a u.1 u.2) (mo, lo) [.ref (a 0)] sz (fun r u => K r u.1 u.2) := by
  refine q_ei (code := cX4_text) (maxL := 2) (by decide) rfl (Nat.le_of_ble_eq_true rfl) ?_
  intro p e s m args below meth c Q A hx hb hml hts hown hK hA hret ls hl hP hD hS
  have hown : s.vm.findClass RX4 = some m.cls := hown
  have hl : lv_has ls 2 [(0, .ref (a 0))] := hl
  have hP : va_P D vwCl (cM kc a mo lo) s.heap := hP
  have hD : va_D A (cM kc a mo lo) := hD
  have hS : va_S A s.heap s.heap [] := hS
  obtain ⟨H, eH⟩ : ∃ z, z = s.heap := ⟨_, rfl⟩
  obtain ⟨locs, eL⟩ : ∃ z : List Loc, z = [] := ⟨_, rfl⟩
  have hP := q_heap hP eH
  have hS := q_heapS hS eH eL
  refine q_start eH eL ?_
  clear eH eL
  have hi4 : ∀ w ∈ u_ws RX4 TX4 29, w ∈ wsX4_text := by decide +kernel
  unfold w_X4_text at h
  refine lv_iconst (v := 0) hx hb dX4_text_0 (by decide) ?_
  refine lv_istore_n (lv' := [(1, .int 0), (0, .ref (a 0))]) hx hb dX4_text_1 rfl hl (by decide) rfl (fun ls hl => ?_)
  refine lv_aload_n hx hb dX4_text_2 rfl (lv_at hl 1 rfl) ?_
  refine lv_iconst (v := 0) hx hb dX4_text_3 (by decide) ?_
  refine va_put (D := D) (ci := 4) (v := .int 0) (ty := .int) (C := RX4) (T := TX4) (N := 29) hx hb hts hi4 tyX4 tyX4_ok nmX4 hown hK.1 hP hD hS 0 rfl rfl 15 (by decide) (hts (.fieldLink RX4 79 "LastPennyModel" "fault" "I") (by decide +kernel)) (fun _ h9 => h9) rfl (by decide +kernel) rfl rfl (Nat.le_of_ble_eq_true rfl) dX4_text_4 (fun H locs hP hD hS => ?_)
  obtain ⟨mo1, emo1⟩ : ∃ z, z = (va_up mo 0 (upd (mo 0) 15 0)) := ⟨_, rfl⟩
  have h := nm_out h mo1 emo1
  have hP : va_P D vwCl (cM kc a mo1 lo) H := q_to hP (by subst emo1; rfl)
  have hD : va_D A (cM kc a mo1 lo) := q_toD hD (by subst emo1; rfl)
  refine lv_aload_n hx hb dX4_text_7 rfl (lv_at hl 1 rfl) ?_
  refine lv_iconst (v := 0) hx hb dX4_text_8 (by decide) ?_
  refine va_put (D := D) (ci := 4) (v := .int 0) (ty := .int) (C := RX4) (T := TX4) (N := 29) hx hb hts hi4 tyX4 tyX4_ok nmX4 hown hK.1 hP hD hS 0 rfl rfl 11 (by decide) (hts (.fieldLink RX4 88 "LastPennyModel" "pos" "I") (by decide +kernel)) (fun _ h9 => h9) rfl (by decide +kernel) rfl rfl (Nat.le_of_ble_eq_true rfl) dX4_text_9 (fun H locs hP hD hS => ?_)
  obtain ⟨mo2, emo2⟩ : ∃ z, z = (va_up mo1 0 (upd (mo1 0) 11 0)) := ⟨_, rfl⟩
  have h := nm_out h mo2 emo2
  have hP : va_P D vwCl (cM kc a mo2 lo) H := q_to hP (by subst emo2; rfl)
  have hD : va_D A (cM kc a mo2 lo) := q_toD hD (by subst emo2; rfl)
  refine lv_aload_n hx hb dX4_text_12 rfl (lv_at hl 1 rfl) ?_
  refine q_cVv (As := []) (rest := []) ⟨hx, hb, hml, hown, hts⟩ hK (c_X4_firstDraft l D kc a mo2 lo H.size _ h) (cwV 0 hts gX4_text_X4_firstDraft rfl rfl rfl (by decide +kernel) ⟨Nat.le_of_ble_eq_true rfl, Nat.le_of_ble_eq_true rfl⟩) (cut_same (fun u : S2 × SL => cM kc a u.1 u.2) (mo2, lo)) hP hD hS hA 4 0 rfl rfl rfl hl.1 rfl (Nat.le_of_ble_eq_true rfl) dX4_text_13 ⟨Nat.zero_le _, Nat.zero_le _⟩ (fun u5 H locs h hP hD hS => ?_)
  obtain ⟨mo3, lo4⟩ := u5
  have hP : va_P D vwCl (cM kc a mo3 lo4) H := hP
  have hD : va_D A (cM kc a mo3 lo4) := hD
  refine lv_aload_n hx hb dX4_text_16 rfl (lv_at hl 1 rfl) ?_
  refine q_cVv (As := []) (rest := []) ⟨hx, hb, hml, hown, hts⟩ hK (c_X4_takes l D kc a mo3 lo4 H.size _ h) (cwV 0 hts gX4_text_X4_takes rfl rfl rfl (by decide +kernel) ⟨Nat.le_of_ble_eq_true rfl, Nat.le_of_ble_eq_true rfl⟩) (cut_same (fun u : S2 × SL => cM kc a u.1 u.2) (mo3, lo4)) hP hD hS hA 4 0 rfl rfl rfl hl.1 rfl (Nat.le_of_ble_eq_true rfl) dX4_text_17 ⟨Nat.zero_le _, Nat.zero_le _⟩ (fun u8 H locs h hP hD hS => ?_)
  obtain ⟨mo6, lo7⟩ := u8
  have hP : va_P D vwCl (cM kc a mo6 lo7) H := hP
  have hD : va_D A (cM kc a mo6 lo7) := hD
  refine h (fun (i9 : Int32) (mo10 : S2) (lo11 : SL) => ∀ (ls : Array Slot) (H : Heap) (locs : List Loc), lv_has ls 2 [(0, .ref (a 0)), (1, .int i9)] → va_P D vwCl (cM kc a mo10 lo11) H → va_D A (cM kc a mo10 lo11) → va_S A s.heap H locs → W p l e rm_X4_text s m args below meth c H locs 0 0 Q (F0 m 20 ls [])) ?_ ls H locs (lv_sub hl [1, 0] rfl) hP hD hS
  intro i9 mo10 lo11 h ls H locs hl hP hD hS
  refine lv_aload_n hx hb dX4_text_20 rfl (lv_at hl 0 rfl) ?_
  refine va_get (D := D) (ci := 4) (v := .int (mo10 0 15)) (C := RX4) (T := TX4) (N := 29) hx hb hts hi4 hown hK.1 hP 0 rfl rfl 15 (by decide) (hts (.fieldLink RX4 79 "LastPennyModel" "fault" "I") (by decide +kernel)) (fun _ h9 => h9) rfl dX4_text_21 ?_
  refine jn_elim h (fun J44 eJ44 h => ?_)
  have hJ_44 : ∀  (ls : Array Slot), J44 () → lv_has ls 2 [(0, .ref (a 0)), (1, .int i9)] → W p l e rm_X4_text s m args below meth c H locs 0 0 Q (F0 m 44 ls []) := by
    intro  ls h hl
    subst eJ44
    refine lv_aload_n hx hb dX4_text_44 rfl (lv_at hl 0 rfl) ?_
    refine va_get (D := D) (ci := 4) (v := .int (mo10 0 15)) (C := RX4) (T := TX4) (N := 29) hx hb hts hi4 hown hK.1 hP 0 rfl rfl 15 (by decide) (hts (.fieldLink RX4 79 "LastPennyModel" "fault" "I") (by decide +kernel)) (fun _ h9 => h9) rfl dX4_text_45 ?_
    refine jn_elim h (fun J73 eJ73 h => ?_)
    have hJ_73 : ∀ (mo12 : S2) (lo13 : SL) (ls : Array Slot) (H : Heap) (locs : List Loc), J73 mo12 lo13 → lv_has ls 2 [(0, .ref (a 0)), (1, .int i9)] → va_P D vwCl (cM kc a mo12 lo13) H → va_D A (cM kc a mo12 lo13) → va_S A s.heap H locs → W p l e rm_X4_text s m args below meth c H locs 0 0 Q (F0 m 73 ls []) := by
      intro mo12 lo13 ls H locs h hl hP hD hS
      subst eJ73
      refine lv_aload_n hx hb dX4_text_73 rfl (lv_at hl 0 rfl) ?_
      refine lv_iconst (v := 0) hx hb dX4_text_74 (by decide) ?_
      refine va_put (D := D) (ci := 4) (v := .int 0) (ty := .int) (C := RX4) (T := TX4) (N := 29) hx hb hts hi4 tyX4 tyX4_ok nmX4 hown hK.1 hP hD hS 0 rfl rfl 10 (by decide) (hts (.fieldLink RX4 76 "LastPennyModel" "taped" "I") (by decide +kernel)) (fun _ h9 => h9) rfl (by decide +kernel) rfl rfl (Nat.le_of_ble_eq_true rfl) dX4_text_75 (fun H locs hP hD hS => ?_)
      obtain ⟨mo14, emo14⟩ : ∃ z, z = (va_up mo12 0 (upd (mo12 0) 10 0)) := ⟨_, rfl⟩
      have h := nm_out h mo14 emo14
      have hP : va_P D vwCl (cM kc a mo14 lo13) H := q_to hP (by subst emo14; rfl)
      have hD : va_D A (cM kc a mo14 lo13) := q_toD hD (by subst emo14; rfl)
      refine lv_aload_n hx hb dX4_text_78 rfl (lv_at hl 0 rfl) ?_
      refine va_get (D := D) (ci := 4) (v := .int (mo14 0 15)) (C := RX4) (T := TX4) (N := 29) hx hb hts hi4 hown hK.1 hP 0 rfl rfl 15 (by decide) (hts (.fieldLink RX4 79 "LastPennyModel" "fault" "I") (by decide +kernel)) (fun _ h9 => h9) rfl dX4_text_79 ?_
      refine lv_if_le (tgt := 93) hx hb dX4_text_82 (by decide) (fun c15 => ?_) (fun c15 => ?_)
      · have h := br1 h c15
        refine lv_aload_n hx hb dX4_text_93 rfl (lv_at hl 0 rfl) ?_
        refine q_cVv (As := []) (rest := []) ⟨hx, hb, hml, hown, hts⟩ hK (c_X4_keepDraft l D kc a mo14 lo13 H.size _ h) (cwV 0 hts gX4_text_X4_keepDraft rfl rfl rfl (by decide +kernel) ⟨Nat.le_of_ble_eq_true rfl, Nat.le_of_ble_eq_true rfl⟩) (cut_same (fun u : S2 × SL => cM kc a u.1 u.2) (mo14, lo13)) hP hD hS hA 4 0 rfl rfl rfl hl.1 rfl (Nat.le_of_ble_eq_true rfl) dX4_text_94 ⟨Nat.zero_le _, Nat.zero_le _⟩ (fun u18 H locs h hP hD hS => ?_)
        obtain ⟨mo16, lo17⟩ := u18
        have hP : va_P D vwCl (cM kc a mo16 lo17) H := hP
        have hD : va_D A (cM kc a mo16 lo17) := hD
        refine lv_iload_n hx hb dX4_text_97 rfl (lv_at hl 1 rfl) ?_
        exact hret i9 (mo16, lo17) H locs ls _ h hP hD hS dX4_text_98
      · have h := br2 h c15
        refine lv_bipush (v := -10) hx hb dX4_text_85 (by decide) ?_
        refine lv_aload_n hx hb dX4_text_87 rfl (lv_at hl 0 rfl) ?_
        refine va_get (D := D) (ci := 4) (v := .int (mo14 0 16)) (C := RX4) (T := TX4) (N := 29) hx hb hts hi4 hown hK.1 hP 0 rfl rfl 16 (by decide) (hts (.fieldLink RX4 85 "LastPennyModel" "wrongAt" "I") (by decide +kernel)) (fun _ h9 => h9) rfl dX4_text_88 ?_
        refine lv_isub hx hb dX4_text_91 ?_
        exact hret ((-10) - (mo14 0 16)) (mo14, lo13) H locs ls _ h hP hD hS dX4_text_92
    refine lv_if_ne (tgt := 73) hx hb dX4_text_48 (by decide) (fun c19 => ?_) (fun c19 => ?_)
    · have h := br2 h c19
      exact hJ_73 mo10 lo11 ls H locs h (lv_sub hl [0, 1] rfl) hP hD hS
    · have h := br1 h c19
      refine lv_aload_n hx hb dX4_text_51 rfl (lv_at hl 0 rfl) ?_
      refine lv_aload_n hx hb dX4_text_52 rfl (lv_at hl 0 rfl) ?_
      refine va_get (D := D) (ci := 4) (v := .int (mo10 0 8)) (C := RX4) (T := TX4) (N := 29) hx hb hts hi4 hown hK.1 hP 0 rfl rfl 8 (by decide) (hts (.fieldLink RX4 64 "LastPennyModel" "highest" "I") (by decide +kernel)) (fun _ h9 => h9) rfl dX4_text_53 ?_
      refine lv_aload_n hx hb dX4_text_56 rfl (lv_at hl 0 rfl) ?_
      refine va_get (D := D) (ci := 4) (v := .int (mo10 0 5)) (C := RX4) (T := TX4) (N := 29) hx hb hts hi4 hown hK.1 hP 0 rfl rfl 5 (by decide) (hts (.fieldLink RX4 53 "LastPennyModel" "dPeople" "I") (by decide +kernel)) (fun _ h9 => h9) rfl dX4_text_57 ?_
      refine jn_elim h (fun J68 eJ68 h => ?_)
      have hJ_68 : ∀ (k20 : Int32) (ls : Array Slot), J68 k20 → lv_has ls 2 [(0, .ref (a 0)), (1, .int i9)] → W p l e rm_X4_text s m args below meth c H locs 0 0 Q (F0 m 68 ls [.int k20, .ref (a 0)]) := by
        intro k20 ls h hl
        subst eJ68
        refine lv_bipush (v := 6) hx hb dX4_text_68 (by decide) ?_
        refine q_cVv (As := [.int k20, .int 6]) (rest := []) ⟨hx, hb, hml, hown, hts⟩ hK (c_X4_needs l D kc a k20 (6 : Int32) mo10 lo11 H.size _ h) (cwV 2 hts gX4_text_X4_needs rfl rfl rfl (by decide +kernel) ⟨Nat.le_of_ble_eq_true rfl, Nat.le_of_ble_eq_true rfl⟩) (cut_same (fun u : S2 × SL => cM kc a u.1 u.2) (mo10, lo11)) hP hD hS hA 4 0 rfl rfl rfl hl.1 rfl (Nat.le_of_ble_eq_true rfl) dX4_text_70 ⟨Nat.zero_le _, Nat.zero_le _⟩ (fun u23 H locs h hP hD hS => ?_)
        obtain ⟨mo21, lo22⟩ := u23
        have hP : va_P D vwCl (cM kc a mo21 lo22) H := hP
        have hD : va_D A (cM kc a mo21 lo22) := hD
        exact hJ_73 mo21 lo22 ls H locs h (lv_sub hl [0, 1] rfl) hP hD hS
      refine lv_icmp_ge (tgt := 67) hx hb dX4_text_60 (by decide) (fun c24 => ?_) (fun c24 => ?_)
      · have h := br1 h c24
        refine lv_iconst (v := 0) hx hb dX4_text_67 (by decide) ?_
        exact hJ_68 0 ls h (lv_sub hl [0, 1] rfl)
      · have h := br2 h c24
        refine lv_iconst (v := 1) hx hb dX4_text_63 (by decide) ?_
        refine lv_goto (tgt := 68) hx hb dX4_text_64 (by decide) ?_
        exact hJ_68 1 ls h (lv_sub hl [0, 1] rfl)
  refine lv_if_ne (tgt := 44) hx hb dX4_text_24 (by decide) (fun c25 => ?_) (fun c25 => ?_)
  · have h := br2 h c25
    exact hJ_44 ls h (lv_sub hl [0, 1] rfl)
  · have h := br1 h c25
    refine lv_aload_n hx hb dX4_text_27 rfl (lv_at hl 0 rfl) ?_
    refine va_get (D := D) (ci := 4) (v := .int (mo10 0 13)) (C := RX4) (T := TX4) (N := 29) hx hb hts hi4 hown hK.1 hP 0 rfl rfl 13 (by decide) (hts (.fieldLink RX4 107 "LastPennyModel" "sort" "I") (by decide +kernel)) (fun _ h9 => h9) rfl dX4_text_28 ?_
    refine lv_if_eq (tgt := 44) hx hb dX4_text_31 (by decide) (fun c26 => ?_) (fun c26 => ?_)
    · have h := br1 h c26
      exact hJ_44 ls h (lv_sub hl [0, 1] rfl)
    · have h := br2 h c26
      refine lv_aload_n hx hb dX4_text_34 rfl (lv_at hl 0 rfl) ?_
      refine q_cVv (As := []) (rest := []) ⟨hx, hb, hml, hown, hts⟩ hK (c_X4_readLine l D kc a mo10 lo11 H.size _ h) (cwV 0 hts gX4_text_X4_readLine rfl rfl rfl (by decide +kernel) ⟨Nat.le_of_ble_eq_true rfl, Nat.le_of_ble_eq_true rfl⟩) (cut_same (fun u : S2 × SL => cM kc a u.1 u.2) (mo10, lo11)) hP hD hS hA 4 0 rfl rfl rfl hl.1 rfl (Nat.le_of_ble_eq_true rfl) dX4_text_35 ⟨Nat.zero_le _, Nat.zero_le _⟩ (fun u29 H locs h hP hD hS => ?_)
      obtain ⟨mo27, lo28⟩ := u29
      have hP : va_P D vwCl (cM kc a mo27 lo28) H := hP
      have hD : va_D A (cM kc a mo27 lo28) := hD
      obtain ⟨x30, ex30⟩ : ∃ z : Int32, z = i9 + 1 := ⟨_, rfl⟩
      have h := nm_out h x30 ex30
      refine lv_iinc (v := x30) (lv' := [(1, .int x30), (0, .ref (a 0))]) hx hb dX4_text_38 hl (k := 1) rfl (by rw [ex30]; rfl) (by decide) rfl (fun ls hl => ?_)
      refine lv_goto (tgt := 20) hx hb dX4_text_41 (by decide) ?_
      exact h ls H locs (lv_sub hl [1, 0] rfl) hP hD hS

def w_X4_fault (mo : S2) (lo : SL) (K : Int32 → S2 → SL → Prop) : Prop := K (mo 0 15) mo lo
abbrev rm_X4_fault : Room := { frames := 0, cells := 0, slots := 0, locals := 0 }
set_option maxHeartbeats 4000000 in
set_option maxRecDepth 100000 in
theorem c_X4_fault (l : Launch) (D : va_G) (kc : Nat → ClassId) (a : Nat → Nat) (mo : S2) (lo : SL) (sz : Nat) (K : Int32 → S2 → SL → Prop) (h : w_X4_fault mo lo K) : MetI l yX4_fault wsX4_fault rm_X4_fault D kc (fun u : S2 × SL => cM kc a u.1 u.2) (mo, lo) [.ref (a 0)] sz (fun r u => K r u.1 u.2) := by
  refine q_ei (code := cX4_fault) (maxL := 1) (by decide) rfl (Nat.le_of_ble_eq_true rfl) ?_
  intro p e s m args below meth c Q A hx hb hml hts hown hK hA hret ls hl hP hD hS
  have hown : s.vm.findClass RX4 = some m.cls := hown
  have hl : lv_has ls 1 [(0, .ref (a 0))] := hl
  have hP : va_P D vwCl (cM kc a mo lo) s.heap := hP
  have hD : va_D A (cM kc a mo lo) := hD
  have hS : va_S A s.heap s.heap [] := hS
  obtain ⟨H, eH⟩ : ∃ z, z = s.heap := ⟨_, rfl⟩
  obtain ⟨locs, eL⟩ : ∃ z : List Loc, z = [] := ⟨_, rfl⟩
  have hP := q_heap hP eH
  have hS := q_heapS hS eH eL
  refine q_start eH eL ?_
  clear eH eL
  have hi4 : ∀ w ∈ u_ws RX4 TX4 29, w ∈ wsX4_fault := by decide +kernel
  unfold w_X4_fault at h
  refine lv_aload_n hx hb dX4_fault_0 rfl (lv_at hl 0 rfl) ?_
  refine va_get (D := D) (ci := 4) (v := .int (mo 0 15)) (C := RX4) (T := TX4) (N := 29) hx hb hts hi4 hown hK.1 hP 0 rfl rfl 15 (by decide) (hts (.fieldLink RX4 79 "LastPennyModel" "fault" "I") (by decide +kernel)) (fun _ h9 => h9) rfl dX4_fault_1 ?_
  exact hret (mo 0 15) (mo, lo) H locs ls _ h hP hD hS dX4_fault_4

def w_X4_isOne (p1 : Int32) (mo : S2) (lo : SL) (K : Int32 → S2 → SL → Prop) : Prop := w_X4_in (p1.toInt64) (0 : Int64) (((mo 0 3) - 1).toInt64) (fun r1 => (r1 = 0 ∨ r1 = 1) ∧ K r1 mo lo)
abbrev rm_X4_isOne : Room := { frames := 1, cells := 0, slots := 0, locals := 25 }
set_option maxHeartbeats 4000000 in
set_option maxRecDepth 100000 in
theorem c_X4_isOne (l : Launch) (D : va_G) (kc : Nat → ClassId) (a : Nat → Nat) (p1 : Int32) (mo : S2) (lo : SL) (sz : Nat) (K : Int32 → S2 → SL → Prop) (h : w_X4_isOne p1 mo lo K) : MetI l yX4_isOne wsX4_isOne rm_X4_isOne D kc (fun u : S2 × SL => cM kc a u.1 u.2) (mo, lo) [.ref (a 0), .int p1] sz (fun r u => K r u.1 u.2) := by
  refine q_ez (code := cX4_isOne) (maxL := 2) (by decide) rfl (Nat.le_of_ble_eq_true rfl) ?_
  intro p e s m args below meth c Q A hx hb hml hts hown hK hA hret ls hl hP hD hS
  have hown : s.vm.findClass RX4 = some m.cls := hown
  have hl : lv_has ls 2 [(0, .ref (a 0)), (1, .int p1)] := hl
  have hP : va_P D vwCl (cM kc a mo lo) s.heap := hP
  have hD : va_D A (cM kc a mo lo) := hD
  have hS : va_S A s.heap s.heap [] := hS
  obtain ⟨H, eH⟩ : ∃ z, z = s.heap := ⟨_, rfl⟩
  obtain ⟨locs, eL⟩ : ∃ z : List Loc, z = [] := ⟨_, rfl⟩
  have hP := q_heap hP eH
  have hS := q_heapS hS eH eL
  refine q_start eH eL ?_
  clear eH eL
  have hi4 : ∀ w ∈ u_ws RX4 TX4 29, w ∈ wsX4_isOne := by decide +kernel
  unfold w_X4_isOne at h
  refine lv_iload_n hx hb dX4_isOne_0 rfl (lv_at hl 1 rfl) ?_
  refine lv_i2l hx hb dX4_isOne_1 rfl ?_
  refine lv_lconst (v := 0) hx hb dX4_isOne_2 (by decide) ?_
  refine lv_aload_n hx hb dX4_isOne_3 rfl (lv_at hl 0 rfl) ?_
  refine va_get (D := D) (ci := 4) (v := .int (mo 0 3)) (C := RX4) (T := TX4) (N := 29) hx hb hts hi4 hown hK.1 hP 0 rfl rfl 3 (by decide) (hts (.fieldLink RX4 67 "LastPennyModel" "people" "I") (by decide +kernel)) (fun _ h9 => h9) rfl dX4_isOne_4 ?_
  refine lv_iconst (v := 1) hx hb dX4_isOne_7 (by decide) ?_
  refine lv_isub hx hb dX4_isOne_8 ?_
  refine lv_i2l hx hb dX4_isOne_9 rfl ?_
  refine q_cSi (As := [.long (p1.toInt64), .long 0, .long (((mo 0 3) - 1).toInt64)]) (rest := []) ⟨hx, hb, hml, hown, hts⟩ hK (c_X4_in l D kc (p1.toInt64) (0 : Int64) (((mo 0 3) - 1).toInt64) H.size _ h) (va_cwS 3 hts gX4_isOne_X4_in rfl rfl rfl (by decide +kernel) ⟨Nat.le_of_ble_eq_true rfl, Nat.le_of_ble_eq_true rfl⟩) (cut_nil _) hP hD hS hA rfl hl.1 rfl (Nat.le_of_ble_eq_true rfl) dX4_isOne_10 ⟨Nat.zero_le _, Nat.zero_le _⟩ (fun r1 _ H locs h hP hD hS => ?_)
  have hP : va_P D vwCl (cM kc a mo lo) H := hP
  have hD : va_D A (cM kc a mo lo) := hD
  obtain ⟨hz3, h⟩ := h
  exact hret r1 (mo, lo) H locs ls _ (q_nar hz3) h hP hD hS dX4_isOne_13

def w_X4_isPart (p0 : Int32) (K : Int32 → Prop) : Prop := w_X4_in (p0.toInt64) (0 : Int64) (1 : Int64) (fun r1 => (r1 = 0 ∨ r1 = 1) ∧ K r1)
abbrev rm_X4_isPart : Room := { frames := 1, cells := 0, slots := 0, locals := 25 }
set_option maxHeartbeats 4000000 in
set_option maxRecDepth 100000 in
theorem c_X4_isPart (l : Launch) (D : va_G) (kc : Nat → ClassId) (p0 : Int32) (sz : Nat) (K : Int32 → Prop) (h : w_X4_isPart p0 K) : MetI l yX4_isPart wsX4_isPart rm_X4_isPart D kc (fun _ : Unit => []) () [.int p0] sz (fun r _ => K r) := by
  refine q_ez (code := cX4_isPart) (maxL := 1) (by decide) rfl (Nat.le_of_ble_eq_true rfl) ?_
  intro p e s m args below meth c Q A hx hb hml hts hown hK hA hret ls hl hP hD hS
  have hown : s.vm.findClass RX4 = some m.cls := hown
  have hl : lv_has ls 1 [(0, .int p0)] := hl
  have hP : va_P D vwCl [] s.heap := hP
  have hS : va_S A s.heap s.heap [] := hS
  obtain ⟨H, eH⟩ : ∃ z, z = s.heap := ⟨_, rfl⟩
  obtain ⟨locs, eL⟩ : ∃ z : List Loc, z = [] := ⟨_, rfl⟩
  have hP := q_heap hP eH
  have hS := q_heapS hS eH eL
  refine q_start eH eL ?_
  clear eH eL
  unfold w_X4_isPart at h
  refine lv_iload_n hx hb dX4_isPart_0 rfl (lv_at hl 0 rfl) ?_
  refine lv_i2l hx hb dX4_isPart_1 rfl ?_
  refine lv_lconst (v := 0) hx hb dX4_isPart_2 (by decide) ?_
  refine lv_lconst (v := 1) hx hb dX4_isPart_3 (by decide) ?_
  refine q_cSi (As := [.long (p0.toInt64), .long 0, .long 1]) (rest := []) ⟨hx, hb, hml, hown, hts⟩ hK (c_X4_in l D kc (p0.toInt64) (0 : Int64) (1 : Int64) H.size _ h) (va_cwS 3 hts gX4_isPart_X4_in rfl rfl rfl (by decide +kernel) ⟨Nat.le_of_ble_eq_true rfl, Nat.le_of_ble_eq_true rfl⟩) (cut_nil _) hP hD hS hA rfl hl.1 rfl (Nat.le_of_ble_eq_true rfl) dX4_isPart_4 ⟨Nat.zero_le _, Nat.zero_le _⟩ (fun r1 _ H locs h hP hD hS => ?_)
  have hP : va_P D vwCl ([]) H := hP
  have hD : va_D A ([]) := hD
  obtain ⟨hz3, h⟩ := h
  exact hret r1 () H locs ls _ (q_nar hz3) h hP hD hS dX4_isPart_7

def w_X4_starts (mo : S2) (lo : SL) (K : S2 → SL → Prop) : Prop := lfp3 (fun G2 (i1 : Int32) (mo2 : S2) (lo3 : SL) => br (57 ≤ i1) (K mo2 lo3) (vp_in i1 171 ∧ (vp_in i1 57 ∧ (nm ((va_up mo2 2 (upd (mo2 2) i1.toNatClampNeg (mo2 1 i1.toNatClampNeg))) : S2) (fun mo7 => nm (i1 + 1 : Int32) (fun x8 => G2 x8 mo7 lo3)))))) 0 mo lo
abbrev rm_X4_starts : Room := { frames := 0, cells := 0, slots := 0, locals := 0 }
set_option maxHeartbeats 4000000 in
set_option maxRecDepth 100000 in
theorem c_X4_starts (l : Launch) (D : va_G) (kc : Nat → ClassId) (a : Nat → Nat) (mo : S2) (lo : SL) (sz : Nat) (K : S2 → SL → Prop) (h : w_X4_starts mo lo K) : MetV l yX4_starts wsX4_starts rm_X4_starts D kc (fun u : S2 × SL => cM kc a u.1 u.2) (mo, lo) [.ref (a 0)] sz (fun u => K u.1 u.2) := by
  refine q_ev (code := cX4_starts) (maxL := 2) (by decide) rfl (Nat.le_of_ble_eq_true rfl) ?_
  intro p e s m args below meth c Q A hx hb hml hts hown hK hA hret ls hl hP hD hS
  have hown : s.vm.findClass RX4 = some m.cls := hown
  have hl : lv_has ls 2 [(0, .ref (a 0))] := hl
  have hP : va_P D vwCl (cM kc a mo lo) s.heap := hP
  have hD : va_D A (cM kc a mo lo) := hD
  have hS : va_S A s.heap s.heap [] := hS
  obtain ⟨H, eH⟩ : ∃ z, z = s.heap := ⟨_, rfl⟩
  obtain ⟨locs, eL⟩ : ∃ z : List Loc, z = [] := ⟨_, rfl⟩
  have hP := q_heap hP eH
  have hS := q_heapS hS eH eL
  refine q_start eH eL ?_
  clear eH eL
  have hi4 : ∀ w ∈ u_ws RX4 TX4 29, w ∈ wsX4_starts := by decide +kernel
  unfold w_X4_starts at h
  refine lv_iconst (v := 0) hx hb dX4_starts_0 (by decide) ?_
  refine lv_istore_n (lv' := [(1, .int 0), (0, .ref (a 0))]) hx hb dX4_starts_1 rfl hl (by decide) rfl (fun ls hl => ?_)
  refine h (fun (i1 : Int32) (mo2 : S2) (lo3 : SL) => ∀ (ls : Array Slot) (H : Heap) (locs : List Loc), lv_has ls 2 [(0, .ref (a 0)), (1, .int i1)] → va_P D vwCl (cM kc a mo2 lo3) H → va_D A (cM kc a mo2 lo3) → va_S A s.heap H locs → W p l e rm_X4_starts s m args below meth c H locs 0 0 Q (F0 m 2 ls [])) ?_ ls H locs (lv_sub hl [1, 0] rfl) hP hD hS
  intro i1 mo2 lo3 h ls H locs hl hP hD hS
  refine lv_iload_n hx hb dX4_starts_2 rfl (lv_at hl 1 rfl) ?_
  refine lv_bipush (v := 57) hx hb dX4_starts_3 (by decide) ?_
  refine lv_icmp_ge (tgt := 26) hx hb dX4_starts_5 (by decide) (fun c4 => ?_) (fun c4 => ?_)
  · have h := br1 h c4
    exact hret (mo2, lo3) H locs ls _ h hP hD hS dX4_starts_26
  · have h := br2 h c4
    refine lv_aload_n hx hb dX4_starts_8 rfl (lv_at hl 0 rfl) ?_
    refine va_get (D := D) (ci := 4) (v := .ref (a 2)) (C := RX4) (T := TX4) (N := 29) hx hb hts hi4 hown hK.1 hP 0 rfl rfl 1 (by decide) (hts (.fieldLink RX4 13 "LastPennyModel" "now" "[I") (by decide +kernel)) (fun _ h9 => h9) rfl dX4_starts_9 ?_
    refine lv_iload_n hx hb dX4_starts_12 rfl (lv_at hl 1 rfl) ?_
    refine lv_aload_n hx hb dX4_starts_13 rfl (lv_at hl 0 rfl) ?_
    refine va_get (D := D) (ci := 4) (v := .ref (a 1)) (C := RX4) (T := TX4) (N := 29) hx hb hts hi4 hown hK.1 hP 0 rfl rfl 0 (by decide) (hts (.fieldLink RX4 7 "LastPennyModel" "st" "[I") (by decide +kernel)) (fun _ h9 => h9) rfl dX4_starts_14 ?_
    refine lv_iload_n hx hb dX4_starts_17 rfl (lv_at hl 1 rfl) ?_
    obtain ⟨hi_5, h⟩ := h
    refine va_iald hx hb hK.1 hP 1 0 rfl rfl hi_5 dX4_starts_18 ?_
    obtain ⟨hi_6, h⟩ := h
    refine va_iast hx hb hK.1 hP hD hS 2 0 rfl rfl hi_6 dX4_starts_19 (fun H locs hP hD hS => ?_)
    obtain ⟨mo7, emo7⟩ : ∃ z, z = (va_up mo2 2 (upd (mo2 2) i1.toNatClampNeg (mo2 1 i1.toNatClampNeg))) := ⟨_, rfl⟩
    have h := nm_out h mo7 emo7
    have hP : va_P D vwCl (cM kc a mo7 lo3) H := q_to hP (by subst emo7; rfl)
    have hD : va_D A (cM kc a mo7 lo3) := q_toD hD (by subst emo7; rfl)
    obtain ⟨x8, ex8⟩ : ∃ z : Int32, z = i1 + 1 := ⟨_, rfl⟩
    have h := nm_out h x8 ex8
    refine lv_iinc (v := x8) (lv' := [(1, .int x8), (0, .ref (a 0))]) hx hb dX4_starts_20 hl (k := 1) rfl (by rw [ex8]; rfl) (by decide) rfl (fun ls hl => ?_)
    refine lv_goto (tgt := 2) hx hb dX4_starts_23 (by decide) ?_
    exact h ls H locs (lv_sub hl [1, 0] rfl) hP hD hS

def w_X4_settles (mo : S2) (lo : SL) (K : S2 → SL → Prop) : Prop := lfp3 (fun G2 (i1 : Int32) (mo2 : S2) (lo3 : SL) => br (57 ≤ i1) (K mo2 lo3) (vp_in i1 57 ∧ (vp_in i1 171 ∧ (nm ((va_up mo2 1 (upd (mo2 1) i1.toNatClampNeg (mo2 2 i1.toNatClampNeg))) : S2) (fun mo7 => nm (i1 + 1 : Int32) (fun x8 => G2 x8 mo7 lo3)))))) 0 mo lo
abbrev rm_X4_settles : Room := { frames := 0, cells := 0, slots := 0, locals := 0 }
set_option maxHeartbeats 4000000 in
set_option maxRecDepth 100000 in
theorem c_X4_settles (l : Launch) (D : va_G) (kc : Nat → ClassId) (a : Nat → Nat) (mo : S2) (lo : SL) (sz : Nat) (K : S2 → SL → Prop) (h : w_X4_settles mo lo K) : MetV l yX4_settles wsX4_settles rm_X4_settles D kc (fun u : S2 × SL => cM kc a u.1 u.2) (mo, lo) [.ref (a 0)] sz (fun u => K u.1 u.2) := by
  refine q_ev (code := cX4_settles) (maxL := 2) (by decide) rfl (Nat.le_of_ble_eq_true rfl) ?_
  intro p e s m args below meth c Q A hx hb hml hts hown hK hA hret ls hl hP hD hS
  have hown : s.vm.findClass RX4 = some m.cls := hown
  have hl : lv_has ls 2 [(0, .ref (a 0))] := hl
  have hP : va_P D vwCl (cM kc a mo lo) s.heap := hP
  have hD : va_D A (cM kc a mo lo) := hD
  have hS : va_S A s.heap s.heap [] := hS
  obtain ⟨H, eH⟩ : ∃ z, z = s.heap := ⟨_, rfl⟩
  obtain ⟨locs, eL⟩ : ∃ z : List Loc, z = [] := ⟨_, rfl⟩
  have hP := q_heap hP eH
  have hS := q_heapS hS eH eL
  refine q_start eH eL ?_
  clear eH eL
  have hi4 : ∀ w ∈ u_ws RX4 TX4 29, w ∈ wsX4_settles := by decide +kernel
  unfold w_X4_settles at h
  refine lv_iconst (v := 0) hx hb dX4_settles_0 (by decide) ?_
  refine lv_istore_n (lv' := [(1, .int 0), (0, .ref (a 0))]) hx hb dX4_settles_1 rfl hl (by decide) rfl (fun ls hl => ?_)
  refine h (fun (i1 : Int32) (mo2 : S2) (lo3 : SL) => ∀ (ls : Array Slot) (H : Heap) (locs : List Loc), lv_has ls 2 [(0, .ref (a 0)), (1, .int i1)] → va_P D vwCl (cM kc a mo2 lo3) H → va_D A (cM kc a mo2 lo3) → va_S A s.heap H locs → W p l e rm_X4_settles s m args below meth c H locs 0 0 Q (F0 m 2 ls [])) ?_ ls H locs (lv_sub hl [1, 0] rfl) hP hD hS
  intro i1 mo2 lo3 h ls H locs hl hP hD hS
  refine lv_iload_n hx hb dX4_settles_2 rfl (lv_at hl 1 rfl) ?_
  refine lv_bipush (v := 57) hx hb dX4_settles_3 (by decide) ?_
  refine lv_icmp_ge (tgt := 26) hx hb dX4_settles_5 (by decide) (fun c4 => ?_) (fun c4 => ?_)
  · have h := br1 h c4
    exact hret (mo2, lo3) H locs ls _ h hP hD hS dX4_settles_26
  · have h := br2 h c4
    refine lv_aload_n hx hb dX4_settles_8 rfl (lv_at hl 0 rfl) ?_
    refine va_get (D := D) (ci := 4) (v := .ref (a 1)) (C := RX4) (T := TX4) (N := 29) hx hb hts hi4 hown hK.1 hP 0 rfl rfl 0 (by decide) (hts (.fieldLink RX4 7 "LastPennyModel" "st" "[I") (by decide +kernel)) (fun _ h9 => h9) rfl dX4_settles_9 ?_
    refine lv_iload_n hx hb dX4_settles_12 rfl (lv_at hl 1 rfl) ?_
    refine lv_aload_n hx hb dX4_settles_13 rfl (lv_at hl 0 rfl) ?_
    refine va_get (D := D) (ci := 4) (v := .ref (a 2)) (C := RX4) (T := TX4) (N := 29) hx hb hts hi4 hown hK.1 hP 0 rfl rfl 1 (by decide) (hts (.fieldLink RX4 13 "LastPennyModel" "now" "[I") (by decide +kernel)) (fun _ h9 => h9) rfl dX4_settles_14 ?_
    refine lv_iload_n hx hb dX4_settles_17 rfl (lv_at hl 1 rfl) ?_
    obtain ⟨hi_5, h⟩ := h
    refine va_iald hx hb hK.1 hP 2 0 rfl rfl hi_5 dX4_settles_18 ?_
    obtain ⟨hi_6, h⟩ := h
    refine va_iast hx hb hK.1 hP hD hS 1 0 rfl rfl hi_6 dX4_settles_19 (fun H locs hP hD hS => ?_)
    obtain ⟨mo7, emo7⟩ : ∃ z, z = (va_up mo2 1 (upd (mo2 1) i1.toNatClampNeg (mo2 2 i1.toNatClampNeg))) := ⟨_, rfl⟩
    have h := nm_out h mo7 emo7
    have hP : va_P D vwCl (cM kc a mo7 lo3) H := q_to hP (by subst emo7; rfl)
    have hD : va_D A (cM kc a mo7 lo3) := q_toD hD (by subst emo7; rfl)
    obtain ⟨x8, ex8⟩ : ∃ z : Int32, z = i1 + 1 := ⟨_, rfl⟩
    have h := nm_out h x8 ex8
    refine lv_iinc (v := x8) (lv' := [(1, .int x8), (0, .ref (a 0))]) hx hb dX4_settles_20 hl (k := 1) rfl (by rw [ex8]; rfl) (by decide) rfl (fun ls hl => ?_)
    refine lv_goto (tgt := 2) hx hb dX4_settles_23 (by decide) ?_
    exact h ls H locs (lv_sub hl [1, 0] rfl) hP hD hS

def w_X4_of (p1 : Int32) (p2 : Int32) (mo : S2) (lo : SL) (K : Int32 → S2 → SL → Prop) : Prop := vp_in ((4 * p1) + p2) 57 ∧ (K (mo 2 ((4 * p1) + p2).toNatClampNeg) mo lo)
abbrev rm_X4_of : Room := { frames := 0, cells := 0, slots := 0, locals := 0 }
set_option maxHeartbeats 4000000 in
set_option maxRecDepth 100000 in
theorem c_X4_of (l : Launch) (D : va_G) (kc : Nat → ClassId) (a : Nat → Nat) (p1 : Int32) (p2 : Int32) (mo : S2) (lo : SL) (sz : Nat) (K : Int32 → S2 → SL → Prop) (h : w_X4_of p1 p2 mo lo K) : MetI l yX4_of wsX4_of rm_X4_of D kc (fun u : S2 × SL => cM kc a u.1 u.2) (mo, lo) [.ref (a 0), .int p1, .int p2] sz (fun r u => K r u.1 u.2) := by
  refine q_ei (code := cX4_of) (maxL := 3) (by decide) rfl (Nat.le_of_ble_eq_true rfl) ?_
  intro p e s m args below meth c Q A hx hb hml hts hown hK hA hret ls hl hP hD hS
  have hown : s.vm.findClass RX4 = some m.cls := hown
  have hl : lv_has ls 3 [(0, .ref (a 0)), (1, .int p1), (2, .int p2)] := hl
  have hP : va_P D vwCl (cM kc a mo lo) s.heap := hP
  have hD : va_D A (cM kc a mo lo) := hD
  have hS : va_S A s.heap s.heap [] := hS
  obtain ⟨H, eH⟩ : ∃ z, z = s.heap := ⟨_, rfl⟩
  obtain ⟨locs, eL⟩ : ∃ z : List Loc, z = [] := ⟨_, rfl⟩
  have hP := q_heap hP eH
  have hS := q_heapS hS eH eL
  refine q_start eH eL ?_
  clear eH eL
  have hi4 : ∀ w ∈ u_ws RX4 TX4 29, w ∈ wsX4_of := by decide +kernel
  unfold w_X4_of at h
  refine lv_aload_n hx hb dX4_of_0 rfl (lv_at hl 0 rfl) ?_
  refine va_get (D := D) (ci := 4) (v := .ref (a 2)) (C := RX4) (T := TX4) (N := 29) hx hb hts hi4 hown hK.1 hP 0 rfl rfl 1 (by decide) (hts (.fieldLink RX4 13 "LastPennyModel" "now" "[I") (by decide +kernel)) (fun _ h9 => h9) rfl dX4_of_1 ?_
  refine lv_iconst (v := 4) hx hb dX4_of_4 (by decide) ?_
  refine lv_iload_n hx hb dX4_of_5 rfl (lv_at hl 1 rfl) ?_
  refine lv_imul hx hb dX4_of_6 ?_
  refine lv_iload_n hx hb dX4_of_7 rfl (lv_at hl 2 rfl) ?_
  refine lv_iadd hx hb dX4_of_8 ?_
  obtain ⟨hi_1, h⟩ := h
  refine va_iald hx hb hK.1 hP 2 0 rfl rfl hi_1 dX4_of_9 ?_
  exact hret (mo 2 ((4 * p1) + p2).toNatClampNeg) (mo, lo) H locs ls _ h hP hD hS dX4_of_10

def w_X4_becomesOf (p1 : Int32) (p2 : Int32) (p3 : Int32) (mo : S2) (lo : SL) (K : S2 → SL → Prop) : Prop := vp_in ((4 * p1) + p2) 57 ∧ (nm ((va_up mo 2 (upd (mo 2) ((4 * p1) + p2).toNatClampNeg p3)) : S2) (fun mo2 => K mo2 lo))
abbrev rm_X4_becomesOf : Room := { frames := 0, cells := 0, slots := 0, locals := 0 }
set_option maxHeartbeats 4000000 in
set_option maxRecDepth 100000 in
theorem c_X4_becomesOf (l : Launch) (D : va_G) (kc : Nat → ClassId) (a : Nat → Nat) (p1 : Int32) (p2 : Int32) (p3 : Int32) (mo : S2) (lo : SL) (sz : Nat) (K : S2 → SL → Prop) (h : w_X4_becomesOf p1 p2 p3 mo lo K) : MetV l yX4_becomesOf wsX4_becomesOf rm_X4_becomesOf D kc (fun u : S2 × SL => cM kc a u.1 u.2) (mo, lo) [.ref (a 0), .int p1, .int p2, .int p3] sz (fun u => K u.1 u.2) := by
  refine q_ev (code := cX4_becomesOf) (maxL := 4) (by decide) rfl (Nat.le_of_ble_eq_true rfl) ?_
  intro p e s m args below meth c Q A hx hb hml hts hown hK hA hret ls hl hP hD hS
  have hown : s.vm.findClass RX4 = some m.cls := hown
  have hl : lv_has ls 4 [(0, .ref (a 0)), (1, .int p1), (2, .int p2), (3, .int p3)] := hl
  have hP : va_P D vwCl (cM kc a mo lo) s.heap := hP
  have hD : va_D A (cM kc a mo lo) := hD
  have hS : va_S A s.heap s.heap [] := hS
  obtain ⟨H, eH⟩ : ∃ z, z = s.heap := ⟨_, rfl⟩
  obtain ⟨locs, eL⟩ : ∃ z : List Loc, z = [] := ⟨_, rfl⟩
  have hP := q_heap hP eH
  have hS := q_heapS hS eH eL
  refine q_start eH eL ?_
  clear eH eL
  have hi4 : ∀ w ∈ u_ws RX4 TX4 29, w ∈ wsX4_becomesOf := by decide +kernel
  unfold w_X4_becomesOf at h
  refine lv_aload_n hx hb dX4_becomesOf_0 rfl (lv_at hl 0 rfl) ?_
  refine va_get (D := D) (ci := 4) (v := .ref (a 2)) (C := RX4) (T := TX4) (N := 29) hx hb hts hi4 hown hK.1 hP 0 rfl rfl 1 (by decide) (hts (.fieldLink RX4 13 "LastPennyModel" "now" "[I") (by decide +kernel)) (fun _ h9 => h9) rfl dX4_becomesOf_1 ?_
  refine lv_iconst (v := 4) hx hb dX4_becomesOf_4 (by decide) ?_
  refine lv_iload_n hx hb dX4_becomesOf_5 rfl (lv_at hl 1 rfl) ?_
  refine lv_imul hx hb dX4_becomesOf_6 ?_
  refine lv_iload_n hx hb dX4_becomesOf_7 rfl (lv_at hl 2 rfl) ?_
  refine lv_iadd hx hb dX4_becomesOf_8 ?_
  refine lv_iload_n hx hb dX4_becomesOf_9 rfl (lv_at hl 3 rfl) ?_
  obtain ⟨hi_1, h⟩ := h
  refine va_iast hx hb hK.1 hP hD hS 2 0 rfl rfl hi_1 dX4_becomesOf_10 (fun H locs hP hD hS => ?_)
  obtain ⟨mo2, emo2⟩ : ∃ z, z = (va_up mo 2 (upd (mo 2) ((4 * p1) + p2).toNatClampNeg p3)) := ⟨_, rfl⟩
  have h := nm_out h mo2 emo2
  have hP : va_P D vwCl (cM kc a mo2 lo) H := q_to hP (by subst emo2; rfl)
  have hD : va_D A (cM kc a mo2 lo) := q_toD hD (by subst emo2; rfl)
  exact hret (mo2, lo) H locs ls _ h hP hD hS dX4_becomesOf_11

def w_X4_tradeBrings (p1 : Int32) (mo : S2) (lo : SL) (K : Int32 → S2 → SL → Prop) : Prop := w_X4_of p1 (2 : Int32) mo lo (fun r3 mo1 lo2 => nm (((r3 - 10) - (mo1 2 (21 : Int32).toNatClampNeg)) : Int32) (fun x5 => w_X4_of p1 (0 : Int32) mo1 lo2 (fun r8 mo6 lo7 => br (r8 = 1) (K (x5 + 1) mo6 lo7) (w_X4_of p1 (0 : Int32) mo6 lo7 (fun r13 mo11 lo12 => br (r13 = 2) (K ((x5 + 1) / 2) mo11 lo12) (K x5 mo11 lo12))))))
abbrev rm_X4_tradeBrings : Room := { frames := 1, cells := 0, slots := 0, locals := 22 }
set_option maxHeartbeats 4000000 in
set_option maxRecDepth 100000 in
theorem c_X4_tradeBrings (l : Launch) (D : va_G) (kc : Nat → ClassId) (a : Nat → Nat) (p1 : Int32) (mo : S2) (lo : SL) (sz : Nat) (K : Int32 → S2 → SL → Prop) (h : w_X4_tradeBrings p1 mo lo K) : MetI l yX4_tradeBrings wsX4_tradeBrings rm_X4_tradeBrings D kc (fun u : S2 × SL => cM kc a u.1 u.2) (mo, lo) [.ref (a 0), .int p1] sz (fun r u => K r u.1 u.2) := by
  refine q_ei (code := cX4_tradeBrings) (maxL := 3) (by decide) rfl (Nat.le_of_ble_eq_true rfl) ?_
  intro p e s m args below meth c Q A hx hb hml hts hown hK hA hret ls hl hP hD hS
  have hown : s.vm.findClass RX4 = some m.cls := hown
  have hl : lv_has ls 3 [(0, .ref (a 0)), (1, .int p1)] := hl
  have hP : va_P D vwCl (cM kc a mo lo) s.heap := hP
  have hD : va_D A (cM kc a mo lo) := hD
  have hS : va_S A s.heap s.heap [] := hS
  obtain ⟨H, eH⟩ : ∃ z, z = s.heap := ⟨_, rfl⟩
  obtain ⟨locs, eL⟩ : ∃ z : List Loc, z = [] := ⟨_, rfl⟩
  have hP := q_heap hP eH
  have hS := q_heapS hS eH eL
  refine q_start eH eL ?_
  clear eH eL
  have hi4 : ∀ w ∈ u_ws RX4 TX4 29, w ∈ wsX4_tradeBrings := by decide +kernel
  unfold w_X4_tradeBrings at h
  refine lv_aload_n hx hb dX4_tradeBrings_0 rfl (lv_at hl 0 rfl) ?_
  refine lv_iload_n hx hb dX4_tradeBrings_1 rfl (lv_at hl 1 rfl) ?_
  refine lv_iconst (v := 2) hx hb dX4_tradeBrings_2 (by decide) ?_
  refine q_cVi (As := [.int p1, .int 2]) (rest := []) ⟨hx, hb, hml, hown, hts⟩ hK (c_X4_of l D kc a p1 (2 : Int32) mo lo H.size _ h) (cwV 2 hts gX4_tradeBrings_X4_of rfl rfl rfl (by decide +kernel) ⟨Nat.le_of_ble_eq_true rfl, Nat.le_of_ble_eq_true rfl⟩) (cut_same (fun u : S2 × SL => cM kc a u.1 u.2) (mo, lo)) hP hD hS hA 4 0 rfl rfl rfl hl.1 rfl (Nat.le_of_ble_eq_true rfl) dX4_tradeBrings_3 ⟨Nat.zero_le _, Nat.zero_le _⟩ (fun r3 u4 H locs h hP hD hS => ?_)
  obtain ⟨mo1, lo2⟩ := u4
  have hP : va_P D vwCl (cM kc a mo1 lo2) H := hP
  have hD : va_D A (cM kc a mo1 lo2) := hD
  refine lv_bipush (v := 10) hx hb dX4_tradeBrings_6 (by decide) ?_
  refine lv_isub hx hb dX4_tradeBrings_8 ?_
  refine lv_aload_n hx hb dX4_tradeBrings_9 rfl (lv_at hl 0 rfl) ?_
  refine va_get (D := D) (ci := 4) (v := .ref (a 2)) (C := RX4) (T := TX4) (N := 29) hx hb hts hi4 hown hK.1 hP 0 rfl rfl 1 (by decide) (hts (.fieldLink RX4 13 "LastPennyModel" "now" "[I") (by decide +kernel)) (fun _ h9 => h9) rfl dX4_tradeBrings_10 ?_
  refine lv_bipush (v := 21) hx hb dX4_tradeBrings_13 (by decide) ?_
  refine va_iald hx hb hK.1 hP 2 0 rfl rfl (by unfold vp_in; decide) dX4_tradeBrings_15 ?_
  refine lv_isub hx hb dX4_tradeBrings_16 ?_
  refine lv_topi (fun x5 ex5 => ?_)
  have h := nm_out h x5 ex5
  refine lv_istore_n (lv' := [(2, .int x5), (0, .ref (a 0)), (1, .int p1)]) hx hb dX4_tradeBrings_17 rfl hl (by decide) rfl (fun ls hl => ?_)
  refine lv_aload_n hx hb dX4_tradeBrings_18 rfl (lv_at hl 1 rfl) ?_
  refine lv_iload_n hx hb dX4_tradeBrings_19 rfl (lv_at hl 2 rfl) ?_
  refine lv_iconst (v := 0) hx hb dX4_tradeBrings_20 (by decide) ?_
  refine q_cVi (As := [.int p1, .int 0]) (rest := []) ⟨hx, hb, hml, hown, hts⟩ hK (c_X4_of l D kc a p1 (0 : Int32) mo1 lo2 H.size _ h) (cwV 2 hts gX4_tradeBrings_X4_of rfl rfl rfl (by decide +kernel) ⟨Nat.le_of_ble_eq_true rfl, Nat.le_of_ble_eq_true rfl⟩) (cut_same (fun u : S2 × SL => cM kc a u.1 u.2) (mo1, lo2)) hP hD hS hA 4 0 rfl rfl rfl hl.1 rfl (Nat.le_of_ble_eq_true rfl) dX4_tradeBrings_21 ⟨Nat.zero_le _, Nat.zero_le _⟩ (fun r8 u9 H locs h hP hD hS => ?_)
  obtain ⟨mo6, lo7⟩ := u9
  have hP : va_P D vwCl (cM kc a mo6 lo7) H := hP
  have hD : va_D A (cM kc a mo6 lo7) := hD
  refine lv_iconst (v := 1) hx hb dX4_tradeBrings_24 (by decide) ?_
  refine lv_icmp_ne (tgt := 34) hx hb dX4_tradeBrings_25 (by decide) (fun c10 => ?_) (fun c10 => ?_)
  · have h := br2 h c10
    refine lv_aload_n hx hb dX4_tradeBrings_34 rfl (lv_at hl 1 rfl) ?_
    refine lv_iload_n hx hb dX4_tradeBrings_35 rfl (lv_at hl 2 rfl) ?_
    refine lv_iconst (v := 0) hx hb dX4_tradeBrings_36 (by decide) ?_
    refine q_cVi (As := [.int p1, .int 0]) (rest := []) ⟨hx, hb, hml, hown, hts⟩ hK (c_X4_of l D kc a p1 (0 : Int32) mo6 lo7 H.size _ h) (cwV 2 hts gX4_tradeBrings_X4_of rfl rfl rfl (by decide +kernel) ⟨Nat.le_of_ble_eq_true rfl, Nat.le_of_ble_eq_true rfl⟩) (cut_same (fun u : S2 × SL => cM kc a u.1 u.2) (mo6, lo7)) hP hD hS hA 4 0 rfl rfl rfl hl.1 rfl (Nat.le_of_ble_eq_true rfl) dX4_tradeBrings_37 ⟨Nat.zero_le _, Nat.zero_le _⟩ (fun r13 u14 H locs h hP hD hS => ?_)
    obtain ⟨mo11, lo12⟩ := u14
    have hP : va_P D vwCl (cM kc a mo11 lo12) H := hP
    have hD : va_D A (cM kc a mo11 lo12) := hD
    refine lv_iconst (v := 2) hx hb dX4_tradeBrings_40 (by decide) ?_
    refine lv_icmp_ne (tgt := 52) hx hb dX4_tradeBrings_41 (by decide) (fun c15 => ?_) (fun c15 => ?_)
    · have h := br2 h c15
      refine lv_iload_n hx hb dX4_tradeBrings_52 rfl (lv_at hl 0 rfl) ?_
      exact hret x5 (mo11, lo12) H locs ls _ h hP hD hS dX4_tradeBrings_53
    · have h := br1 h c15
      refine lv_iload_n hx hb dX4_tradeBrings_44 rfl (lv_at hl 0 rfl) ?_
      refine lv_iconst (v := 1) hx hb dX4_tradeBrings_45 (by decide) ?_
      refine lv_iadd hx hb dX4_tradeBrings_46 ?_
      refine lv_iconst (v := 2) hx hb dX4_tradeBrings_47 (by decide) ?_
      refine lv_idiv hx hb dX4_tradeBrings_48 (by decide) ?_
      refine lv_goto (tgt := 53) hx hb dX4_tradeBrings_49 (by decide) ?_
      exact hret ((x5 + 1) / 2) (mo11, lo12) H locs ls _ h hP hD hS dX4_tradeBrings_53
  · have h := br1 h c10
    refine lv_iload_n hx hb dX4_tradeBrings_28 rfl (lv_at hl 0 rfl) ?_
    refine lv_iconst (v := 1) hx hb dX4_tradeBrings_29 (by decide) ?_
    refine lv_iadd hx hb dX4_tradeBrings_30 ?_
    refine lv_goto (tgt := 53) hx hb dX4_tradeBrings_31 (by decide) ?_
    exact hret (x5 + 1) (mo6, lo7) H locs ls _ h hP hD hS dX4_tradeBrings_53

def w_X4_coinBrings (p1 : Int32) (mo : S2) (lo : SL) (K : Int32 → S2 → SL → Prop) : Prop := lfp4 (fun G4 (i1 : Int32) (i2 : Int32) (mo3 : S2) (lo4 : SL) => br ((mo3 0 3) ≤ i2) (w_X4_of p1 (0 : Int32) mo3 lo4 (fun r8 mo6 lo7 => br (r8 = 1) (K 0 mo6 lo7) (br (r8 = 2) (K 15 mo6 lo7) (br (r8 = 3) (K (5 + (2 * i1)) mo6 lo7) (K 5 mo6 lo7))))) (w_X4_of i2 (1 : Int32) mo3 lo4 (fun r15 mo13 lo14 => w_X4_of p1 (1 : Int32) mo13 lo14 (fun r19 mo17 lo18 => jn (fun (k21 : Int32) => w_X4_flag k21 (fun r22 => nm ((i1 + r22) : Int32) (fun x24 => nm (i2 + 1 : Int32) (fun x25 => G4 x24 x25 mo17 lo18)))) (fun J33 => br (r19 ≤ r15) (J33 0) (J33 1)))))) 0 0 mo lo
abbrev rm_X4_coinBrings : Room := { frames := 1, cells := 0, slots := 0, locals := 22 }
set_option maxHeartbeats 4000000 in
set_option maxRecDepth 100000 in
theorem c_X4_coinBrings (l : Launch) (D : va_G) (kc : Nat → ClassId) (a : Nat → Nat) (p1 : Int32) (mo : S2) (lo : SL) (sz : Nat) (K : Int32 → S2 → SL → Prop) (h : w_X4_coinBrings p1 mo lo K) : MetI l yX4_coinBrings wsX4_coinBrings rm_X4_coinBrings D kc (fun u : S2 × SL => cM kc a u.1 u.2) (mo, lo) [.ref (a 0), .int p1] sz (fun r u => K r u.1 u.2) := by
  refine q_ei (code := cX4_coinBrings) (maxL := 4) (by decide) rfl (Nat.le_of_ble_eq_true rfl) ?_
  intro p e s m args below meth c Q A hx hb hml hts hown hK hA hret ls hl hP hD hS
  have hown : s.vm.findClass RX4 = some m.cls := hown
  have hl : lv_has ls 4 [(0, .ref (a 0)), (1, .int p1)] := hl
  have hP : va_P D vwCl (cM kc a mo lo) s.heap := hP
  have hD : va_D A (cM kc a mo lo) := hD
  have hS : va_S A s.heap s.heap [] := hS
  obtain ⟨H, eH⟩ : ∃ z, z = s.heap := ⟨_, rfl⟩
  obtain ⟨locs, eL⟩ : ∃ z : List Loc, z = [] := ⟨_, rfl⟩
  have hP := q_heap hP eH
  have hS := q_heapS hS eH eL
  refine q_start eH eL ?_
  clear eH eL
  have hi4 : ∀ w ∈ u_ws RX4 TX4 29, w ∈ wsX4_coinBrings := by decide +kernel
  unfold w_X4_coinBrings at h
  refine lv_iconst (v := 0) hx hb dX4_coinBrings_0 (by decide) ?_
  refine lv_istore_n (lv' := [(2, .int 0), (0, .ref (a 0)), (1, .int p1)]) hx hb dX4_coinBrings_1 rfl hl (by decide) rfl (fun ls hl => ?_)
  refine lv_iconst (v := 0) hx hb dX4_coinBrings_2 (by decide) ?_
  refine lv_istore_n (lv' := [(3, .int 0), (2, .int 0), (0, .ref (a 0)), (1, .int p1)]) hx hb dX4_coinBrings_3 rfl hl (by decide) rfl (fun ls hl => ?_)
  refine h (fun (i1 : Int32) (i2 : Int32) (mo3 : S2) (lo4 : SL) => ∀ (ls : Array Slot) (H : Heap) (locs : List Loc), lv_has ls 4 [(0, .ref (a 0)), (1, .int p1), (2, .int i1), (3, .int i2)] → va_P D vwCl (cM kc a mo3 lo4) H → va_D A (cM kc a mo3 lo4) → va_S A s.heap H locs → W p l e rm_X4_coinBrings s m args below meth c H locs 0 0 Q (F0 m 4 ls [])) ?_ ls H locs (lv_sub hl [2, 3, 1, 0] rfl) hP hD hS
  intro i1 i2 mo3 lo4 h ls H locs hl hP hD hS
  refine lv_iload_n hx hb dX4_coinBrings_4 rfl (lv_at hl 3 rfl) ?_
  refine lv_aload_n hx hb dX4_coinBrings_5 rfl (lv_at hl 0 rfl) ?_
  refine va_get (D := D) (ci := 4) (v := .int (mo3 0 3)) (C := RX4) (T := TX4) (N := 29) hx hb hts hi4 hown hK.1 hP 0 rfl rfl 3 (by decide) (hts (.fieldLink RX4 67 "LastPennyModel" "people" "I") (by decide +kernel)) (fun _ h9 => h9) rfl dX4_coinBrings_6 ?_
  refine lv_icmp_ge (tgt := 44) hx hb dX4_coinBrings_9 (by decide) (fun c5 => ?_) (fun c5 => ?_)
  · have h := br1 h c5
    refine lv_aload_n hx hb dX4_coinBrings_44 rfl (lv_at hl 0 rfl) ?_
    refine lv_iload_n hx hb dX4_coinBrings_45 rfl (lv_at hl 1 rfl) ?_
    refine lv_iconst (v := 0) hx hb dX4_coinBrings_46 (by decide) ?_
    refine q_cVi (As := [.int p1, .int 0]) (rest := []) ⟨hx, hb, hml, hown, hts⟩ hK (c_X4_of l D kc a p1 (0 : Int32) mo3 lo4 H.size _ h) (cwV 2 hts gX4_coinBrings_X4_of rfl rfl rfl (by decide +kernel) ⟨Nat.le_of_ble_eq_true rfl, Nat.le_of_ble_eq_true rfl⟩) (cut_same (fun u : S2 × SL => cM kc a u.1 u.2) (mo3, lo4)) hP hD hS hA 4 0 rfl rfl rfl hl.1 rfl (Nat.le_of_ble_eq_true rfl) dX4_coinBrings_47 ⟨Nat.zero_le _, Nat.zero_le _⟩ (fun r8 u9 H locs h hP hD hS => ?_)
    obtain ⟨mo6, lo7⟩ := u9
    have hP : va_P D vwCl (cM kc a mo6 lo7) H := hP
    have hD : va_D A (cM kc a mo6 lo7) := hD
    refine lv_istore_n (lv' := [(3, .int r8), (0, .ref (a 0)), (1, .int p1), (2, .int i1)]) hx hb dX4_coinBrings_50 rfl hl (by decide) rfl (fun ls hl => ?_)
    refine lv_iload_n hx hb dX4_coinBrings_51 rfl (lv_at hl 0 rfl) ?_
    refine lv_iconst (v := 1) hx hb dX4_coinBrings_52 (by decide) ?_
    refine lv_icmp_ne (tgt := 60) hx hb dX4_coinBrings_53 (by decide) (fun c10 => ?_) (fun c10 => ?_)
    · have h := br2 h c10
      refine lv_iload_n hx hb dX4_coinBrings_60 rfl (lv_at hl 0 rfl) ?_
      refine lv_iconst (v := 2) hx hb dX4_coinBrings_61 (by decide) ?_
      refine lv_icmp_ne (tgt := 70) hx hb dX4_coinBrings_62 (by decide) (fun c11 => ?_) (fun c11 => ?_)
      · have h := br2 h c11
        refine lv_iload_n hx hb dX4_coinBrings_70 rfl (lv_at hl 0 rfl) ?_
        refine lv_iconst (v := 3) hx hb dX4_coinBrings_71 (by decide) ?_
        refine lv_icmp_ne (tgt := 83) hx hb dX4_coinBrings_72 (by decide) (fun c12 => ?_) (fun c12 => ?_)
        · have h := br2 h c12
          refine lv_iconst (v := 5) hx hb dX4_coinBrings_83 (by decide) ?_
          exact hret 5 (mo6, lo7) H locs ls _ h hP hD hS dX4_coinBrings_84
        · have h := br1 h c12
          refine lv_iconst (v := 5) hx hb dX4_coinBrings_75 (by decide) ?_
          refine lv_iconst (v := 2) hx hb dX4_coinBrings_76 (by decide) ?_
          refine lv_iload_n hx hb dX4_coinBrings_77 rfl (lv_at hl 3 rfl) ?_
          refine lv_imul hx hb dX4_coinBrings_78 ?_
          refine lv_iadd hx hb dX4_coinBrings_79 ?_
          refine lv_goto (tgt := 84) hx hb dX4_coinBrings_80 (by decide) ?_
          exact hret (5 + (2 * i1)) (mo6, lo7) H locs ls _ h hP hD hS dX4_coinBrings_84
      · have h := br1 h c11
        refine lv_bipush (v := 15) hx hb dX4_coinBrings_65 (by decide) ?_
        refine lv_goto (tgt := 84) hx hb dX4_coinBrings_67 (by decide) ?_
        exact hret 15 (mo6, lo7) H locs ls _ h hP hD hS dX4_coinBrings_84
    · have h := br1 h c10
      refine lv_iconst (v := 0) hx hb dX4_coinBrings_56 (by decide) ?_
      refine lv_goto (tgt := 84) hx hb dX4_coinBrings_57 (by decide) ?_
      exact hret 0 (mo6, lo7) H locs ls _ h hP hD hS dX4_coinBrings_84
  · have h := br2 h c5
    refine lv_iload_n hx hb dX4_coinBrings_12 rfl (lv_at hl 2 rfl) ?_
    refine lv_aload_n hx hb dX4_coinBrings_13 rfl (lv_at hl 0 rfl) ?_
    refine lv_iload_n hx hb dX4_coinBrings_14 rfl (lv_at hl 3 rfl) ?_
    refine lv_iconst (v := 1) hx hb dX4_coinBrings_15 (by decide) ?_
    refine q_cVi (As := [.int i2, .int 1]) (rest := [.int i1]) ⟨hx, hb, hml, hown, hts⟩ hK (c_X4_of l D kc a i2 (1 : Int32) mo3 lo4 H.size _ h) (cwV 2 hts gX4_coinBrings_X4_of rfl rfl rfl (by decide +kernel) ⟨Nat.le_of_ble_eq_true rfl, Nat.le_of_ble_eq_true rfl⟩) (cut_same (fun u : S2 × SL => cM kc a u.1 u.2) (mo3, lo4)) hP hD hS hA 4 0 rfl rfl rfl hl.1 rfl (Nat.le_of_ble_eq_true rfl) dX4_coinBrings_16 ⟨Nat.zero_le _, Nat.zero_le _⟩ (fun r15 u16 H locs h hP hD hS => ?_)
    obtain ⟨mo13, lo14⟩ := u16
    have hP : va_P D vwCl (cM kc a mo13 lo14) H := hP
    have hD : va_D A (cM kc a mo13 lo14) := hD
    refine lv_aload_n hx hb dX4_coinBrings_19 rfl (lv_at hl 0 rfl) ?_
    refine lv_iload_n hx hb dX4_coinBrings_20 rfl (lv_at hl 1 rfl) ?_
    refine lv_iconst (v := 1) hx hb dX4_coinBrings_21 (by decide) ?_
    refine q_cVi (As := [.int p1, .int 1]) (rest := [.int r15, .int i1]) ⟨hx, hb, hml, hown, hts⟩ hK (c_X4_of l D kc a p1 (1 : Int32) mo13 lo14 H.size _ h) (cwV 2 hts gX4_coinBrings_X4_of rfl rfl rfl (by decide +kernel) ⟨Nat.le_of_ble_eq_true rfl, Nat.le_of_ble_eq_true rfl⟩) (cut_same (fun u : S2 × SL => cM kc a u.1 u.2) (mo13, lo14)) hP hD hS hA 4 0 rfl rfl rfl hl.1 rfl (Nat.le_of_ble_eq_true rfl) dX4_coinBrings_22 ⟨Nat.zero_le _, Nat.zero_le _⟩ (fun r19 u20 H locs h hP hD hS => ?_)
    obtain ⟨mo17, lo18⟩ := u20
    have hP : va_P D vwCl (cM kc a mo17 lo18) H := hP
    have hD : va_D A (cM kc a mo17 lo18) := hD
    refine jn_elim h (fun J33 eJ33 h => ?_)
    have hJ_33 : ∀ (k21 : Int32) (ls : Array Slot), J33 k21 → lv_has ls 4 [(0, .ref (a 0)), (1, .int p1), (3, .int i2)] → W p l e rm_X4_coinBrings s m args below meth c H locs 0 0 Q (F0 m 33 ls [.int k21, .int i1]) := by
      intro k21 ls h hl
      subst eJ33
      refine q_cSi (As := [.int k21]) (rest := [.int i1]) ⟨hx, hb, hml, hown, hts⟩ hK (c_X4_flag l D kc k21 H.size _ h) (va_cwS 1 hts gX4_coinBrings_X4_flag rfl rfl rfl (by decide +kernel) ⟨Nat.le_of_ble_eq_true rfl, Nat.le_of_ble_eq_true rfl⟩) (cut_nil _) hP hD hS hA rfl hl.1 rfl (Nat.le_of_ble_eq_true rfl) dX4_coinBrings_33 ⟨Nat.zero_le _, Nat.zero_le _⟩ (fun r22 _ H locs h hP hD hS => ?_)
      have hP : va_P D vwCl (cM kc a mo17 lo18) H := hP
      have hD : va_D A (cM kc a mo17 lo18) := hD
      refine lv_iadd hx hb dX4_coinBrings_36 ?_
      refine lv_topi (fun x24 ex24 => ?_)
      have h := nm_out h x24 ex24
      refine lv_istore_n (lv' := [(2, .int x24), (0, .ref (a 0)), (1, .int p1), (3, .int i2)]) hx hb dX4_coinBrings_37 rfl hl (by decide) rfl (fun ls hl => ?_)
      obtain ⟨x25, ex25⟩ : ∃ z : Int32, z = i2 + 1 := ⟨_, rfl⟩
      have h := nm_out h x25 ex25
      refine lv_iinc (v := x25) (lv' := [(3, .int x25), (2, .int x24), (0, .ref (a 0)), (1, .int p1)]) hx hb dX4_coinBrings_38 hl (k := 3) rfl (by rw [ex25]; rfl) (by decide) rfl (fun ls hl => ?_)
      refine lv_goto (tgt := 4) hx hb dX4_coinBrings_41 (by decide) ?_
      exact h ls H locs (lv_sub hl [2, 3, 1, 0] rfl) hP hD hS
    refine lv_icmp_ge (tgt := 32) hx hb dX4_coinBrings_25 (by decide) (fun c26 => ?_) (fun c26 => ?_)
    · have h := br1 h c26
      refine lv_iconst (v := 0) hx hb dX4_coinBrings_32 (by decide) ?_
      exact hJ_33 0 ls h (lv_sub hl [0, 1, 3] rfl)
    · have h := br2 h c26
      refine lv_iconst (v := 1) hx hb dX4_coinBrings_28 (by decide) ?_
      refine lv_goto (tgt := 33) hx hb dX4_coinBrings_29 (by decide) ?_
      exact hJ_33 1 ls h (lv_sub hl [0, 1, 3] rfl)

def w_X4_brings (p1 : Int32) (mo : S2) (lo : SL) (K : Int32 → S2 → SL → Prop) : Prop := w_X4_tradeBrings p1 mo lo (fun r3 mo1 lo2 => br ((mo1 2 (22 : Int32).toNatClampNeg) = p1) (w_X4_coinBrings p1 mo1 lo2 (fun r8 mo6 lo7 => K (r3 + r8) mo6 lo7)) (K (r3 + 0) mo1 lo2))
abbrev rm_X4_brings : Room := { frames := 2, cells := 0, slots := 0, locals := 45 }
set_option maxHeartbeats 4000000 in
set_option maxRecDepth 100000 in
theorem c_X4_brings (l : Launch) (D : va_G) (kc : Nat → ClassId) (a : Nat → Nat) (p1 : Int32) (mo : S2) (lo : SL) (sz : Nat) (K : Int32 → S2 → SL → Prop) (h : w_X4_brings p1 mo lo K) : MetI l yX4_brings wsX4_brings rm_X4_brings D kc (fun u : S2 × SL => cM kc a u.1 u.2) (mo, lo) [.ref (a 0), .int p1] sz (fun r u => K r u.1 u.2) := by
  refine q_ei (code := cX4_brings) (maxL := 2) (by decide) rfl (Nat.le_of_ble_eq_true rfl) ?_
  intro p e s m args below meth c Q A hx hb hml hts hown hK hA hret ls hl hP hD hS
  have hown : s.vm.findClass RX4 = some m.cls := hown
  have hl : lv_has ls 2 [(0, .ref (a 0)), (1, .int p1)] := hl
  have hP : va_P D vwCl (cM kc a mo lo) s.heap := hP
  have hD : va_D A (cM kc a mo lo) := hD
  have hS : va_S A s.heap s.heap [] := hS
  obtain ⟨H, eH⟩ : ∃ z, z = s.heap := ⟨_, rfl⟩
  obtain ⟨locs, eL⟩ : ∃ z : List Loc, z = [] := ⟨_, rfl⟩
  have hP := q_heap hP eH
  have hS := q_heapS hS eH eL
  refine q_start eH eL ?_
  clear eH eL
  have hi4 : ∀ w ∈ u_ws RX4 TX4 29, w ∈ wsX4_brings := by decide +kernel
  unfold w_X4_brings at h
  refine lv_aload_n hx hb dX4_brings_0 rfl (lv_at hl 0 rfl) ?_
  refine lv_iload_n hx hb dX4_brings_1 rfl (lv_at hl 1 rfl) ?_
  refine q_cVi (As := [.int p1]) (rest := []) ⟨hx, hb, hml, hown, hts⟩ hK (c_X4_tradeBrings l D kc a p1 mo lo H.size _ h) (cwV 1 hts gX4_brings_X4_tradeBrings rfl rfl rfl (by decide +kernel) ⟨Nat.le_of_ble_eq_true rfl, Nat.le_of_ble_eq_true rfl⟩) (cut_same (fun u : S2 × SL => cM kc a u.1 u.2) (mo, lo)) hP hD hS hA 4 0 rfl rfl rfl hl.1 rfl (Nat.le_of_ble_eq_true rfl) dX4_brings_2 ⟨Nat.zero_le _, Nat.zero_le _⟩ (fun r3 u4 H locs h hP hD hS => ?_)
  obtain ⟨mo1, lo2⟩ := u4
  have hP : va_P D vwCl (cM kc a mo1 lo2) H := hP
  have hD : va_D A (cM kc a mo1 lo2) := hD
  refine lv_aload_n hx hb dX4_brings_5 rfl (lv_at hl 0 rfl) ?_
  refine va_get (D := D) (ci := 4) (v := .ref (a 2)) (C := RX4) (T := TX4) (N := 29) hx hb hts hi4 hown hK.1 hP 0 rfl rfl 1 (by decide) (hts (.fieldLink RX4 13 "LastPennyModel" "now" "[I") (by decide +kernel)) (fun _ h9 => h9) rfl dX4_brings_6 ?_
  refine lv_bipush (v := 22) hx hb dX4_brings_9 (by decide) ?_
  refine va_iald hx hb hK.1 hP 2 0 rfl rfl (by unfold vp_in; decide) dX4_brings_11 ?_
  refine lv_iload_n hx hb dX4_brings_12 rfl (lv_at hl 1 rfl) ?_
  refine lv_icmp_ne (tgt := 24) hx hb dX4_brings_13 (by decide) (fun c5 => ?_) (fun c5 => ?_)
  · have h := br2 h c5
    refine lv_iconst (v := 0) hx hb dX4_brings_24 (by decide) ?_
    refine lv_iadd hx hb dX4_brings_25 ?_
    exact hret (r3 + 0) (mo1, lo2) H locs ls _ h hP hD hS dX4_brings_26
  · have h := br1 h c5
    refine lv_aload_n hx hb dX4_brings_16 rfl (lv_at hl 0 rfl) ?_
    refine lv_iload_n hx hb dX4_brings_17 rfl (lv_at hl 1 rfl) ?_
    refine q_cVi (As := [.int p1]) (rest := [.int r3]) ⟨hx, hb, hml, hown, hts⟩ hK (c_X4_coinBrings l D kc a p1 mo1 lo2 H.size _ h) (cwV 1 hts gX4_brings_X4_coinBrings rfl rfl rfl (by decide +kernel) ⟨Nat.le_of_ble_eq_true rfl, Nat.le_of_ble_eq_true rfl⟩) (cut_same (fun u : S2 × SL => cM kc a u.1 u.2) (mo1, lo2)) hP hD hS hA 4 0 rfl rfl rfl hl.1 rfl (Nat.le_of_ble_eq_true rfl) dX4_brings_18 ⟨Nat.zero_le _, Nat.zero_le _⟩ (fun r8 u9 H locs h hP hD hS => ?_)
    obtain ⟨mo6, lo7⟩ := u9
    have hP : va_P D vwCl (cM kc a mo6 lo7) H := hP
    have hD : va_D A (cM kc a mo6 lo7) := hD
    refine lv_goto (tgt := 25) hx hb dX4_brings_21 (by decide) ?_
    refine lv_iadd hx hb dX4_brings_25 ?_
    exact hret (r3 + r8) (mo6, lo7) H locs ls _ h hP hD hS dX4_brings_26

def w_X4_giftsGo (mo : S2) (lo : SL) (K : S2 → SL → Prop) : Prop := lfp3 (fun G2 (i1 : Int32) (mo2 : S2) (lo3 : SL) => br ((mo2 2 (23 : Int32).toNatClampNeg) ≤ i1) (K mo2 lo3) (nm ((24 + (4 * i1)) : Int32) (fun x5 => vp_in x5 57 ∧ (jn (fun (mo7 : S2) (lo8 : SL) => nm (i1 + 1 : Int32) (fun x9 => G2 x9 mo7 lo8)) (fun J125 => br ((mo2 2 x5.toNatClampNeg) = (mo2 2 (20 : Int32).toNatClampNeg)) (vp_in (x5 + 1) 57 ∧ (w_X4_of (mo2 2 (x5 + 1).toNatClampNeg) (1 : Int32) mo2 lo3 (fun r14 mo12 lo13 => vp_in (x5 + 3) 57 ∧ (jn (fun (k17 : Int32) => vp_in (x5 + 1) 57 ∧ (w_X4_becomesOf (mo12 2 (x5 + 1).toNatClampNeg) (1 : Int32) (r14 - k17) mo12 lo13 (fun mo19 lo20 => vp_in (x5 + 2) 57 ∧ (vp_in (x5 + 2) 57 ∧ (w_X4_of (mo19 2 (x5 + 2).toNatClampNeg) (1 : Int32) mo19 lo20 (fun r26 mo24 lo25 => w_X4_within (r26 + k17) (fun r28 => w_X4_becomesOf (mo19 2 (x5 + 2).toNatClampNeg) (1 : Int32) r28 mo24 lo25 (fun mo30 lo31 => J125 mo30 lo31)))))))) (fun J74 => br (r14 ≤ (mo12 2 (x5 + 3).toNatClampNeg)) (J74 r14) (vp_in (x5 + 3) 57 ∧ (J74 (mo12 2 (x5 + 3).toNatClampNeg)))))))) (J125 mo2 lo3)))))) 0 mo lo
abbrev rm_X4_giftsGo : Room := { frames := 1, cells := 0, slots := 0, locals := 23 }
set_option maxHeartbeats 4000000 in
set_option maxRecDepth 100000 in
theorem c_X4_giftsGo (l : Launch) (D : va_G) (kc : Nat → ClassId) (a : Nat → Nat) (mo : S2) (lo : SL) (sz : Nat) (K : S2 → SL → Prop) (h : w_X4_giftsGo mo lo K) : MetV l yX4_giftsGo wsX4_giftsGo rm_X4_giftsGo D kc (fun u : S2 × SL => cM kc a u.1 u.2) (mo, lo) [.ref (a 0)] sz (fun u => K u.1 u.2) := by
  refine q_ev (code := cX4_giftsGo) (maxL := 5) (by decide) rfl (Nat.le_of_ble_eq_true rfl) ?_
  intro p e s m args below meth c Q A hx hb hml hts hown hK hA hret ls hl hP hD hS
  have hown : s.vm.findClass RX4 = some m.cls := hown
  have hl : lv_has ls 5 [(0, .ref (a 0))] := hl
  have hP : va_P D vwCl (cM kc a mo lo) s.heap := hP
  have hD : va_D A (cM kc a mo lo) := hD
  have hS : va_S A s.heap s.heap [] := hS
  obtain ⟨H, eH⟩ : ∃ z, z = s.heap := ⟨_, rfl⟩
  obtain ⟨locs, eL⟩ : ∃ z : List Loc, z = [] := ⟨_, rfl⟩
  have hP := q_heap hP eH
  have hS := q_heapS hS eH eL
  refine q_start eH eL ?_
  clear eH eL
  have hi4 : ∀ w ∈ u_ws RX4 TX4 29, w ∈ wsX4_giftsGo := by decide +kernel
  unfold w_X4_giftsGo at h
  refine lv_iconst (v := 0) hx hb dX4_giftsGo_0 (by decide) ?_
  refine lv_istore_n (lv' := [(1, .int 0), (0, .ref (a 0))]) hx hb dX4_giftsGo_1 rfl hl (by decide) rfl (fun ls hl => ?_)
  refine h (fun (i1 : Int32) (mo2 : S2) (lo3 : SL) => ∀ (ls : Array Slot) (H : Heap) (locs : List Loc), lv_has ls 5 [(0, .ref (a 0)), (1, .int i1)] → va_P D vwCl (cM kc a mo2 lo3) H → va_D A (cM kc a mo2 lo3) → va_S A s.heap H locs → W p l e rm_X4_giftsGo s m args below meth c H locs 0 0 Q (F0 m 2 ls [])) ?_ ls H locs (lv_sub hl [1, 0] rfl) hP hD hS
  intro i1 mo2 lo3 h ls H locs hl hP hD hS
  refine lv_iload_n hx hb dX4_giftsGo_2 rfl (lv_at hl 1 rfl) ?_
  refine lv_aload_n hx hb dX4_giftsGo_3 rfl (lv_at hl 0 rfl) ?_
  refine va_get (D := D) (ci := 4) (v := .ref (a 2)) (C := RX4) (T := TX4) (N := 29) hx hb hts hi4 hown hK.1 hP 0 rfl rfl 1 (by decide) (hts (.fieldLink RX4 13 "LastPennyModel" "now" "[I") (by decide +kernel)) (fun _ h9 => h9) rfl dX4_giftsGo_4 ?_
  refine lv_bipush (v := 23) hx hb dX4_giftsGo_7 (by decide) ?_
  refine va_iald hx hb hK.1 hP 2 0 rfl rfl (by unfold vp_in; decide) dX4_giftsGo_9 ?_
  refine lv_icmp_ge (tgt := 131) hx hb dX4_giftsGo_10 (by decide) (fun c4 => ?_) (fun c4 => ?_)
  · have h := br1 h c4
    exact hret (mo2, lo3) H locs ls _ h hP hD hS dX4_giftsGo_131
  · have h := br2 h c4
    refine lv_bipush (v := 24) hx hb dX4_giftsGo_13 (by decide) ?_
    refine lv_iconst (v := 4) hx hb dX4_giftsGo_15 (by decide) ?_
    refine lv_iload_n hx hb dX4_giftsGo_16 rfl (lv_at hl 1 rfl) ?_
    refine lv_imul hx hb dX4_giftsGo_17 ?_
    refine lv_iadd hx hb dX4_giftsGo_18 ?_
    refine lv_topi (fun x5 ex5 => ?_)
    have h := nm_out h x5 ex5
    refine lv_istore_n (lv' := [(2, .int x5), (0, .ref (a 0)), (1, .int i1)]) hx hb dX4_giftsGo_19 rfl hl (by decide) rfl (fun ls hl => ?_)
    refine lv_aload_n hx hb dX4_giftsGo_20 rfl (lv_at hl 1 rfl) ?_
    refine va_get (D := D) (ci := 4) (v := .ref (a 2)) (C := RX4) (T := TX4) (N := 29) hx hb hts hi4 hown hK.1 hP 0 rfl rfl 1 (by decide) (hts (.fieldLink RX4 13 "LastPennyModel" "now" "[I") (by decide +kernel)) (fun _ h9 => h9) rfl dX4_giftsGo_21 ?_
    refine lv_iload_n hx hb dX4_giftsGo_24 rfl (lv_at hl 0 rfl) ?_
    obtain ⟨hi_6, h⟩ := h
    refine va_iald hx hb hK.1 hP 2 0 rfl rfl hi_6 dX4_giftsGo_25 ?_
    refine lv_aload_n hx hb dX4_giftsGo_26 rfl (lv_at hl 1 rfl) ?_
    refine va_get (D := D) (ci := 4) (v := .ref (a 2)) (C := RX4) (T := TX4) (N := 29) hx hb hts hi4 hown hK.1 hP 0 rfl rfl 1 (by decide) (hts (.fieldLink RX4 13 "LastPennyModel" "now" "[I") (by decide +kernel)) (fun _ h9 => h9) rfl dX4_giftsGo_27 ?_
    refine lv_bipush (v := 20) hx hb dX4_giftsGo_30 (by decide) ?_
    refine va_iald hx hb hK.1 hP 2 0 rfl rfl (by unfold vp_in; decide) dX4_giftsGo_32 ?_
    refine jn_elim h (fun J125 eJ125 h => ?_)
    have hJ_125 : ∀ (mo7 : S2) (lo8 : SL) (ls : Array Slot) (H : Heap) (locs : List Loc), J125 mo7 lo8 → lv_has ls 5 [(0, .ref (a 0)), (1, .int i1)] → va_P D vwCl (cM kc a mo7 lo8) H → va_D A (cM kc a mo7 lo8) → va_S A s.heap H locs → W p l e rm_X4_giftsGo s m args below meth c H locs 0 0 Q (F0 m 125 ls []) := by
      intro mo7 lo8 ls H locs h hl hP hD hS
      subst eJ125
      obtain ⟨x9, ex9⟩ : ∃ z : Int32, z = i1 + 1 := ⟨_, rfl⟩
      have h := nm_out h x9 ex9
      refine lv_iinc (v := x9) (lv' := [(1, .int x9), (0, .ref (a 0))]) hx hb dX4_giftsGo_125 hl (k := 1) rfl (by rw [ex9]; rfl) (by decide) rfl (fun ls hl => ?_)
      refine lv_goto (tgt := 2) hx hb dX4_giftsGo_128 (by decide) ?_
      exact h ls H locs (lv_sub hl [1, 0] rfl) hP hD hS
    refine lv_icmp_ne (tgt := 125) hx hb dX4_giftsGo_33 (by decide) (fun c10 => ?_) (fun c10 => ?_)
    · have h := br2 h c10
      exact hJ_125 mo2 lo3 ls H locs h (lv_sub hl [1, 2] rfl) hP hD hS
    · have h := br1 h c10
      refine lv_aload_n hx hb dX4_giftsGo_36 rfl (lv_at hl 1 rfl) ?_
      refine lv_aload_n hx hb dX4_giftsGo_37 rfl (lv_at hl 1 rfl) ?_
      refine va_get (D := D) (ci := 4) (v := .ref (a 2)) (C := RX4) (T := TX4) (N := 29) hx hb hts hi4 hown hK.1 hP 0 rfl rfl 1 (by decide) (hts (.fieldLink RX4 13 "LastPennyModel" "now" "[I") (by decide +kernel)) (fun _ h9 => h9) rfl dX4_giftsGo_38 ?_
      refine lv_iload_n hx hb dX4_giftsGo_41 rfl (lv_at hl 0 rfl) ?_
      refine lv_iconst (v := 1) hx hb dX4_giftsGo_42 (by decide) ?_
      refine lv_iadd hx hb dX4_giftsGo_43 ?_
      obtain ⟨hi_11, h⟩ := h
      refine va_iald hx hb hK.1 hP 2 0 rfl rfl hi_11 dX4_giftsGo_44 ?_
      refine lv_iconst (v := 1) hx hb dX4_giftsGo_45 (by decide) ?_
      refine q_cVi (As := [.int (mo2 2 (x5 + 1).toNatClampNeg), .int 1]) (rest := []) ⟨hx, hb, hml, hown, hts⟩ hK (c_X4_of l D kc a (mo2 2 (x5 + 1).toNatClampNeg) (1 : Int32) mo2 lo3 H.size _ h) (cwV 2 hts gX4_giftsGo_X4_of rfl rfl rfl (by decide +kernel) ⟨Nat.le_of_ble_eq_true rfl, Nat.le_of_ble_eq_true rfl⟩) (cut_same (fun u : S2 × SL => cM kc a u.1 u.2) (mo2, lo3)) hP hD hS hA 4 0 rfl rfl rfl hl.1 rfl (Nat.le_of_ble_eq_true rfl) dX4_giftsGo_46 ⟨Nat.zero_le _, Nat.zero_le _⟩ (fun r14 u15 H locs h hP hD hS => ?_)
      obtain ⟨mo12, lo13⟩ := u15
      have hP : va_P D vwCl (cM kc a mo12 lo13) H := hP
      have hD : va_D A (cM kc a mo12 lo13) := hD
      refine lv_istore_n (lv' := [(3, .int r14), (2, .int x5), (0, .ref (a 0)), (1, .int i1)]) hx hb dX4_giftsGo_49 rfl hl (by decide) rfl (fun ls hl => ?_)
      refine lv_aload_n hx hb dX4_giftsGo_50 rfl (lv_at hl 2 rfl) ?_
      refine va_get (D := D) (ci := 4) (v := .ref (a 2)) (C := RX4) (T := TX4) (N := 29) hx hb hts hi4 hown hK.1 hP 0 rfl rfl 1 (by decide) (hts (.fieldLink RX4 13 "LastPennyModel" "now" "[I") (by decide +kernel)) (fun _ h9 => h9) rfl dX4_giftsGo_51 ?_
      refine lv_iload_n hx hb dX4_giftsGo_54 rfl (lv_at hl 1 rfl) ?_
      refine lv_iconst (v := 3) hx hb dX4_giftsGo_55 (by decide) ?_
      refine lv_iadd hx hb dX4_giftsGo_56 ?_
      obtain ⟨hi_16, h⟩ := h
      refine va_iald hx hb hK.1 hP 2 0 rfl rfl hi_16 dX4_giftsGo_57 ?_
      refine lv_iload_n hx hb dX4_giftsGo_58 rfl (lv_at hl 0 rfl) ?_
      refine jn_elim h (fun J74 eJ74 h => ?_)
      have hJ_74 : ∀ (k17 : Int32) (ls : Array Slot), J74 k17 → lv_has ls 5 [(0, .ref (a 0)), (1, .int i1), (2, .int x5), (3, .int r14)] → W p l e rm_X4_giftsGo s m args below meth c H locs 0 0 Q (F0 m 74 ls [.int k17]) := by
        intro k17 ls h hl
        subst eJ74
        refine lv_istore (lv' := [(4, .int k17), (0, .ref (a 0)), (1, .int i1), (2, .int x5), (3, .int r14)]) hx hb dX4_giftsGo_74 hl (by decide) rfl (fun ls hl => ?_)
        refine lv_aload_n hx hb dX4_giftsGo_76 rfl (lv_at hl 1 rfl) ?_
        refine lv_aload_n hx hb dX4_giftsGo_77 rfl (lv_at hl 1 rfl) ?_
        refine va_get (D := D) (ci := 4) (v := .ref (a 2)) (C := RX4) (T := TX4) (N := 29) hx hb hts hi4 hown hK.1 hP 0 rfl rfl 1 (by decide) (hts (.fieldLink RX4 13 "LastPennyModel" "now" "[I") (by decide +kernel)) (fun _ h9 => h9) rfl dX4_giftsGo_78 ?_
        refine lv_iload_n hx hb dX4_giftsGo_81 rfl (lv_at hl 3 rfl) ?_
        refine lv_iconst (v := 1) hx hb dX4_giftsGo_82 (by decide) ?_
        refine lv_iadd hx hb dX4_giftsGo_83 ?_
        obtain ⟨hi_18, h⟩ := h
        refine va_iald hx hb hK.1 hP 2 0 rfl rfl hi_18 dX4_giftsGo_84 ?_
        refine lv_iconst (v := 1) hx hb dX4_giftsGo_85 (by decide) ?_
        refine lv_iload_n hx hb dX4_giftsGo_86 rfl (lv_at hl 4 rfl) ?_
        refine lv_iload hx hb dX4_giftsGo_87 (lv_at hl 0 rfl) ?_
        refine lv_isub hx hb dX4_giftsGo_89 ?_
        refine q_cVv (As := [.int (mo12 2 (x5 + 1).toNatClampNeg), .int 1, .int (r14 - k17)]) (rest := []) ⟨hx, hb, hml, hown, hts⟩ hK (c_X4_becomesOf l D kc a (mo12 2 (x5 + 1).toNatClampNeg) (1 : Int32) (r14 - k17) mo12 lo13 H.size _ h) (cwV 3 hts gX4_giftsGo_X4_becomesOf rfl rfl rfl (by decide +kernel) ⟨Nat.le_of_ble_eq_true rfl, Nat.le_of_ble_eq_true rfl⟩) (cut_same (fun u : S2 × SL => cM kc a u.1 u.2) (mo12, lo13)) hP hD hS hA 4 0 rfl rfl rfl hl.1 rfl (Nat.le_of_ble_eq_true rfl) dX4_giftsGo_90 ⟨Nat.zero_le _, Nat.zero_le _⟩ (fun u21 H locs h hP hD hS => ?_)
        obtain ⟨mo19, lo20⟩ := u21
        have hP : va_P D vwCl (cM kc a mo19 lo20) H := hP
        have hD : va_D A (cM kc a mo19 lo20) := hD
        refine lv_aload_n hx hb dX4_giftsGo_93 rfl (lv_at hl 1 rfl) ?_
        refine lv_aload_n hx hb dX4_giftsGo_94 rfl (lv_at hl 1 rfl) ?_
        refine va_get (D := D) (ci := 4) (v := .ref (a 2)) (C := RX4) (T := TX4) (N := 29) hx hb hts hi4 hown hK.1 hP 0 rfl rfl 1 (by decide) (hts (.fieldLink RX4 13 "LastPennyModel" "now" "[I") (by decide +kernel)) (fun _ h9 => h9) rfl dX4_giftsGo_95 ?_
        refine lv_iload_n hx hb dX4_giftsGo_98 rfl (lv_at hl 3 rfl) ?_
        refine lv_iconst (v := 2) hx hb dX4_giftsGo_99 (by decide) ?_
        refine lv_iadd hx hb dX4_giftsGo_100 ?_
        obtain ⟨hi_22, h⟩ := h
        refine va_iald hx hb hK.1 hP 2 0 rfl rfl hi_22 dX4_giftsGo_101 ?_
        refine lv_iconst (v := 1) hx hb dX4_giftsGo_102 (by decide) ?_
        refine lv_aload_n hx hb dX4_giftsGo_103 rfl (lv_at hl 1 rfl) ?_
        refine lv_aload_n hx hb dX4_giftsGo_104 rfl (lv_at hl 1 rfl) ?_
        refine va_get (D := D) (ci := 4) (v := .ref (a 2)) (C := RX4) (T := TX4) (N := 29) hx hb hts hi4 hown hK.1 hP 0 rfl rfl 1 (by decide) (hts (.fieldLink RX4 13 "LastPennyModel" "now" "[I") (by decide +kernel)) (fun _ h9 => h9) rfl dX4_giftsGo_105 ?_
        refine lv_iload_n hx hb dX4_giftsGo_108 rfl (lv_at hl 3 rfl) ?_
        refine lv_iconst (v := 2) hx hb dX4_giftsGo_109 (by decide) ?_
        refine lv_iadd hx hb dX4_giftsGo_110 ?_
        obtain ⟨hi_23, h⟩ := h
        refine va_iald hx hb hK.1 hP 2 0 rfl rfl hi_23 dX4_giftsGo_111 ?_
        refine lv_iconst (v := 1) hx hb dX4_giftsGo_112 (by decide) ?_
        refine q_cVi (As := [.int (mo19 2 (x5 + 2).toNatClampNeg), .int 1]) (rest := [.int 1, .int (mo19 2 (x5 + 2).toNatClampNeg), .ref (a 0)]) ⟨hx, hb, hml, hown, hts⟩ hK (c_X4_of l D kc a (mo19 2 (x5 + 2).toNatClampNeg) (1 : Int32) mo19 lo20 H.size _ h) (cwV 2 hts gX4_giftsGo_X4_of rfl rfl rfl (by decide +kernel) ⟨Nat.le_of_ble_eq_true rfl, Nat.le_of_ble_eq_true rfl⟩) (cut_same (fun u : S2 × SL => cM kc a u.1 u.2) (mo19, lo20)) hP hD hS hA 4 0 rfl rfl rfl hl.1 rfl (Nat.le_of_ble_eq_true rfl) dX4_giftsGo_113 ⟨Nat.zero_le _, Nat.zero_le _⟩ (fun r26 u27 H locs h hP hD hS => ?_)
        obtain ⟨mo24, lo25⟩ := u27
        have hP : va_P D vwCl (cM kc a mo24 lo25) H := hP
        have hD : va_D A (cM kc a mo24 lo25) := hD
        refine lv_iload hx hb dX4_giftsGo_116 (lv_at hl 0 rfl) ?_
        refine lv_iadd hx hb dX4_giftsGo_118 ?_
        refine q_cSi (As := [.int (r26 + k17)]) (rest := [.int 1, .int (mo19 2 (x5 + 2).toNatClampNeg), .ref (a 0)]) ⟨hx, hb, hml, hown, hts⟩ hK (c_X4_within l D kc (r26 + k17) H.size _ h) (va_cwS 1 hts gX4_giftsGo_X4_within rfl rfl rfl (by decide +kernel) ⟨Nat.le_of_ble_eq_true rfl, Nat.le_of_ble_eq_true rfl⟩) (cut_nil _) hP hD hS hA rfl hl.1 rfl (Nat.le_of_ble_eq_true rfl) dX4_giftsGo_119 ⟨Nat.zero_le _, Nat.zero_le _⟩ (fun r28 _ H locs h hP hD hS => ?_)
        have hP : va_P D vwCl (cM kc a mo24 lo25) H := hP
        have hD : va_D A (cM kc a mo24 lo25) := hD
        refine q_cVv (As := [.int (mo19 2 (x5 + 2).toNatClampNeg), .int 1, .int r28]) (rest := []) ⟨hx, hb, hml, hown, hts⟩ hK (c_X4_becomesOf l D kc a (mo19 2 (x5 + 2).toNatClampNeg) (1 : Int32) r28 mo24 lo25 H.size _ h) (cwV 3 hts gX4_giftsGo_X4_becomesOf rfl rfl rfl (by decide +kernel) ⟨Nat.le_of_ble_eq_true rfl, Nat.le_of_ble_eq_true rfl⟩) (cut_same (fun u : S2 × SL => cM kc a u.1 u.2) (mo24, lo25)) hP hD hS hA 4 0 rfl rfl rfl hl.1 rfl (Nat.le_of_ble_eq_true rfl) dX4_giftsGo_122 ⟨Nat.zero_le _, Nat.zero_le _⟩ (fun u32 H locs h hP hD hS => ?_)
        obtain ⟨mo30, lo31⟩ := u32
        have hP : va_P D vwCl (cM kc a mo30 lo31) H := hP
        have hD : va_D A (cM kc a mo30 lo31) := hD
        exact hJ_125 mo30 lo31 ls H locs h (lv_sub hl [1, 2] rfl) hP hD hS
      refine lv_icmp_ge (tgt := 73) hx hb dX4_giftsGo_59 (by decide) (fun c33 => ?_) (fun c33 => ?_)
      · have h := br1 h c33
        refine lv_iload_n hx hb dX4_giftsGo_73 rfl (lv_at hl 0 rfl) ?_
        exact hJ_74 r14 ls h (lv_sub hl [2, 3, 1, 0] rfl)
      · have h := br2 h c33
        refine lv_aload_n hx hb dX4_giftsGo_62 rfl (lv_at hl 2 rfl) ?_
        refine va_get (D := D) (ci := 4) (v := .ref (a 2)) (C := RX4) (T := TX4) (N := 29) hx hb hts hi4 hown hK.1 hP 0 rfl rfl 1 (by decide) (hts (.fieldLink RX4 13 "LastPennyModel" "now" "[I") (by decide +kernel)) (fun _ h9 => h9) rfl dX4_giftsGo_63 ?_
        refine lv_iload_n hx hb dX4_giftsGo_66 rfl (lv_at hl 1 rfl) ?_
        refine lv_iconst (v := 3) hx hb dX4_giftsGo_67 (by decide) ?_
        refine lv_iadd hx hb dX4_giftsGo_68 ?_
        obtain ⟨hi_34, h⟩ := h
        refine va_iald hx hb hK.1 hP 2 0 rfl rfl hi_34 dX4_giftsGo_69 ?_
        refine lv_goto (tgt := 74) hx hb dX4_giftsGo_70 (by decide) ?_
        exact hJ_74 (mo12 2 (x5 + 3).toNatClampNeg) ls h (lv_sub hl [2, 3, 1, 0] rfl)

