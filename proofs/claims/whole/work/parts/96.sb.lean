abbrev rm_s0 : Room := { frames := 0, cells := 0, slots := 0, locals := 0 }
abbrev rm_s1 : Room := { frames := 1, cells := 0, slots := 0, locals := 22 }
abbrev rm_s2 : Room := { frames := 2, cells := 0, slots := 0, locals := 43 }
abbrev rm_s3 : Room := { frames := 3, cells := 0, slots := 0, locals := 64 }
abbrev rm_s4 : Room := { frames := 4, cells := 0, slots := 0, locals := 85 }
abbrev rm_s5 : Room := { frames := 5, cells := 0, slots := 0, locals := 107 }
def tb (k j : Nat) : Int32 := (tByt.getD k []).getD j 0
theorem tb_c : ∀ k, k < 7 → ∀ j, j < 7 → (((tb k j &&& 255).toUInt32 % 65536).toInt32 = tb k j ∧ narrow .char (.int (tb k j)) = .int (tb k j)) := by decide
theorem tb_n : ∀ k, k < 7 → ∀ j, j < 7 → tb k j = nI ((nmA k).getD j 0) := by decide
theorem tl_n : ∀ k, k < 7 → tLen.getD k 0 = (nmA k).length ∧ (nmA k).length ≤ 7 := by decide
set_option maxHeartbeats 4000000 in
theorem c_J3 (l : Launch) (D : va_G) (kc : Nat → ClassId) (i n : Int32) (v : Value) (hv : v = .null ∨ ∃ r, v = .ref r) (h0 : ¬ i < 0) (h1 : i < n) (sz : Nat) : MetI l yJ3_checkIndex_8e157 wsJ3_checkIndex_8e157 rm_s0 D kc (fun _ : Unit => []) () [.int i, .int n, v] sz (fun r _ => r = i) := by
  refine q_ei (code := cJ3_checkIndex_8e157) (maxL := 3) (by decide) rfl (by rcases hv with rfl | ⟨r, rfl⟩ <;> exact Nat.le_of_ble_eq_true rfl) ?_
  intro p e s m args below meth c Q A hx hb hml hts hown hK hA hret ls hl hP hD hS
  have hl : lv_has ls 3 [(0, .int i), (1, .int n), (2, v)] := by rcases hv with rfl | ⟨r, rfl⟩ <;> exact hl
  refine lv_iload_n hx hb dJ3_checkIndex_8e157_0 rfl (lv_at hl 0 rfl) ?_
  refine lv_if_lt (tgt := 9) hx hb dJ3_checkIndex_8e157_1 (by decide) (fun c => absurd c h0) (fun _ => ?_)
  refine lv_iload_n hx hb dJ3_checkIndex_8e157_4 rfl (lv_at hl 0 rfl) ?_
  refine lv_iload_n hx hb dJ3_checkIndex_8e157_5 rfl (lv_at hl 1 rfl) ?_
  refine lv_icmp_lt (tgt := 16) hx hb dJ3_checkIndex_8e157_6 (by decide) (fun _ => ?_) (fun c => absurd h1 c)
  refine lv_iload_n hx hb dJ3_checkIndex_8e157_16 rfl (lv_at hl 0 rfl) ?_
  exact hret i () _ _ ls _ rfl hP hD hS dJ3_checkIndex_8e157_17
set_option maxHeartbeats 4000000 in
theorem c_J0_checkIndex (l : Launch) (D : va_G) (kc : Nat → ClassId) (ad adV : Nat → Nat) (fm : Value) (i n : Int32) (h0 : ¬ i < 0) (h1 : i < n) (sz : Nat) : MetVS l yJ0_checkIndex_df160 wsJ0_checkIndex_df160 rm_s1 D kc ad adV fm (fun _ : Unit => []) () [.int i, .int n] sz (fun _ => True) := by
  refine q_evS (code := cJ0_checkIndex_df160) (maxL := 2) (by decide) rfl (Nat.le_of_ble_eq_true rfl) ?_
  intro p e s m args below meth c Q A hx hb hml hts hown hK hX hA hret ls hl hP hD hS
  have hown : s.vm.findClass RJ0 = some m.cls := hown
  have hl : lv_has ls 2 [(0, .int i), (1, .int n)] := hl
  obtain ⟨H, eH⟩ : ∃ z, z = s.heap := ⟨_, rfl⟩
  obtain ⟨locs, eL⟩ : ∃ z : List Loc, z = [] := ⟨_, rfl⟩
  have hP := q_heap hP eH
  have hS := q_heapS hS eH eL
  refine q_start eH eL ?_
  clear eH eL
  refine lv_iload_n hx hb dJ0_checkIndex_df160_0 rfl (lv_at hl 0 rfl) ?_
  refine lv_iload_n hx hb dJ0_checkIndex_df160_1 rfl (lv_at hl 1 rfl) ?_
  refine va_gets hx hb hX.2.2.1 hS hown (hts (.fieldLink RJ0 1053 "jdk/internal/util/Preconditions" "SIOOBE_FORMATTER" "Ljava/util/function/BiFunction;") (by decide +kernel)) (fun _ h9 => h9) dJ0_checkIndex_df160_2 ?_
  refine q_cSi (As := [.int i, .int n, fm]) (rest := []) ⟨hx, hb, hml, hown, hts⟩ hK (c_J3 l D kc i n fm hX.2.2.2.2 h0 h1 H.size) (va_cwS 3 hts gJ0_checkIndex_df160_J3_checkIndex_8e157 rfl rfl rfl (by decide +kernel) ⟨Nat.le_of_ble_eq_true rfl, Nat.le_of_ble_eq_true rfl⟩) (cut_nil _) hP hD hS hA rfl hl.1 rfl (Nat.le_of_ble_eq_true rfl) dJ0_checkIndex_df160_5 ⟨Nat.zero_le _, Nat.zero_le _⟩ (fun r4 _ H locs h hP hD hS => ?_)
  refine lv_pop hx hb dJ0_checkIndex_df160_8 rfl ?_
  exact hret () H locs ls _ trivial hP hD hS dJ0_checkIndex_df160_9
set_option maxHeartbeats 4000000 in
theorem c_J1_charAt (l : Launch) (D : va_G) (kc : Nat → ClassId) (ad adV : Nat → Nat) (fm : Value) (k j : Nat) (hk : k < 7) (hj : j < tLen.getD k 0) (sz : Nat) : MetIS l yJ1_charAt_3b067 wsJ1_charAt_3b067 rm_s2 D kc ad adV fm (fun _ : Unit => []) () [.ref (adV k), .int (nI j)] sz (fun r _ => r = tb k j) := by
  have h7 : tLen.getD k 0 ≤ 7 := by have := tl_n k hk; omega
  refine q_enS (code := cJ1_charAt_3b067) (maxL := 2) (ty := .char) (by decide) rfl (Nat.le_of_ble_eq_true rfl) ?_
  intro p e s m args below meth c Q A hx hb hml hts hown hK hX hA hret ls hl hP hD hS
  have hown : s.vm.findClass RJ1 = some m.cls := hown
  have hl : lv_has ls 2 [(0, .ref (adV k)), (1, .int (nI j))] := hl
  obtain ⟨H, eH⟩ : ∃ z, z = s.heap := ⟨_, rfl⟩
  obtain ⟨locs, eL⟩ : ∃ z : List Loc, z = [] := ⟨_, rfl⟩
  have hP := q_heap hP eH
  have hS := q_heapS hS eH eL
  refine q_start eH eL ?_
  clear eH eL
  have hT := (hX.1.1 k hk).2.2.2
  refine lv_iload_n hx hb dJ1_charAt_3b067_0 rfl (lv_at hl 1 rfl) ?_
  refine lv_aload_n hx hb dJ1_charAt_3b067_1 rfl (lv_at hl 0 rfl) ?_
  refine va_tlen hx hb hT hS (v := nI (tLen.getD k 0)) rfl dJ1_charAt_3b067_2 ?_
  refine q_cSvS (As := [.int (nI j), .int (nI (tLen.getD k 0))]) (rest := []) ⟨hx, hb, hml, hown, hts⟩ hK hX (c_J0_checkIndex l D kc ad adV fm (nI j) (nI (tLen.getD k 0)) (nI_pos (by omega)) (nI_lt hj (by omega)) H.size) (va_cwS 2 hts gJ1_charAt_3b067_J0_checkIndex_df160 rfl rfl rfl (by decide +kernel) ⟨Nat.le_of_ble_eq_true rfl, Nat.le_of_ble_eq_true rfl⟩) (cut_nil _) hP hD hS hA rfl hl.1 rfl (Nat.le_of_ble_eq_true rfl) dJ1_charAt_3b067_3 ⟨Nat.zero_le _, Nat.zero_le _⟩ (fun _ H locs h hP hD hS => ?_)
  refine lv_aload_n hx hb dJ1_charAt_3b067_6 rfl (lv_at hl 0 rfl) ?_
  refine lv_iload_n hx hb dJ1_charAt_3b067_7 rfl (lv_at hl 1 rfl) ?_
  refine va_tb hx hb hT hS (i := nI j) (z_in hj (by omega)) (v := .int (tb k j)) (by rw [z_cl (by omega)]; rfl) dJ1_charAt_3b067_8 ?_
  refine lv_sipush (v := 255) hx hb dJ1_charAt_3b067_9 (by decide) ?_
  refine lv_iand hx hb dJ1_charAt_3b067_12 ?_
  refine lv_i2c (v := tb k j) hx hb dJ1_charAt_3b067_13 (tb_c k hk j (by omega)).1 ?_
  exact hret (tb k j) () H locs ls _ (tb_c k hk j (by omega)).2 rfl hP hD hS dJ1_charAt_3b067_14
set_option maxHeartbeats 4000000 in
theorem c_J0_coder (l : Launch) (D : va_G) (kc : Nat → ClassId) (ad adV : Nat → Nat) (fm : Value) (k : Nat) (hk : k < 7) (sz : Nat) : MetIS l yJ0_coder_7d493 wsJ0_coder_7d493 rm_s0 D kc ad adV fm (fun _ : Unit => []) () [.ref (ad k)] sz (fun r _ => r = 0) := by
  refine q_enS (code := cJ0_coder_7d493) (maxL := 1) (ty := .byte) (by decide) rfl (Nat.le_of_ble_eq_true rfl) ?_
  intro p e s m args below meth c Q A hx hb hml hts hown hK hX hA hret ls hl hP hD hS
  have hown : s.vm.findClass RJ0 = some m.cls := hown
  have hl : lv_has ls 1 [(0, .ref (ad k))] := hl
  refine va_gets hx hb hX.2.1 hS hown (hts (.fieldLink RJ0 38 "java/lang/String" "COMPACT_STRINGS" "Z") (by decide +kernel)) (fun _ h9 => h9) dJ0_coder_7d493_0 ?_
  refine lv_if_eq (tgt := 13) hx hb dJ0_coder_7d493_3 (by decide) (fun c => absurd c (by decide)) (fun _ => ?_)
  refine lv_aload_n hx hb dJ0_coder_7d493_6 rfl (lv_at hl 0 rfl) ?_
  refine vk_getf hx hb (hX.1.1 k hk).2.1 hS hown (hts (.fieldLink RJ0 15 "java/lang/String" "coder" "B") (by decide +kernel)) (fun _ h9 => h9) dJ0_coder_7d493_7 ?_
  refine lv_goto (tgt := 14) hx hb dJ0_coder_7d493_10 (by decide) ?_
  exact hret 0 () _ _ ls _ rfl rfl hP hD hS dJ0_coder_7d493_14
set_option maxHeartbeats 4000000 in
theorem c_J0_isLatin1 (l : Launch) (D : va_G) (kc : Nat → ClassId) (ad adV : Nat → Nat) (fm : Value) (k : Nat) (hk : k < 7) (sz : Nat) : MetIS l yJ0_isLatin1_aae02 wsJ0_isLatin1_aae02 rm_s0 D kc ad adV fm (fun _ : Unit => []) () [.ref (ad k)] sz (fun r _ => r = 1) := by
  refine q_enS (code := cJ0_isLatin1_aae02) (maxL := 1) (ty := .boolean) (by decide) rfl (Nat.le_of_ble_eq_true rfl) ?_
  intro p e s m args below meth c Q A hx hb hml hts hown hK hX hA hret ls hl hP hD hS
  have hown : s.vm.findClass RJ0 = some m.cls := hown
  have hl : lv_has ls 1 [(0, .ref (ad k))] := hl
  refine va_gets hx hb hX.2.1 hS hown (hts (.fieldLink RJ0 38 "java/lang/String" "COMPACT_STRINGS" "Z") (by decide +kernel)) (fun _ h9 => h9) dJ0_isLatin1_aae02_0 ?_
  refine lv_if_eq (tgt := 17) hx hb dJ0_isLatin1_aae02_3 (by decide) (fun c => absurd c (by decide)) (fun _ => ?_)
  refine lv_aload_n hx hb dJ0_isLatin1_aae02_6 rfl (lv_at hl 0 rfl) ?_
  refine vk_getf hx hb (hX.1.1 k hk).2.1 hS hown (hts (.fieldLink RJ0 15 "java/lang/String" "coder" "B") (by decide +kernel)) (fun _ h9 => h9) dJ0_isLatin1_aae02_7 ?_
  refine lv_if_ne (tgt := 17) hx hb dJ0_isLatin1_aae02_10 (by decide) (fun c => absurd rfl c) (fun _ => ?_)
  refine lv_iconst (v := 1) hx hb dJ0_isLatin1_aae02_13 (by decide) ?_
  refine lv_goto (tgt := 18) hx hb dJ0_isLatin1_aae02_14 (by decide) ?_
  exact hret 1 () _ _ ls _ rfl rfl hP hD hS dJ0_isLatin1_aae02_18
set_option maxHeartbeats 4000000 in
theorem c_J0_length (l : Launch) (D : va_G) (kc : Nat → ClassId) (ad adV : Nat → Nat) (fm : Value) (k : Nat) (hk : k < 7) (sz : Nat) : MetIS l yJ0_length_8abf5 wsJ0_length_8abf5 rm_s1 D kc ad adV fm (fun _ : Unit => []) () [.ref (ad k)] sz (fun r _ => r = nI (tLen.getD k 0)) := by
  refine q_eiS (code := cJ0_length_8abf5) (maxL := 1) (by decide) rfl (Nat.le_of_ble_eq_true rfl) ?_
  intro p e s m args below meth c Q A hx hb hml hts hown hK hX hA hret ls hl hP hD hS
  have hown : s.vm.findClass RJ0 = some m.cls := hown
  have hl : lv_has ls 1 [(0, .ref (ad k))] := hl
  obtain ⟨H, eH⟩ : ∃ z, z = s.heap := ⟨_, rfl⟩
  obtain ⟨locs, eL⟩ : ∃ z : List Loc, z = [] := ⟨_, rfl⟩
  have hP := q_heap hP eH
  have hS := q_heapS hS eH eL
  refine q_start eH eL ?_
  clear eH eL
  refine lv_aload_n hx hb dJ0_length_8abf5_0 rfl (lv_at hl 0 rfl) ?_
  refine vk_getf hx hb (hX.1.1 k hk).2.2.1 hS hown (hts (.fieldLink RJ0 9 "java/lang/String" "value" "[B") (by decide +kernel)) (fun _ h9 => h9) dJ0_length_8abf5_1 ?_
  refine va_tlen hx hb (hX.1.1 k hk).2.2.2 hS (v := nI (tLen.getD k 0)) rfl dJ0_length_8abf5_4 ?_
  refine lv_aload_n hx hb dJ0_length_8abf5_5 rfl (lv_at hl 0 rfl) ?_
  refine q_cTi (As := []) (rest := [.int (nI (tLen.getD k 0))]) ⟨hx, hb, hml, hown, hts⟩ hK hX hk (c_J0_coder l D kc ad adV fm k hk H.size) (cwV 0 hts gJ0_length_8abf5_J0_coder_7d493 rfl rfl rfl (by decide +kernel) ⟨Nat.le_of_ble_eq_true rfl, Nat.le_of_ble_eq_true rfl⟩) (cut_nil _) hP hD hS hA rfl hl.1 rfl (Nat.le_of_ble_eq_true rfl) dJ0_length_8abf5_6 ⟨Nat.zero_le _, Nat.zero_le _⟩ (fun r4 _ H locs h hP hD hS => ?_)
  subst h
  refine lv_ishr hx hb dJ0_length_8abf5_9 ?_
  refine hret _ () H locs ls _ ?_ hP hD hS dJ0_length_8abf5_10
  have : ∀ k, k < 7 → nI (tLen.getD k 0) >>> ((0 : Int32) &&& 31) = nI (tLen.getD k 0) := by decide
  exact this k hk
set_option maxHeartbeats 4000000 in
theorem c_J0_charAt (l : Launch) (D : va_G) (kc : Nat → ClassId) (ad adV : Nat → Nat) (fm : Value) (k j : Nat) (hk : k < 7) (hj : j < tLen.getD k 0) (sz : Nat) : MetIS l yJ0_charAt_5068e wsJ0_charAt_5068e rm_s3 D kc ad adV fm (fun _ : Unit => []) () [.ref (ad k), .int (nI j)] sz (fun r _ => r = tb k j) := by
  have h7 : tLen.getD k 0 ≤ 7 := by have := tl_n k hk; omega
  refine q_enS (code := cJ0_charAt_5068e) (maxL := 2) (ty := .char) (by decide) rfl (Nat.le_of_ble_eq_true rfl) ?_
  intro p e s m args below meth c Q A hx hb hml hts hown hK hX hA hret ls hl hP hD hS
  have hown : s.vm.findClass RJ0 = some m.cls := hown
  have hl : lv_has ls 2 [(0, .ref (ad k)), (1, .int (nI j))] := hl
  obtain ⟨H, eH⟩ : ∃ z, z = s.heap := ⟨_, rfl⟩
  obtain ⟨locs, eL⟩ : ∃ z : List Loc, z = [] := ⟨_, rfl⟩
  have hP := q_heap hP eH
  have hS := q_heapS hS eH eL
  refine q_start eH eL ?_
  clear eH eL
  refine lv_aload_n hx hb dJ0_charAt_5068e_0 rfl (lv_at hl 0 rfl) ?_
  refine q_cTi (As := []) (rest := []) ⟨hx, hb, hml, hown, hts⟩ hK hX hk (c_J0_isLatin1 l D kc ad adV fm k hk H.size) (cwV 0 hts gJ0_charAt_5068e_J0_isLatin1_aae02 rfl rfl rfl (by decide +kernel) ⟨Nat.le_of_ble_eq_true rfl, Nat.le_of_ble_eq_true rfl⟩) (cut_nil _) hP hD hS hA rfl hl.1 rfl (Nat.le_of_ble_eq_true rfl) dJ0_charAt_5068e_1 ⟨Nat.zero_le _, Nat.zero_le _⟩ (fun r4 _ H locs h hP hD hS => ?_)
  subst h
  refine lv_if_eq (tgt := 16) hx hb dJ0_charAt_5068e_4 (by decide) (fun c => absurd c (by decide)) (fun _ => ?_)
  refine lv_aload_n hx hb dJ0_charAt_5068e_7 rfl (lv_at hl 0 rfl) ?_
  refine vk_getf hx hb (hX.1.1 k hk).2.2.1 hS hown (hts (.fieldLink RJ0 9 "java/lang/String" "value" "[B") (by decide +kernel)) (fun _ h9 => h9) dJ0_charAt_5068e_8 ?_
  refine lv_iload_n hx hb dJ0_charAt_5068e_11 rfl (lv_at hl 1 rfl) ?_
  refine q_cSiS (As := [.ref (adV k), .int (nI j)]) (rest := []) ⟨hx, hb, hml, hown, hts⟩ hK hX (c_J1_charAt l D kc ad adV fm k j hk hj H.size) (va_cwS 2 hts gJ0_charAt_5068e_J1_charAt_3b067 rfl rfl rfl (by decide +kernel) ⟨Nat.le_of_ble_eq_true rfl, Nat.le_of_ble_eq_true rfl⟩) (cut_nil _) hP hD hS hA rfl hl.1 rfl (Nat.le_of_ble_eq_true rfl) dJ0_charAt_5068e_12 ⟨Nat.zero_le _, Nat.zero_le _⟩ (fun r4 _ H locs h hP hD hS => ?_)
  subst h
  exact hret (tb k j) () H locs ls _ (tb_c k hk j (by omega)).2 rfl hP hD hS dJ0_charAt_5068e_15
