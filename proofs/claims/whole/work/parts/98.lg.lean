section LAW
variable {p : Program} {l : Launch} {e : Env} {s : State} {m : MethodId} {below : List Frame} {meth : Method} {c : Code} {b L : Nat} {xs : Nat → Int32} {D : va_G} {kc : Nat → ClassId} {ad adV : Nat → Nat} {fm : Value} {a : Nat → Nat → Nat} {b0 : Nat → Nat} {Q : State → Prop} {H : Heap} {locs : List Loc} {ls : Array Slot} {rest : List Value} {lv : List (Nat × Value)} {x3 : Int32}
set_option maxHeartbeats 4000000 in
set_option maxRecDepth 100000 in
theorem lc_see (F : LF p s m meth c b L xs D kc ad adV fm) (h1 : vp_in (x3 + 1) L) (h2 : vp_in (x3 + 2) L) (h3 : vp_in (x3 + 3) L) (h4 : vp_in (x3 + 4) L) (hl : lv_has ls 4 [(0, .ref b), (1, .ref (a 0 0)), (2, .ref (b0 0)), (3, .int x3)]) {o : S3} {mo : S2} {lo : SL} (I : IV o mo) (hP : va_P D vwCl (cLP kc a o ++ cM kc b0 mo lo) H) (hD : va_D (LA s) (cLP kc a o ++ cM kc b0 mo lo)) (hS : va_S (LA s) s.heap H locs) (K : LK p l e s m b below meth c Q D kc a b0 ls) : LW p l e s m b below meth c Q H locs (F0 m 1025 ls []) := by
  have F0 := F
  obtain ⟨hx, hb, hml, hown, hts, hX, hbl, hK, hQ⟩ := F0
  obtain ⟨P0, I⟩ := I
  have hA : ∀ q, s.heap.size ≤ q → LA s q := fun _ h => h
  refine lv_aload_n hx hb dL_law_1025 rfl (lv_at hl 1 rfl) ?_
  refine lx_arg (v := 1) F hl hS dL_law_1026 dL_law_1027 dL_law_1028 (by decide) dL_law_1029 dL_law_1030 h1 ?_
  refine lx_arg (v := 2) F hl hS dL_law_1031 dL_law_1032 dL_law_1033 (by decide) dL_law_1034 dL_law_1035 h2 ?_
  refine q_cVi (As := [.int (xs (x3 + 1).toNatClampNeg), .int (xs (x3 + 2).toNatClampNeg)]) (rest := []) ⟨hx, hb, hml, hown, hts⟩ hK (c_X3_see l D kc a (xs (x3 + 1).toNatClampNeg) (xs (x3 + 2).toNatClampNeg) o H.size _ (L_see (lo := lo) I (xs (x3 + 1).toNatClampNeg) (xs (x3 + 2).toNatClampNeg))) (cwV 2 hts gL_law_X3_see rfl rfl rfl (by decide +kernel) ⟨Nat.le_of_ble_eq_true rfl, Nat.le_of_ble_eq_true rfl⟩) (cut_l (cM kc b0 mo lo) (cLP kc a o) (fun u : S3 => cLP kc a u)) hP hD hS hA 3 0 rfl rfl rfl hl.1 rfl (Nat.le_of_ble_eq_true rfl) dL_law_1036 ⟨Nat.le_of_ble_eq_true rfl, Nat.le_of_ble_eq_true rfl⟩ (fun r1 o1 H locs hw hP hD hS => ?_)
  refine lv_aload_n hx hb dL_law_1039 rfl (lv_at hl 2 rfl) ?_
  refine lx_arg (v := 1) F hl hS dL_law_1040 dL_law_1041 dL_law_1042 (by decide) dL_law_1043 dL_law_1044 h1 ?_
  refine lx_arg (v := 2) F hl hS dL_law_1045 dL_law_1046 dL_law_1047 (by decide) dL_law_1048 dL_law_1049 h2 ?_
  refine q_cVi (As := [.int (xs (x3 + 1).toNatClampNeg), .int (xs (x3 + 2).toNatClampNeg)]) (rest := [.int r1]) ⟨hx, hb, hml, hown, hts⟩ hK (c_X4_see l D kc b0 (xs (x3 + 1).toNatClampNeg) (xs (x3 + 2).toNatClampNeg) mo lo H.size _ hw) (cwV 2 hts gL_law_X4_see rfl rfl rfl (by decide +kernel) ⟨Nat.le_of_ble_eq_true rfl, Nat.le_of_ble_eq_true rfl⟩) (cut_r (cLP kc a o1) (cM kc b0 mo lo) (fun u : S2 × SL => cM kc b0 u.1 u.2)) hP hD hS hA 4 0 rfl rfl rfl hl.1 rfl (Nat.le_of_ble_eq_true rfl) dL_law_1050 ⟨Nat.le_of_ble_eq_true rfl, Nat.le_of_ble_eq_true rfl⟩ (fun r2 u2 H locs hw hP hD hS => ?_)
  obtain ⟨er, I2⟩ := hw
  exact lv_icmp_eq (tgt := 1424) hx hb dL_law_1053 (by decide) (fun _ => K o1 u2.1 u2.2 H locs I2 hP hD hS) (fun cn => absurd er cn)
set_option maxHeartbeats 4000000 in
set_option maxRecDepth 100000 in
theorem lc_forget (F : LF p s m meth c b L xs D kc ad adV fm) (h1 : vp_in (x3 + 1) L) (h2 : vp_in (x3 + 2) L) (h3 : vp_in (x3 + 3) L) (h4 : vp_in (x3 + 4) L) (hl : lv_has ls 4 [(0, .ref b), (1, .ref (a 0 0)), (2, .ref (b0 0)), (3, .int x3)]) {o : S3} {mo : S2} {lo : SL} (I : IV o mo) (hP : va_P D vwCl (cLP kc a o ++ cM kc b0 mo lo) H) (hD : va_D (LA s) (cLP kc a o ++ cM kc b0 mo lo)) (hS : va_S (LA s) s.heap H locs) (K : LK p l e s m b below meth c Q D kc a b0 ls) : LW p l e s m b below meth c Q H locs (F0 m 1058 ls []) := by
  have F0 := F
  obtain ⟨hx, hb, hml, hown, hts, hX, hbl, hK, hQ⟩ := F0
  obtain ⟨P0, I⟩ := I
  have hA : ∀ q, s.heap.size ≤ q → LA s q := fun _ h => h
  refine lv_aload_n hx hb dL_law_1058 rfl (lv_at hl 1 rfl) ?_
  refine lx_arg (v := 1) F hl hS dL_law_1059 dL_law_1060 dL_law_1061 (by decide) dL_law_1062 dL_law_1063 h1 ?_
  refine q_cVi (As := [.int (xs (x3 + 1).toNatClampNeg)]) (rest := []) ⟨hx, hb, hml, hown, hts⟩ hK (c_X3_forget l D kc a (xs (x3 + 1).toNatClampNeg) o H.size _ (L_forget (lo := lo) I (xs (x3 + 1).toNatClampNeg))) (cwV 1 hts gL_law_X3_forget rfl rfl rfl (by decide +kernel) ⟨Nat.le_of_ble_eq_true rfl, Nat.le_of_ble_eq_true rfl⟩) (cut_l (cM kc b0 mo lo) (cLP kc a o) (fun u : S3 => cLP kc a u)) hP hD hS hA 3 0 rfl rfl rfl hl.1 rfl (Nat.le_of_ble_eq_true rfl) dL_law_1064 ⟨Nat.le_of_ble_eq_true rfl, Nat.le_of_ble_eq_true rfl⟩ (fun r1 o1 H locs hw hP hD hS => ?_)
  refine lv_aload_n hx hb dL_law_1067 rfl (lv_at hl 2 rfl) ?_
  refine lx_arg (v := 1) F hl hS dL_law_1068 dL_law_1069 dL_law_1070 (by decide) dL_law_1071 dL_law_1072 h1 ?_
  refine q_cVi (As := [.int (xs (x3 + 1).toNatClampNeg)]) (rest := [.int r1]) ⟨hx, hb, hml, hown, hts⟩ hK (c_X4_forget l D kc b0 (xs (x3 + 1).toNatClampNeg) mo lo H.size _ hw) (cwV 1 hts gL_law_X4_forget rfl rfl rfl (by decide +kernel) ⟨Nat.le_of_ble_eq_true rfl, Nat.le_of_ble_eq_true rfl⟩) (cut_r (cLP kc a o1) (cM kc b0 mo lo) (fun u : S2 × SL => cM kc b0 u.1 u.2)) hP hD hS hA 4 0 rfl rfl rfl hl.1 rfl (Nat.le_of_ble_eq_true rfl) dL_law_1073 ⟨Nat.le_of_ble_eq_true rfl, Nat.le_of_ble_eq_true rfl⟩ (fun r2 u2 H locs hw hP hD hS => ?_)
  obtain ⟨er, I2⟩ := hw
  exact lv_icmp_eq (tgt := 1424) hx hb dL_law_1076 (by decide) (fun _ => K o1 u2.1 u2.2 H locs I2 hP hD hS) (fun cn => absurd er cn)
set_option maxHeartbeats 4000000 in
set_option maxRecDepth 100000 in
theorem lc_kinds (F : LF p s m meth c b L xs D kc ad adV fm) (h1 : vp_in (x3 + 1) L) (h2 : vp_in (x3 + 2) L) (h3 : vp_in (x3 + 3) L) (h4 : vp_in (x3 + 4) L) (hl : lv_has ls 4 [(0, .ref b), (1, .ref (a 0 0)), (2, .ref (b0 0)), (3, .int x3)]) {o : S3} {mo : S2} {lo : SL} (I : IV o mo) (hP : va_P D vwCl (cLP kc a o ++ cM kc b0 mo lo) H) (hD : va_D (LA s) (cLP kc a o ++ cM kc b0 mo lo)) (hS : va_S (LA s) s.heap H locs) (K : LK p l e s m b below meth c Q D kc a b0 ls) : LW p l e s m b below meth c Q H locs (F0 m 1081 ls []) := by
  have F0 := F
  obtain ⟨hx, hb, hml, hown, hts, hX, hbl, hK, hQ⟩ := F0
  obtain ⟨P0, I⟩ := I
  have hA : ∀ q, s.heap.size ≤ q → LA s q := fun _ h => h
  refine lv_aload_n hx hb dL_law_1081 rfl (lv_at hl 1 rfl) ?_
  refine lx_arg (v := 1) F hl hS dL_law_1082 dL_law_1083 dL_law_1084 (by decide) dL_law_1085 dL_law_1086 h1 ?_
  refine q_cVi (As := [.int (xs (x3 + 1).toNatClampNeg)]) (rest := []) ⟨hx, hb, hml, hown, hts⟩ hK (c_X3_kinds l D kc a (xs (x3 + 1).toNatClampNeg) o H.size _ (L_kinds (lo := lo) I (xs (x3 + 1).toNatClampNeg))) (cwV 1 hts gL_law_X3_kinds rfl rfl rfl (by decide +kernel) ⟨Nat.le_of_ble_eq_true rfl, Nat.le_of_ble_eq_true rfl⟩) (cut_l (cM kc b0 mo lo) (cLP kc a o) (fun u : S3 => cLP kc a u)) hP hD hS hA 3 0 rfl rfl rfl hl.1 rfl (Nat.le_of_ble_eq_true rfl) dL_law_1087 ⟨Nat.le_of_ble_eq_true rfl, Nat.le_of_ble_eq_true rfl⟩ (fun r1 o1 H locs hw hP hD hS => ?_)
  refine lv_aload_n hx hb dL_law_1090 rfl (lv_at hl 2 rfl) ?_
  refine lx_arg (v := 1) F hl hS dL_law_1091 dL_law_1092 dL_law_1093 (by decide) dL_law_1094 dL_law_1095 h1 ?_
  refine q_cVi (As := [.int (xs (x3 + 1).toNatClampNeg)]) (rest := [.int r1]) ⟨hx, hb, hml, hown, hts⟩ hK (c_X4_kinds l D kc b0 (xs (x3 + 1).toNatClampNeg) mo lo H.size _ hw) (cwV 1 hts gL_law_X4_kinds rfl rfl rfl (by decide +kernel) ⟨Nat.le_of_ble_eq_true rfl, Nat.le_of_ble_eq_true rfl⟩) (cut_r (cLP kc a o1) (cM kc b0 mo lo) (fun u : S2 × SL => cM kc b0 u.1 u.2)) hP hD hS hA 4 0 rfl rfl rfl hl.1 rfl (Nat.le_of_ble_eq_true rfl) dL_law_1096 ⟨Nat.le_of_ble_eq_true rfl, Nat.le_of_ble_eq_true rfl⟩ (fun r2 u2 H locs hw hP hD hS => ?_)
  obtain ⟨er, I2⟩ := hw
  exact lv_icmp_eq (tgt := 1424) hx hb dL_law_1099 (by decide) (fun _ => K o1 u2.1 u2.2 H locs I2 hP hD hS) (fun cn => absurd er cn)
set_option maxHeartbeats 4000000 in
set_option maxRecDepth 100000 in
theorem lc_trades (F : LF p s m meth c b L xs D kc ad adV fm) (h1 : vp_in (x3 + 1) L) (h2 : vp_in (x3 + 2) L) (h3 : vp_in (x3 + 3) L) (h4 : vp_in (x3 + 4) L) (hl : lv_has ls 4 [(0, .ref b), (1, .ref (a 0 0)), (2, .ref (b0 0)), (3, .int x3)]) {o : S3} {mo : S2} {lo : SL} (I : IV o mo) (hP : va_P D vwCl (cLP kc a o ++ cM kc b0 mo lo) H) (hD : va_D (LA s) (cLP kc a o ++ cM kc b0 mo lo)) (hS : va_S (LA s) s.heap H locs) (K : LK p l e s m b below meth c Q D kc a b0 ls) : LW p l e s m b below meth c Q H locs (F0 m 1104 ls []) := by
  have F0 := F
  obtain ⟨hx, hb, hml, hown, hts, hX, hbl, hK, hQ⟩ := F0
  obtain ⟨P0, I⟩ := I
  have hA : ∀ q, s.heap.size ≤ q → LA s q := fun _ h => h
  refine lv_aload_n hx hb dL_law_1104 rfl (lv_at hl 1 rfl) ?_
  refine lx_arg (v := 1) F hl hS dL_law_1105 dL_law_1106 dL_law_1107 (by decide) dL_law_1108 dL_law_1109 h1 ?_
  refine q_cVi (As := [.int (xs (x3 + 1).toNatClampNeg)]) (rest := []) ⟨hx, hb, hml, hown, hts⟩ hK (c_X3_trades l D kc a (xs (x3 + 1).toNatClampNeg) o H.size _ (L_trades (lo := lo) I (xs (x3 + 1).toNatClampNeg))) (cwV 1 hts gL_law_X3_trades rfl rfl rfl (by decide +kernel) ⟨Nat.le_of_ble_eq_true rfl, Nat.le_of_ble_eq_true rfl⟩) (cut_l (cM kc b0 mo lo) (cLP kc a o) (fun u : S3 => cLP kc a u)) hP hD hS hA 3 0 rfl rfl rfl hl.1 rfl (Nat.le_of_ble_eq_true rfl) dL_law_1110 ⟨Nat.le_of_ble_eq_true rfl, Nat.le_of_ble_eq_true rfl⟩ (fun r1 o1 H locs hw hP hD hS => ?_)
  refine lv_aload_n hx hb dL_law_1113 rfl (lv_at hl 2 rfl) ?_
  refine lx_arg (v := 1) F hl hS dL_law_1114 dL_law_1115 dL_law_1116 (by decide) dL_law_1117 dL_law_1118 h1 ?_
  refine q_cVi (As := [.int (xs (x3 + 1).toNatClampNeg)]) (rest := [.int r1]) ⟨hx, hb, hml, hown, hts⟩ hK (c_X4_trades l D kc b0 (xs (x3 + 1).toNatClampNeg) mo lo H.size _ hw) (cwV 1 hts gL_law_X4_trades rfl rfl rfl (by decide +kernel) ⟨Nat.le_of_ble_eq_true rfl, Nat.le_of_ble_eq_true rfl⟩) (cut_r (cLP kc a o1) (cM kc b0 mo lo) (fun u : S2 × SL => cM kc b0 u.1 u.2)) hP hD hS hA 4 0 rfl rfl rfl hl.1 rfl (Nat.le_of_ble_eq_true rfl) dL_law_1119 ⟨Nat.le_of_ble_eq_true rfl, Nat.le_of_ble_eq_true rfl⟩ (fun r2 u2 H locs hw hP hD hS => ?_)
  obtain ⟨er, I2⟩ := hw
  exact lv_icmp_eq (tgt := 1424) hx hb dL_law_1122 (by decide) (fun _ => K o1 u2.1 u2.2 H locs I2 hP hD hS) (fun cn => absurd er cn)
set_option maxHeartbeats 4000000 in
set_option maxRecDepth 100000 in
theorem lc_ask (F : LF p s m meth c b L xs D kc ad adV fm) (h1 : vp_in (x3 + 1) L) (h2 : vp_in (x3 + 2) L) (h3 : vp_in (x3 + 3) L) (h4 : vp_in (x3 + 4) L) (hl : lv_has ls 4 [(0, .ref b), (1, .ref (a 0 0)), (2, .ref (b0 0)), (3, .int x3)]) {o : S3} {mo : S2} {lo : SL} (I : IV o mo) (hP : va_P D vwCl (cLP kc a o ++ cM kc b0 mo lo) H) (hD : va_D (LA s) (cLP kc a o ++ cM kc b0 mo lo)) (hS : va_S (LA s) s.heap H locs) (K : LK p l e s m b below meth c Q D kc a b0 ls) : LW p l e s m b below meth c Q H locs (F0 m 1127 ls []) := by
  have F0 := F
  obtain ⟨hx, hb, hml, hown, hts, hX, hbl, hK, hQ⟩ := F0
  obtain ⟨P0, I⟩ := I
  have hA : ∀ q, s.heap.size ≤ q → LA s q := fun _ h => h
  refine lv_aload_n hx hb dL_law_1127 rfl (lv_at hl 1 rfl) ?_
  refine lx_arg (v := 1) F hl hS dL_law_1128 dL_law_1129 dL_law_1130 (by decide) dL_law_1131 dL_law_1132 h1 ?_
  refine lx_arg (v := 2) F hl hS dL_law_1133 dL_law_1134 dL_law_1135 (by decide) dL_law_1136 dL_law_1137 h2 ?_
  refine q_cVi (As := [.int (xs (x3 + 1).toNatClampNeg), .int (xs (x3 + 2).toNatClampNeg)]) (rest := []) ⟨hx, hb, hml, hown, hts⟩ hK (c_X3_ask l D kc a (xs (x3 + 1).toNatClampNeg) (xs (x3 + 2).toNatClampNeg) o H.size _ (L_ask (lo := lo) I (xs (x3 + 1).toNatClampNeg) (xs (x3 + 2).toNatClampNeg))) (cwV 2 hts gL_law_X3_ask rfl rfl rfl (by decide +kernel) ⟨Nat.le_of_ble_eq_true rfl, Nat.le_of_ble_eq_true rfl⟩) (cut_l (cM kc b0 mo lo) (cLP kc a o) (fun u : S3 => cLP kc a u)) hP hD hS hA 3 0 rfl rfl rfl hl.1 rfl (Nat.le_of_ble_eq_true rfl) dL_law_1138 ⟨Nat.le_of_ble_eq_true rfl, Nat.le_of_ble_eq_true rfl⟩ (fun r1 o1 H locs hw hP hD hS => ?_)
  refine lv_aload_n hx hb dL_law_1141 rfl (lv_at hl 2 rfl) ?_
  refine lx_arg (v := 1) F hl hS dL_law_1142 dL_law_1143 dL_law_1144 (by decide) dL_law_1145 dL_law_1146 h1 ?_
  refine lx_arg (v := 2) F hl hS dL_law_1147 dL_law_1148 dL_law_1149 (by decide) dL_law_1150 dL_law_1151 h2 ?_
  refine q_cVi (As := [.int (xs (x3 + 1).toNatClampNeg), .int (xs (x3 + 2).toNatClampNeg)]) (rest := [.int r1]) ⟨hx, hb, hml, hown, hts⟩ hK (c_X4_ask l D kc b0 (xs (x3 + 1).toNatClampNeg) (xs (x3 + 2).toNatClampNeg) mo lo H.size _ hw) (cwV 2 hts gL_law_X4_ask rfl rfl rfl (by decide +kernel) ⟨Nat.le_of_ble_eq_true rfl, Nat.le_of_ble_eq_true rfl⟩) (cut_r (cLP kc a o1) (cM kc b0 mo lo) (fun u : S2 × SL => cM kc b0 u.1 u.2)) hP hD hS hA 4 0 rfl rfl rfl hl.1 rfl (Nat.le_of_ble_eq_true rfl) dL_law_1152 ⟨Nat.le_of_ble_eq_true rfl, Nat.le_of_ble_eq_true rfl⟩ (fun r2 u2 H locs hw hP hD hS => ?_)
  obtain ⟨er, I2⟩ := hw
  exact lv_icmp_eq (tgt := 1424) hx hb dL_law_1155 (by decide) (fun _ => K o1 u2.1 u2.2 H locs I2 hP hD hS) (fun cn => absurd er cn)
set_option maxHeartbeats 4000000 in
set_option maxRecDepth 100000 in
theorem lc_drift (F : LF p s m meth c b L xs D kc ad adV fm) (h1 : vp_in (x3 + 1) L) (h2 : vp_in (x3 + 2) L) (h3 : vp_in (x3 + 3) L) (h4 : vp_in (x3 + 4) L) (hl : lv_has ls 4 [(0, .ref b), (1, .ref (a 0 0)), (2, .ref (b0 0)), (3, .int x3)]) {o : S3} {mo : S2} {lo : SL} (I : IV o mo) (hP : va_P D vwCl (cLP kc a o ++ cM kc b0 mo lo) H) (hD : va_D (LA s) (cLP kc a o ++ cM kc b0 mo lo)) (hS : va_S (LA s) s.heap H locs) (K : LK p l e s m b below meth c Q D kc a b0 ls) : LW p l e s m b below meth c Q H locs (F0 m 1160 ls []) := by
  have F0 := F
  obtain ⟨hx, hb, hml, hown, hts, hX, hbl, hK, hQ⟩ := F0
  obtain ⟨P0, I⟩ := I
  have hA : ∀ q, s.heap.size ≤ q → LA s q := fun _ h => h
  refine lv_aload_n hx hb dL_law_1160 rfl (lv_at hl 1 rfl) ?_
  refine lx_arg (v := 1) F hl hS dL_law_1161 dL_law_1162 dL_law_1163 (by decide) dL_law_1164 dL_law_1165 h1 ?_
  refine lx_arg (v := 2) F hl hS dL_law_1166 dL_law_1167 dL_law_1168 (by decide) dL_law_1169 dL_law_1170 h2 ?_
  refine lx_arg (v := 3) F hl hS dL_law_1171 dL_law_1172 dL_law_1173 (by decide) dL_law_1174 dL_law_1175 h3 ?_
  refine q_cVi (As := [.int (xs (x3 + 1).toNatClampNeg), .int (xs (x3 + 2).toNatClampNeg), .int (xs (x3 + 3).toNatClampNeg)]) (rest := []) ⟨hx, hb, hml, hown, hts⟩ hK (c_X3_drift l D kc a (xs (x3 + 1).toNatClampNeg) (xs (x3 + 2).toNatClampNeg) (xs (x3 + 3).toNatClampNeg) o H.size _ (L_drift (lo := lo) I (xs (x3 + 1).toNatClampNeg) (xs (x3 + 2).toNatClampNeg) (xs (x3 + 3).toNatClampNeg))) (cwV 3 hts gL_law_X3_drift rfl rfl rfl (by decide +kernel) ⟨Nat.le_of_ble_eq_true rfl, Nat.le_of_ble_eq_true rfl⟩) (cut_l (cM kc b0 mo lo) (cLP kc a o) (fun u : S3 => cLP kc a u)) hP hD hS hA 3 0 rfl rfl rfl hl.1 rfl (Nat.le_of_ble_eq_true rfl) dL_law_1176 ⟨Nat.le_of_ble_eq_true rfl, Nat.le_of_ble_eq_true rfl⟩ (fun r1 o1 H locs hw hP hD hS => ?_)
  refine lv_aload_n hx hb dL_law_1179 rfl (lv_at hl 2 rfl) ?_
  refine lx_arg (v := 1) F hl hS dL_law_1180 dL_law_1181 dL_law_1182 (by decide) dL_law_1183 dL_law_1184 h1 ?_
  refine lx_arg (v := 2) F hl hS dL_law_1185 dL_law_1186 dL_law_1187 (by decide) dL_law_1188 dL_law_1189 h2 ?_
  refine lx_arg (v := 3) F hl hS dL_law_1190 dL_law_1191 dL_law_1192 (by decide) dL_law_1193 dL_law_1194 h3 ?_
  refine q_cVi (As := [.int (xs (x3 + 1).toNatClampNeg), .int (xs (x3 + 2).toNatClampNeg), .int (xs (x3 + 3).toNatClampNeg)]) (rest := [.int r1]) ⟨hx, hb, hml, hown, hts⟩ hK (c_X4_drift l D kc b0 (xs (x3 + 1).toNatClampNeg) (xs (x3 + 2).toNatClampNeg) (xs (x3 + 3).toNatClampNeg) mo lo H.size _ hw) (cwV 3 hts gL_law_X4_drift rfl rfl rfl (by decide +kernel) ⟨Nat.le_of_ble_eq_true rfl, Nat.le_of_ble_eq_true rfl⟩) (cut_r (cLP kc a o1) (cM kc b0 mo lo) (fun u : S2 × SL => cM kc b0 u.1 u.2)) hP hD hS hA 4 0 rfl rfl rfl hl.1 rfl (Nat.le_of_ble_eq_true rfl) dL_law_1195 ⟨Nat.le_of_ble_eq_true rfl, Nat.le_of_ble_eq_true rfl⟩ (fun r2 u2 H locs hw hP hD hS => ?_)
  obtain ⟨er, I2⟩ := hw
  exact lv_icmp_eq (tgt := 1424) hx hb dL_law_1198 (by decide) (fun _ => K o1 u2.1 u2.2 H locs I2 hP hD hS) (fun cn => absurd er cn)
set_option maxHeartbeats 4000000 in
set_option maxRecDepth 100000 in
theorem lc_keep (F : LF p s m meth c b L xs D kc ad adV fm) (h1 : vp_in (x3 + 1) L) (h2 : vp_in (x3 + 2) L) (h3 : vp_in (x3 + 3) L) (h4 : vp_in (x3 + 4) L) (hl : lv_has ls 4 [(0, .ref b), (1, .ref (a 0 0)), (2, .ref (b0 0)), (3, .int x3)]) {o : S3} {mo : S2} {lo : SL} (I : IV o mo) (hP : va_P D vwCl (cLP kc a o ++ cM kc b0 mo lo) H) (hD : va_D (LA s) (cLP kc a o ++ cM kc b0 mo lo)) (hS : va_S (LA s) s.heap H locs) (K : LK p l e s m b below meth c Q D kc a b0 ls) : LW p l e s m b below meth c Q H locs (F0 m 1203 ls []) := by
  have F0 := F
  obtain ⟨hx, hb, hml, hown, hts, hX, hbl, hK, hQ⟩ := F0
  obtain ⟨P0, I⟩ := I
  have hA : ∀ q, s.heap.size ≤ q → LA s q := fun _ h => h
  refine lv_aload_n hx hb dL_law_1203 rfl (lv_at hl 1 rfl) ?_
  refine lx_arg (v := 1) F hl hS dL_law_1204 dL_law_1205 dL_law_1206 (by decide) dL_law_1207 dL_law_1208 h1 ?_
  refine q_cVi (As := [.int (xs (x3 + 1).toNatClampNeg)]) (rest := []) ⟨hx, hb, hml, hown, hts⟩ hK (c_X3_keep l D kc a (xs (x3 + 1).toNatClampNeg) o H.size _ (L_keep (lo := lo) I (xs (x3 + 1).toNatClampNeg))) (cwV 1 hts gL_law_X3_keep rfl rfl rfl (by decide +kernel) ⟨Nat.le_of_ble_eq_true rfl, Nat.le_of_ble_eq_true rfl⟩) (cut_l (cM kc b0 mo lo) (cLP kc a o) (fun u : S3 => cLP kc a u)) hP hD hS hA 3 0 rfl rfl rfl hl.1 rfl (Nat.le_of_ble_eq_true rfl) dL_law_1209 ⟨Nat.le_of_ble_eq_true rfl, Nat.le_of_ble_eq_true rfl⟩ (fun r1 o1 H locs hw hP hD hS => ?_)
  refine lv_aload_n hx hb dL_law_1212 rfl (lv_at hl 2 rfl) ?_
  refine lx_arg (v := 1) F hl hS dL_law_1213 dL_law_1214 dL_law_1215 (by decide) dL_law_1216 dL_law_1217 h1 ?_
  refine q_cVi (As := [.int (xs (x3 + 1).toNatClampNeg)]) (rest := [.int r1]) ⟨hx, hb, hml, hown, hts⟩ hK (c_X4_keep l D kc b0 (xs (x3 + 1).toNatClampNeg) mo lo H.size _ hw) (cwV 1 hts gL_law_X4_keep rfl rfl rfl (by decide +kernel) ⟨Nat.le_of_ble_eq_true rfl, Nat.le_of_ble_eq_true rfl⟩) (cut_r (cLP kc a o1) (cM kc b0 mo lo) (fun u : S2 × SL => cM kc b0 u.1 u.2)) hP hD hS hA 4 0 rfl rfl rfl hl.1 rfl (Nat.le_of_ble_eq_true rfl) dL_law_1218 ⟨Nat.le_of_ble_eq_true rfl, Nat.le_of_ble_eq_true rfl⟩ (fun r2 u2 H locs hw hP hD hS => ?_)
  obtain ⟨er, I2⟩ := hw
  exact lv_icmp_eq (tgt := 1424) hx hb dL_law_1221 (by decide) (fun _ => K o1 u2.1 u2.2 H locs I2 hP hD hS) (fun cn => absurd er cn)
set_option maxHeartbeats 4000000 in
set_option maxRecDepth 100000 in
theorem lc_back (F : LF p s m meth c b L xs D kc ad adV fm) (h1 : vp_in (x3 + 1) L) (h2 : vp_in (x3 + 2) L) (h3 : vp_in (x3 + 3) L) (h4 : vp_in (x3 + 4) L) (hl : lv_has ls 4 [(0, .ref b), (1, .ref (a 0 0)), (2, .ref (b0 0)), (3, .int x3)]) {o : S3} {mo : S2} {lo : SL} (I : IV o mo) (hP : va_P D vwCl (cLP kc a o ++ cM kc b0 mo lo) H) (hD : va_D (LA s) (cLP kc a o ++ cM kc b0 mo lo)) (hS : va_S (LA s) s.heap H locs) (K : LK p l e s m b below meth c Q D kc a b0 ls) : LW p l e s m b below meth c Q H locs (F0 m 1226 ls []) := by
  have F0 := F
  obtain ⟨hx, hb, hml, hown, hts, hX, hbl, hK, hQ⟩ := F0
  obtain ⟨P0, I⟩ := I
  have hA : ∀ q, s.heap.size ≤ q → LA s q := fun _ h => h
  refine lv_aload_n hx hb dL_law_1226 rfl (lv_at hl 1 rfl) ?_
  refine lx_arg (v := 1) F hl hS dL_law_1227 dL_law_1228 dL_law_1229 (by decide) dL_law_1230 dL_law_1231 h1 ?_
  refine q_cVi (As := [.int (xs (x3 + 1).toNatClampNeg)]) (rest := []) ⟨hx, hb, hml, hown, hts⟩ hK (c_X3_back l D kc a (xs (x3 + 1).toNatClampNeg) o H.size _ (L_back (lo := lo) I (xs (x3 + 1).toNatClampNeg))) (cwV 1 hts gL_law_X3_back rfl rfl rfl (by decide +kernel) ⟨Nat.le_of_ble_eq_true rfl, Nat.le_of_ble_eq_true rfl⟩) (cut_l (cM kc b0 mo lo) (cLP kc a o) (fun u : S3 => cLP kc a u)) hP hD hS hA 3 0 rfl rfl rfl hl.1 rfl (Nat.le_of_ble_eq_true rfl) dL_law_1232 ⟨Nat.le_of_ble_eq_true rfl, Nat.le_of_ble_eq_true rfl⟩ (fun r1 o1 H locs hw hP hD hS => ?_)
  refine lv_aload_n hx hb dL_law_1235 rfl (lv_at hl 2 rfl) ?_
  refine lx_arg (v := 1) F hl hS dL_law_1236 dL_law_1237 dL_law_1238 (by decide) dL_law_1239 dL_law_1240 h1 ?_
  refine q_cVi (As := [.int (xs (x3 + 1).toNatClampNeg)]) (rest := [.int r1]) ⟨hx, hb, hml, hown, hts⟩ hK (c_X4_back l D kc b0 (xs (x3 + 1).toNatClampNeg) mo lo H.size _ hw) (cwV 1 hts gL_law_X4_back rfl rfl rfl (by decide +kernel) ⟨Nat.le_of_ble_eq_true rfl, Nat.le_of_ble_eq_true rfl⟩) (cut_r (cLP kc a o1) (cM kc b0 mo lo) (fun u : S2 × SL => cM kc b0 u.1 u.2)) hP hD hS hA 4 0 rfl rfl rfl hl.1 rfl (Nat.le_of_ble_eq_true rfl) dL_law_1241 ⟨Nat.le_of_ble_eq_true rfl, Nat.le_of_ble_eq_true rfl⟩ (fun r2 u2 H locs hw hP hD hS => ?_)
  obtain ⟨er, I2⟩ := hw
  exact lv_icmp_eq (tgt := 1424) hx hb dL_law_1244 (by decide) (fun _ => K o1 u2.1 u2.2 H locs I2 hP hD hS) (fun cn => absurd er cn)
set_option maxHeartbeats 4000000 in
set_option maxRecDepth 100000 in
theorem lc_sheet (F : LF p s m meth c b L xs D kc ad adV fm) (h1 : vp_in (x3 + 1) L) (h2 : vp_in (x3 + 2) L) (h3 : vp_in (x3 + 3) L) (h4 : vp_in (x3 + 4) L) (hl : lv_has ls 4 [(0, .ref b), (1, .ref (a 0 0)), (2, .ref (b0 0)), (3, .int x3)]) {o : S3} {mo : S2} {lo : SL} (I : IV o mo) (hP : va_P D vwCl (cLP kc a o ++ cM kc b0 mo lo) H) (hD : va_D (LA s) (cLP kc a o ++ cM kc b0 mo lo)) (hS : va_S (LA s) s.heap H locs) (K : LK p l e s m b below meth c Q D kc a b0 ls) : LW p l e s m b below meth c Q H locs (F0 m 1249 ls []) := by
  have F0 := F
  obtain ⟨hx, hb, hml, hown, hts, hX, hbl, hK, hQ⟩ := F0
  obtain ⟨P0, I⟩ := I
  have hA : ∀ q, s.heap.size ≤ q → LA s q := fun _ h => h
  refine lv_aload_n hx hb dL_law_1249 rfl (lv_at hl 1 rfl) ?_
  refine lx_arg (v := 1) F hl hS dL_law_1250 dL_law_1251 dL_law_1252 (by decide) dL_law_1253 dL_law_1254 h1 ?_
  refine lx_arg (v := 2) F hl hS dL_law_1255 dL_law_1256 dL_law_1257 (by decide) dL_law_1258 dL_law_1259 h2 ?_
  refine lx_arg (v := 3) F hl hS dL_law_1260 dL_law_1261 dL_law_1262 (by decide) dL_law_1263 dL_law_1264 h3 ?_
  refine q_cVi (As := [.int (xs (x3 + 1).toNatClampNeg), .int (xs (x3 + 2).toNatClampNeg), .int (xs (x3 + 3).toNatClampNeg)]) (rest := []) ⟨hx, hb, hml, hown, hts⟩ hK (c_X3_sheet l D kc a (xs (x3 + 1).toNatClampNeg) (xs (x3 + 2).toNatClampNeg) (xs (x3 + 3).toNatClampNeg) o H.size _ (L_sheet (lo := lo) I (xs (x3 + 1).toNatClampNeg) (xs (x3 + 2).toNatClampNeg) (xs (x3 + 3).toNatClampNeg))) (cwV 3 hts gL_law_X3_sheet rfl rfl rfl (by decide +kernel) ⟨Nat.le_of_ble_eq_true rfl, Nat.le_of_ble_eq_true rfl⟩) (cut_l (cM kc b0 mo lo) (cLP kc a o) (fun u : S3 => cLP kc a u)) hP hD hS hA 3 0 rfl rfl rfl hl.1 rfl (Nat.le_of_ble_eq_true rfl) dL_law_1265 ⟨Nat.le_of_ble_eq_true rfl, Nat.le_of_ble_eq_true rfl⟩ (fun r1 o1 H locs hw hP hD hS => ?_)
  refine lv_aload_n hx hb dL_law_1268 rfl (lv_at hl 2 rfl) ?_
  refine lx_arg (v := 1) F hl hS dL_law_1269 dL_law_1270 dL_law_1271 (by decide) dL_law_1272 dL_law_1273 h1 ?_
  refine lx_arg (v := 2) F hl hS dL_law_1274 dL_law_1275 dL_law_1276 (by decide) dL_law_1277 dL_law_1278 h2 ?_
  refine lx_arg (v := 3) F hl hS dL_law_1279 dL_law_1280 dL_law_1281 (by decide) dL_law_1282 dL_law_1283 h3 ?_
  refine q_cVi (As := [.int (xs (x3 + 1).toNatClampNeg), .int (xs (x3 + 2).toNatClampNeg), .int (xs (x3 + 3).toNatClampNeg)]) (rest := [.int r1]) ⟨hx, hb, hml, hown, hts⟩ hK (c_X4_sheet l D kc b0 (xs (x3 + 1).toNatClampNeg) (xs (x3 + 2).toNatClampNeg) (xs (x3 + 3).toNatClampNeg) mo lo H.size _ hw) (cwV 3 hts gL_law_X4_sheet rfl rfl rfl (by decide +kernel) ⟨Nat.le_of_ble_eq_true rfl, Nat.le_of_ble_eq_true rfl⟩) (cut_r (cLP kc a o1) (cM kc b0 mo lo) (fun u : S2 × SL => cM kc b0 u.1 u.2)) hP hD hS hA 4 0 rfl rfl rfl hl.1 rfl (Nat.le_of_ble_eq_true rfl) dL_law_1284 ⟨Nat.le_of_ble_eq_true rfl, Nat.le_of_ble_eq_true rfl⟩ (fun r2 u2 H locs hw hP hD hS => ?_)
  obtain ⟨er, I2⟩ := hw
  exact lv_icmp_eq (tgt := 1424) hx hb dL_law_1287 (by decide) (fun _ => K o1 u2.1 u2.2 H locs I2 hP hD hS) (fun cn => absurd er cn)
set_option maxHeartbeats 4000000 in
set_option maxRecDepth 100000 in
theorem lc_lay (F : LF p s m meth c b L xs D kc ad adV fm) (h1 : vp_in (x3 + 1) L) (h2 : vp_in (x3 + 2) L) (h3 : vp_in (x3 + 3) L) (h4 : vp_in (x3 + 4) L) (hl : lv_has ls 4 [(0, .ref b), (1, .ref (a 0 0)), (2, .ref (b0 0)), (3, .int x3)]) {o : S3} {mo : S2} {lo : SL} (I : IV o mo) (hP : va_P D vwCl (cLP kc a o ++ cM kc b0 mo lo) H) (hD : va_D (LA s) (cLP kc a o ++ cM kc b0 mo lo)) (hS : va_S (LA s) s.heap H locs) (K : LK p l e s m b below meth c Q D kc a b0 ls) : LW p l e s m b below meth c Q H locs (F0 m 1292 ls []) := by
  have F0 := F
  obtain ⟨hx, hb, hml, hown, hts, hX, hbl, hK, hQ⟩ := F0
  obtain ⟨P0, I⟩ := I
  have hA : ∀ q, s.heap.size ≤ q → LA s q := fun _ h => h
  refine lv_aload_n hx hb dL_law_1292 rfl (lv_at hl 1 rfl) ?_
  refine lx_arg (v := 1) F hl hS dL_law_1293 dL_law_1294 dL_law_1295 (by decide) dL_law_1296 dL_law_1297 h1 ?_
  refine lx_arg (v := 2) F hl hS dL_law_1298 dL_law_1299 dL_law_1300 (by decide) dL_law_1301 dL_law_1302 h2 ?_
  refine lx_arg (v := 3) F hl hS dL_law_1303 dL_law_1304 dL_law_1305 (by decide) dL_law_1306 dL_law_1307 h3 ?_
  refine q_cVi (As := [.int (xs (x3 + 1).toNatClampNeg), .int (xs (x3 + 2).toNatClampNeg), .int (xs (x3 + 3).toNatClampNeg)]) (rest := []) ⟨hx, hb, hml, hown, hts⟩ hK (c_X3_lay l D kc a (xs (x3 + 1).toNatClampNeg) (xs (x3 + 2).toNatClampNeg) (xs (x3 + 3).toNatClampNeg) o H.size _ (L_lay (lo := lo) I (xs (x3 + 1).toNatClampNeg) (xs (x3 + 2).toNatClampNeg) (xs (x3 + 3).toNatClampNeg))) (cwV 3 hts gL_law_X3_lay rfl rfl rfl (by decide +kernel) ⟨Nat.le_of_ble_eq_true rfl, Nat.le_of_ble_eq_true rfl⟩) (cut_l (cM kc b0 mo lo) (cLP kc a o) (fun u : S3 => cLP kc a u)) hP hD hS hA 3 0 rfl rfl rfl hl.1 rfl (Nat.le_of_ble_eq_true rfl) dL_law_1308 ⟨Nat.le_of_ble_eq_true rfl, Nat.le_of_ble_eq_true rfl⟩ (fun r1 o1 H locs hw hP hD hS => ?_)
  refine lv_aload_n hx hb dL_law_1311 rfl (lv_at hl 2 rfl) ?_
  refine lx_arg (v := 1) F hl hS dL_law_1312 dL_law_1313 dL_law_1314 (by decide) dL_law_1315 dL_law_1316 h1 ?_
  refine lx_arg (v := 2) F hl hS dL_law_1317 dL_law_1318 dL_law_1319 (by decide) dL_law_1320 dL_law_1321 h2 ?_
  refine lx_arg (v := 3) F hl hS dL_law_1322 dL_law_1323 dL_law_1324 (by decide) dL_law_1325 dL_law_1326 h3 ?_
  refine q_cVi (As := [.int (xs (x3 + 1).toNatClampNeg), .int (xs (x3 + 2).toNatClampNeg), .int (xs (x3 + 3).toNatClampNeg)]) (rest := [.int r1]) ⟨hx, hb, hml, hown, hts⟩ hK (c_X4_lay l D kc b0 (xs (x3 + 1).toNatClampNeg) (xs (x3 + 2).toNatClampNeg) (xs (x3 + 3).toNatClampNeg) mo lo H.size _ hw) (cwV 3 hts gL_law_X4_lay rfl rfl rfl (by decide +kernel) ⟨Nat.le_of_ble_eq_true rfl, Nat.le_of_ble_eq_true rfl⟩) (cut_r (cLP kc a o1) (cM kc b0 mo lo) (fun u : S2 × SL => cM kc b0 u.1 u.2)) hP hD hS hA 4 0 rfl rfl rfl hl.1 rfl (Nat.le_of_ble_eq_true rfl) dL_law_1327 ⟨Nat.le_of_ble_eq_true rfl, Nat.le_of_ble_eq_true rfl⟩ (fun r2 u2 H locs hw hP hD hS => ?_)
  obtain ⟨er, I2⟩ := hw
  exact lv_icmp_eq (tgt := 1424) hx hb dL_law_1330 (by decide) (fun _ => K o1 u2.1 u2.2 H locs I2 hP hD hS) (fun cn => absurd er cn)
set_option maxHeartbeats 4000000 in
set_option maxRecDepth 100000 in
theorem lc_read (F : LF p s m meth c b L xs D kc ad adV fm) (h1 : vp_in (x3 + 1) L) (h2 : vp_in (x3 + 2) L) (h3 : vp_in (x3 + 3) L) (h4 : vp_in (x3 + 4) L) (hl : lv_has ls 4 [(0, .ref b), (1, .ref (a 0 0)), (2, .ref (b0 0)), (3, .int x3)]) {o : S3} {mo : S2} {lo : SL} (I : IV o mo) (hP : va_P D vwCl (cLP kc a o ++ cM kc b0 mo lo) H) (hD : va_D (LA s) (cLP kc a o ++ cM kc b0 mo lo)) (hS : va_S (LA s) s.heap H locs) (K : LK p l e s m b below meth c Q D kc a b0 ls) : LW p l e s m b below meth c Q H locs (F0 m 1335 ls []) := by
  have F0 := F
  obtain ⟨hx, hb, hml, hown, hts, hX, hbl, hK, hQ⟩ := F0
  obtain ⟨P0, I⟩ := I
  have hA : ∀ q, s.heap.size ≤ q → LA s q := fun _ h => h
  refine lv_aload_n hx hb dL_law_1335 rfl (lv_at hl 1 rfl) ?_
  refine lx_arg (v := 1) F hl hS dL_law_1336 dL_law_1337 dL_law_1338 (by decide) dL_law_1339 dL_law_1340 h1 ?_
  refine lx_arg (v := 2) F hl hS dL_law_1341 dL_law_1342 dL_law_1343 (by decide) dL_law_1344 dL_law_1345 h2 ?_
  refine lx_arg (v := 3) F hl hS dL_law_1346 dL_law_1347 dL_law_1348 (by decide) dL_law_1349 dL_law_1350 h3 ?_
  refine lx_arg (v := 4) F hl hS dL_law_1351 dL_law_1352 dL_law_1353 (by decide) dL_law_1354 dL_law_1355 h4 ?_
  refine q_cVi (As := [.int (xs (x3 + 1).toNatClampNeg), .int (xs (x3 + 2).toNatClampNeg), .int (xs (x3 + 3).toNatClampNeg), .int (xs (x3 + 4).toNatClampNeg)]) (rest := []) ⟨hx, hb, hml, hown, hts⟩ hK (c_X3_read l D kc a (xs (x3 + 1).toNatClampNeg) (xs (x3 + 2).toNatClampNeg) (xs (x3 + 3).toNatClampNeg) (xs (x3 + 4).toNatClampNeg) o H.size _ (L_read (lo := lo) I (xs (x3 + 1).toNatClampNeg) (xs (x3 + 2).toNatClampNeg) (xs (x3 + 3).toNatClampNeg) (xs (x3 + 4).toNatClampNeg))) (cwV 4 hts gL_law_X3_read rfl rfl rfl (by decide +kernel) ⟨Nat.le_of_ble_eq_true rfl, Nat.le_of_ble_eq_true rfl⟩) (cut_l (cM kc b0 mo lo) (cLP kc a o) (fun u : S3 => cLP kc a u)) hP hD hS hA 3 0 rfl rfl rfl hl.1 rfl (Nat.le_of_ble_eq_true rfl) dL_law_1356 ⟨Nat.le_of_ble_eq_true rfl, Nat.le_of_ble_eq_true rfl⟩ (fun r1 o1 H locs hw hP hD hS => ?_)
  refine lv_aload_n hx hb dL_law_1359 rfl (lv_at hl 2 rfl) ?_
  refine lx_arg (v := 1) F hl hS dL_law_1360 dL_law_1361 dL_law_1362 (by decide) dL_law_1363 dL_law_1364 h1 ?_
  refine lx_arg (v := 2) F hl hS dL_law_1365 dL_law_1366 dL_law_1367 (by decide) dL_law_1368 dL_law_1369 h2 ?_
  refine lx_arg (v := 3) F hl hS dL_law_1370 dL_law_1371 dL_law_1372 (by decide) dL_law_1373 dL_law_1374 h3 ?_
  refine lx_arg (v := 4) F hl hS dL_law_1375 dL_law_1376 dL_law_1377 (by decide) dL_law_1378 dL_law_1379 h4 ?_
  refine q_cVi (As := [.int (xs (x3 + 1).toNatClampNeg), .int (xs (x3 + 2).toNatClampNeg), .int (xs (x3 + 3).toNatClampNeg), .int (xs (x3 + 4).toNatClampNeg)]) (rest := [.int r1]) ⟨hx, hb, hml, hown, hts⟩ hK (c_X4_read l D kc b0 (xs (x3 + 1).toNatClampNeg) (xs (x3 + 2).toNatClampNeg) (xs (x3 + 3).toNatClampNeg) (xs (x3 + 4).toNatClampNeg) mo lo H.size _ hw) (cwV 4 hts gL_law_X4_read rfl rfl rfl (by decide +kernel) ⟨Nat.le_of_ble_eq_true rfl, Nat.le_of_ble_eq_true rfl⟩) (cut_r (cLP kc a o1) (cM kc b0 mo lo) (fun u : S2 × SL => cM kc b0 u.1 u.2)) hP hD hS hA 4 0 rfl rfl rfl hl.1 rfl (Nat.le_of_ble_eq_true rfl) dL_law_1380 ⟨Nat.le_of_ble_eq_true rfl, Nat.le_of_ble_eq_true rfl⟩ (fun r2 u2 H locs hw hP hD hS => ?_)
  obtain ⟨er, I2⟩ := hw
  exact lv_icmp_eq (tgt := 1424) hx hb dL_law_1383 (by decide) (fun _ => K o1 u2.1 u2.2 H locs I2 hP hD hS) (fun cn => absurd er cn)
set_option maxHeartbeats 4000000 in
set_option maxRecDepth 100000 in
theorem lc_torn (F : LF p s m meth c b L xs D kc ad adV fm) (h1 : vp_in (x3 + 1) L) (h2 : vp_in (x3 + 2) L) (h3 : vp_in (x3 + 3) L) (h4 : vp_in (x3 + 4) L) (hl : lv_has ls 4 [(0, .ref b), (1, .ref (a 0 0)), (2, .ref (b0 0)), (3, .int x3)]) {o : S3} {mo : S2} {lo : SL} (I : IV o mo) (hP : va_P D vwCl (cLP kc a o ++ cM kc b0 mo lo) H) (hD : va_D (LA s) (cLP kc a o ++ cM kc b0 mo lo)) (hS : va_S (LA s) s.heap H locs) (K : LK p l e s m b below meth c Q D kc a b0 ls) : LW p l e s m b below meth c Q H locs (F0 m 1388 ls []) := by
  have F0 := F
  obtain ⟨hx, hb, hml, hown, hts, hX, hbl, hK, hQ⟩ := F0
  obtain ⟨P0, I⟩ := I
  have hA : ∀ q, s.heap.size ≤ q → LA s q := fun _ h => h
  refine lv_aload_n hx hb dL_law_1388 rfl (lv_at hl 1 rfl) ?_
  refine q_cVi (As := []) (rest := []) ⟨hx, hb, hml, hown, hts⟩ hK (c_X3_torn l D kc a o H.size _ (L_torn (lo := lo) I)) (cwV 0 hts gL_law_X3_torn rfl rfl rfl (by decide +kernel) ⟨Nat.le_of_ble_eq_true rfl, Nat.le_of_ble_eq_true rfl⟩) (cut_l (cM kc b0 mo lo) (cLP kc a o) (fun u : S3 => cLP kc a u)) hP hD hS hA 3 0 rfl rfl rfl hl.1 rfl (Nat.le_of_ble_eq_true rfl) dL_law_1389 ⟨Nat.le_of_ble_eq_true rfl, Nat.le_of_ble_eq_true rfl⟩ (fun r1 o1 H locs hw hP hD hS => ?_)
  refine lv_aload_n hx hb dL_law_1392 rfl (lv_at hl 2 rfl) ?_
  refine q_cVi (As := []) (rest := [.int r1]) ⟨hx, hb, hml, hown, hts⟩ hK (c_X4_torn l D kc b0 mo lo H.size _ hw) (cwV 0 hts gL_law_X4_torn rfl rfl rfl (by decide +kernel) ⟨Nat.le_of_ble_eq_true rfl, Nat.le_of_ble_eq_true rfl⟩) (cut_r (cLP kc a o1) (cM kc b0 mo lo) (fun u : S2 × SL => cM kc b0 u.1 u.2)) hP hD hS hA 4 0 rfl rfl rfl hl.1 rfl (Nat.le_of_ble_eq_true rfl) dL_law_1393 ⟨Nat.le_of_ble_eq_true rfl, Nat.le_of_ble_eq_true rfl⟩ (fun r2 u2 H locs hw hP hD hS => ?_)
  obtain ⟨er, I2⟩ := hw
  exact lv_icmp_eq (tgt := 1424) hx hb dL_law_1396 (by decide) (fun _ => K o1 u2.1 u2.2 H locs I2 hP hD hS) (fun cn => absurd er cn)
set_option maxHeartbeats 4000000 in
set_option maxRecDepth 100000 in
theorem lc_count (F : LF p s m meth c b L xs D kc ad adV fm) (h1 : vp_in (x3 + 1) L) (h2 : vp_in (x3 + 2) L) (h3 : vp_in (x3 + 3) L) (h4 : vp_in (x3 + 4) L) (hl : lv_has ls 4 [(0, .ref b), (1, .ref (a 0 0)), (2, .ref (b0 0)), (3, .int x3)]) {o : S3} {mo : S2} {lo : SL} (I : IV o mo) (hP : va_P D vwCl (cLP kc a o ++ cM kc b0 mo lo) H) (hD : va_D (LA s) (cLP kc a o ++ cM kc b0 mo lo)) (hS : va_S (LA s) s.heap H locs) (K : LK p l e s m b below meth c Q D kc a b0 ls) : LW p l e s m b below meth c Q H locs (F0 m 1401 ls []) := by
  have F0 := F
  obtain ⟨hx, hb, hml, hown, hts, hX, hbl, hK, hQ⟩ := F0
  obtain ⟨P0, I⟩ := I
  have hA : ∀ q, s.heap.size ≤ q → LA s q := fun _ h => h
  refine lv_aload_n hx hb dL_law_1401 rfl (lv_at hl 1 rfl) ?_
  refine lx_arg (v := 1) F hl hS dL_law_1402 dL_law_1403 dL_law_1404 (by decide) dL_law_1405 dL_law_1406 h1 ?_
  refine q_cVi (As := [.int (xs (x3 + 1).toNatClampNeg)]) (rest := []) ⟨hx, hb, hml, hown, hts⟩ hK (c_X3_count l D kc a (xs (x3 + 1).toNatClampNeg) o H.size _ (L_count (lo := lo) I (xs (x3 + 1).toNatClampNeg))) (cwV 1 hts gL_law_X3_count rfl rfl rfl (by decide +kernel) ⟨Nat.le_of_ble_eq_true rfl, Nat.le_of_ble_eq_true rfl⟩) (cut_l (cM kc b0 mo lo) (cLP kc a o) (fun u : S3 => cLP kc a u)) hP hD hS hA 3 0 rfl rfl rfl hl.1 rfl (Nat.le_of_ble_eq_true rfl) dL_law_1407 ⟨Nat.le_of_ble_eq_true rfl, Nat.le_of_ble_eq_true rfl⟩ (fun r1 o1 H locs hw hP hD hS => ?_)
  refine lv_aload_n hx hb dL_law_1410 rfl (lv_at hl 2 rfl) ?_
  refine lx_arg (v := 1) F hl hS dL_law_1411 dL_law_1412 dL_law_1413 (by decide) dL_law_1414 dL_law_1415 h1 ?_
  refine q_cVi (As := [.int (xs (x3 + 1).toNatClampNeg)]) (rest := [.int r1]) ⟨hx, hb, hml, hown, hts⟩ hK (c_X4_count l D kc b0 (xs (x3 + 1).toNatClampNeg) mo lo H.size _ hw) (cwV 1 hts gL_law_X4_count rfl rfl rfl (by decide +kernel) ⟨Nat.le_of_ble_eq_true rfl, Nat.le_of_ble_eq_true rfl⟩) (cut_r (cLP kc a o1) (cM kc b0 mo lo) (fun u : S2 × SL => cM kc b0 u.1 u.2)) hP hD hS hA 4 0 rfl rfl rfl hl.1 rfl (Nat.le_of_ble_eq_true rfl) dL_law_1416 ⟨Nat.le_of_ble_eq_true rfl, Nat.le_of_ble_eq_true rfl⟩ (fun r2 u2 H locs hw hP hD hS => ?_)
  obtain ⟨er, I2⟩ := hw
  exact lv_icmp_eq (tgt := 1424) hx hb dL_law_1419 (by decide) (fun _ => K o1 u2.1 u2.2 H locs I2 hP hD hS) (fun cn => absurd er cn)
end LAW
