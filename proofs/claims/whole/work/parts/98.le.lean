/-! THE LAW: the calls of its loop -/
/-- class and reference are alike, and what stands behind a call goes on -/
abbrev LK (p : Program) (l : Launch) (e : Env) (s : State) (m : MethodId) (b : Nat) (below : List Frame) (meth : Method) (c : Code) (Q : State → Prop) (D : va_G) (kc : Nat → ClassId) (a : Nat → Nat → Nat) (b0 : Nat → Nat) (ls : Array Slot) : Prop := LKJ p l e s m b below meth c Q D kc a b0 IV ls
section LAW
variable {p : Program} {l : Launch} {e : Env} {s : State} {m : MethodId} {below : List Frame} {meth : Method} {c : Code} {b L : Nat} {xs : Nat → Int32} {D : va_G} {kc : Nat → ClassId} {ad adV : Nat → Nat} {fm : Value} {a : Nat → Nat → Nat} {b0 : Nat → Nat} {Q : State → Prop} {H : Heap} {locs : List Loc} {ls : Array Slot} {rest : List Value} {lv : List (Nat × Value)} {x3 : Int32}
set_option maxHeartbeats 4000000 in
set_option maxRecDepth 100000 in
theorem lc_feed (F : LF p s m meth c b L xs D kc ad adV fm) (h1 : vp_in (x3 + 1) L) (h2 : vp_in (x3 + 2) L) (h3 : vp_in (x3 + 3) L) (h4 : vp_in (x3 + 4) L) (hl : lv_has ls 4 [(0, .ref b), (1, .ref (a 0 0)), (2, .ref (b0 0)), (3, .int x3)]) {o : S3} {mo : S2} {lo : SL} (I : IV o mo) (hP : va_P D vwCl (cLP kc a o ++ cM kc b0 mo lo) H) (hD : va_D (LA s) (cLP kc a o ++ cM kc b0 mo lo)) (hS : va_S (LA s) s.heap H locs) (K : LK p l e s m b below meth c Q D kc a b0 ls) : LW p l e s m b below meth c Q H locs (F0 m 204 ls []) := by
  have F0 := F
  obtain ⟨hx, hb, hml, hown, hts, hX, hbl, hK, hQ⟩ := F0
  obtain ⟨P0, I⟩ := I
  have hA : ∀ q, s.heap.size ≤ q → LA s q := fun _ h => h
  refine lv_aload_n hx hb dL_law_204 rfl (lv_at hl 1 rfl) ?_
  refine lx_arg (v := 1) F hl hS dL_law_205 dL_law_206 dL_law_207 (by decide) dL_law_208 dL_law_209 h1 ?_
  refine q_cVi (As := [.int (xs (x3 + 1).toNatClampNeg)]) (rest := []) ⟨hx, hb, hml, hown, hts⟩ hK (c_X3_feed l D kc a (xs (x3 + 1).toNatClampNeg) o H.size _ (L_feed (lo := lo) I (xs (x3 + 1).toNatClampNeg))) (cwV 1 hts gL_law_X3_feed rfl rfl rfl (by decide +kernel) ⟨Nat.le_of_ble_eq_true rfl, Nat.le_of_ble_eq_true rfl⟩) (cut_l (cM kc b0 mo lo) (cLP kc a o) (fun u : S3 => cLP kc a u)) hP hD hS hA 3 0 rfl rfl rfl hl.1 rfl (Nat.le_of_ble_eq_true rfl) dL_law_210 ⟨Nat.le_of_ble_eq_true rfl, Nat.le_of_ble_eq_true rfl⟩ (fun r1 o1 H locs hw hP hD hS => ?_)
  refine lv_aload_n hx hb dL_law_213 rfl (lv_at hl 2 rfl) ?_
  refine lx_arg (v := 1) F hl hS dL_law_214 dL_law_215 dL_law_216 (by decide) dL_law_217 dL_law_218 h1 ?_
  refine q_cVi (As := [.int (xs (x3 + 1).toNatClampNeg)]) (rest := [.int r1]) ⟨hx, hb, hml, hown, hts⟩ hK (c_X4_feed l D kc b0 (xs (x3 + 1).toNatClampNeg) mo lo H.size _ hw) (cwV 1 hts gL_law_X4_feed rfl rfl rfl (by decide +kernel) ⟨Nat.le_of_ble_eq_true rfl, Nat.le_of_ble_eq_true rfl⟩) (cut_r (cLP kc a o1) (cM kc b0 mo lo) (fun u : S2 × SL => cM kc b0 u.1 u.2)) hP hD hS hA 4 0 rfl rfl rfl hl.1 rfl (Nat.le_of_ble_eq_true rfl) dL_law_219 ⟨Nat.le_of_ble_eq_true rfl, Nat.le_of_ble_eq_true rfl⟩ (fun r2 u2 H locs hw hP hD hS => ?_)
  obtain ⟨er, I2⟩ := hw
  exact lv_icmp_eq (tgt := 1424) hx hb dL_law_222 (by decide) (fun _ => K o1 u2.1 u2.2 H locs I2 hP hD hS) (fun cn => absurd er cn)
set_option maxHeartbeats 4000000 in
set_option maxRecDepth 100000 in
theorem lc_end (F : LF p s m meth c b L xs D kc ad adV fm) (h1 : vp_in (x3 + 1) L) (h2 : vp_in (x3 + 2) L) (h3 : vp_in (x3 + 3) L) (h4 : vp_in (x3 + 4) L) (hl : lv_has ls 4 [(0, .ref b), (1, .ref (a 0 0)), (2, .ref (b0 0)), (3, .int x3)]) {o : S3} {mo : S2} {lo : SL} (I : IV o mo) (hP : va_P D vwCl (cLP kc a o ++ cM kc b0 mo lo) H) (hD : va_D (LA s) (cLP kc a o ++ cM kc b0 mo lo)) (hS : va_S (LA s) s.heap H locs) (K : LK p l e s m b below meth c Q D kc a b0 ls) : LW p l e s m b below meth c Q H locs (F0 m 227 ls []) := by
  have F0 := F
  obtain ⟨hx, hb, hml, hown, hts, hX, hbl, hK, hQ⟩ := F0
  obtain ⟨P0, I⟩ := I
  have hA : ∀ q, s.heap.size ≤ q → LA s q := fun _ h => h
  refine lv_aload_n hx hb dL_law_227 rfl (lv_at hl 1 rfl) ?_
  refine lx_arg (v := 1) F hl hS dL_law_228 dL_law_229 dL_law_230 (by decide) dL_law_231 dL_law_232 h1 ?_
  refine q_cVi (As := [.int (xs (x3 + 1).toNatClampNeg)]) (rest := []) ⟨hx, hb, hml, hown, hts⟩ hK (c_X3_end l D kc a (xs (x3 + 1).toNatClampNeg) o H.size _ (L_end (lo := lo) I (xs (x3 + 1).toNatClampNeg))) (cwV 1 hts gL_law_X3_end rfl rfl rfl (by decide +kernel) ⟨Nat.le_of_ble_eq_true rfl, Nat.le_of_ble_eq_true rfl⟩) (cut_l (cM kc b0 mo lo) (cLP kc a o) (fun u : S3 => cLP kc a u)) hP hD hS hA 3 0 rfl rfl rfl hl.1 rfl (Nat.le_of_ble_eq_true rfl) dL_law_233 ⟨Nat.le_of_ble_eq_true rfl, Nat.le_of_ble_eq_true rfl⟩ (fun r1 o1 H locs hw hP hD hS => ?_)
  refine lv_aload_n hx hb dL_law_236 rfl (lv_at hl 2 rfl) ?_
  refine lx_arg (v := 1) F hl hS dL_law_237 dL_law_238 dL_law_239 (by decide) dL_law_240 dL_law_241 h1 ?_
  refine q_cVi (As := [.int (xs (x3 + 1).toNatClampNeg)]) (rest := [.int r1]) ⟨hx, hb, hml, hown, hts⟩ hK (c_X4_end l D kc b0 (xs (x3 + 1).toNatClampNeg) mo lo H.size _ hw) (cwV 1 hts gL_law_X4_end rfl rfl rfl (by decide +kernel) ⟨Nat.le_of_ble_eq_true rfl, Nat.le_of_ble_eq_true rfl⟩) (cut_r (cLP kc a o1) (cM kc b0 mo lo) (fun u : S2 × SL => cM kc b0 u.1 u.2)) hP hD hS hA 4 0 rfl rfl rfl hl.1 rfl (Nat.le_of_ble_eq_true rfl) dL_law_242 ⟨Nat.le_of_ble_eq_true rfl, Nat.le_of_ble_eq_true rfl⟩ (fun r2 u2 H locs hw hP hD hS => ?_)
  obtain ⟨er, I2⟩ := hw
  exact lv_icmp_eq (tgt := 1424) hx hb dL_law_245 (by decide) (fun _ => K o1 u2.1 u2.2 H locs I2 hP hD hS) (fun cn => absurd er cn)
set_option maxHeartbeats 4000000 in
set_option maxRecDepth 100000 in
theorem lc_text (F : LF p s m meth c b L xs D kc ad adV fm) (h1 : vp_in (x3 + 1) L) (h2 : vp_in (x3 + 2) L) (h3 : vp_in (x3 + 3) L) (h4 : vp_in (x3 + 4) L) (hl : lv_has ls 4 [(0, .ref b), (1, .ref (a 0 0)), (2, .ref (b0 0)), (3, .int x3)]) {o : S3} {mo : S2} {lo : SL} (I : IV o mo) (hP : va_P D vwCl (cLP kc a o ++ cM kc b0 mo lo) H) (hD : va_D (LA s) (cLP kc a o ++ cM kc b0 mo lo)) (hS : va_S (LA s) s.heap H locs) (K : LK p l e s m b below meth c Q D kc a b0 ls) : LW p l e s m b below meth c Q H locs (F0 m 250 ls []) := by
  have F0 := F
  obtain ⟨hx, hb, hml, hown, hts, hX, hbl, hK, hQ⟩ := F0
  obtain ⟨P0, I⟩ := I
  have hA : ∀ q, s.heap.size ≤ q → LA s q := fun _ h => h
  refine lv_aload_n hx hb dL_law_250 rfl (lv_at hl 1 rfl) ?_
  refine q_cViS (As := []) (rest := []) ⟨hx, hb, hml, hown, hts⟩ hK hQ (c_X3_text l D kc ad adV fm a o H.size _ (L_text (lo := lo) I)) (cwV 0 hts gL_law_X3_text rfl rfl rfl (by decide +kernel) ⟨Nat.le_of_ble_eq_true rfl, Nat.le_of_ble_eq_true rfl⟩) (cut_l (cM kc b0 mo lo) (cLP kc a o) (fun u : S3 => cLP kc a u)) hP hD hS hA 3 0 rfl rfl rfl hl.1 rfl (Nat.le_of_ble_eq_true rfl) dL_law_251 ⟨Nat.le_of_ble_eq_true rfl, Nat.le_of_ble_eq_true rfl⟩ (fun r1 o1 H locs hw hP hD hS => ?_)
  refine lv_aload_n hx hb dL_law_254 rfl (lv_at hl 2 rfl) ?_
  refine q_cVi (As := []) (rest := [.int r1]) ⟨hx, hb, hml, hown, hts⟩ hK (c_X4_text l D kc b0 mo lo H.size _ hw) (cwV 0 hts gL_law_X4_text rfl rfl rfl (by decide +kernel) ⟨Nat.le_of_ble_eq_true rfl, Nat.le_of_ble_eq_true rfl⟩) (cut_r (cLP kc a o1) (cM kc b0 mo lo) (fun u : S2 × SL => cM kc b0 u.1 u.2)) hP hD hS hA 4 0 rfl rfl rfl hl.1 rfl (Nat.le_of_ble_eq_true rfl) dL_law_255 ⟨Nat.le_of_ble_eq_true rfl, Nat.le_of_ble_eq_true rfl⟩ (fun r2 u2 H locs hw hP hD hS => ?_)
  obtain ⟨er, I2⟩ := hw
  exact lv_icmp_eq (tgt := 1424) hx hb dL_law_258 (by decide) (fun _ => K o1 u2.1 u2.2 H locs I2 hP hD hS) (fun cn => absurd er cn)
set_option maxHeartbeats 4000000 in
set_option maxRecDepth 100000 in
theorem lc_fault (F : LF p s m meth c b L xs D kc ad adV fm) (h1 : vp_in (x3 + 1) L) (h2 : vp_in (x3 + 2) L) (h3 : vp_in (x3 + 3) L) (h4 : vp_in (x3 + 4) L) (hl : lv_has ls 4 [(0, .ref b), (1, .ref (a 0 0)), (2, .ref (b0 0)), (3, .int x3)]) {o : S3} {mo : S2} {lo : SL} (I : IV o mo) (hP : va_P D vwCl (cLP kc a o ++ cM kc b0 mo lo) H) (hD : va_D (LA s) (cLP kc a o ++ cM kc b0 mo lo)) (hS : va_S (LA s) s.heap H locs) (K : LK p l e s m b below meth c Q D kc a b0 ls) : LW p l e s m b below meth c Q H locs (F0 m 263 ls []) := by
  have F0 := F
  obtain ⟨hx, hb, hml, hown, hts, hX, hbl, hK, hQ⟩ := F0
  obtain ⟨P0, I⟩ := I
  have hA : ∀ q, s.heap.size ≤ q → LA s q := fun _ h => h
  refine lv_aload_n hx hb dL_law_263 rfl (lv_at hl 1 rfl) ?_
  refine q_cVi (As := []) (rest := []) ⟨hx, hb, hml, hown, hts⟩ hK (c_X3_fault l D kc a o H.size _ (L_fault (lo := lo) I)) (cwV 0 hts gL_law_X3_fault rfl rfl rfl (by decide +kernel) ⟨Nat.le_of_ble_eq_true rfl, Nat.le_of_ble_eq_true rfl⟩) (cut_l (cM kc b0 mo lo) (cLP kc a o) (fun u : S3 => cLP kc a u)) hP hD hS hA 3 0 rfl rfl rfl hl.1 rfl (Nat.le_of_ble_eq_true rfl) dL_law_264 ⟨Nat.le_of_ble_eq_true rfl, Nat.le_of_ble_eq_true rfl⟩ (fun r1 o1 H locs hw hP hD hS => ?_)
  refine lv_aload_n hx hb dL_law_267 rfl (lv_at hl 2 rfl) ?_
  refine q_cVi (As := []) (rest := [.int r1]) ⟨hx, hb, hml, hown, hts⟩ hK (c_X4_fault l D kc b0 mo lo H.size _ hw) (cwV 0 hts gL_law_X4_fault rfl rfl rfl (by decide +kernel) ⟨Nat.le_of_ble_eq_true rfl, Nat.le_of_ble_eq_true rfl⟩) (cut_r (cLP kc a o1) (cM kc b0 mo lo) (fun u : S2 × SL => cM kc b0 u.1 u.2)) hP hD hS hA 4 0 rfl rfl rfl hl.1 rfl (Nat.le_of_ble_eq_true rfl) dL_law_268 ⟨Nat.le_of_ble_eq_true rfl, Nat.le_of_ble_eq_true rfl⟩ (fun r2 u2 H locs hw hP hD hS => ?_)
  obtain ⟨er, I2⟩ := hw
  exact lv_icmp_eq (tgt := 1424) hx hb dL_law_271 (by decide) (fun _ => K o1 u2.1 u2.2 H locs I2 hP hD hS) (fun cn => absurd er cn)
set_option maxHeartbeats 4000000 in
set_option maxRecDepth 100000 in
theorem lc_rule (F : LF p s m meth c b L xs D kc ad adV fm) (h1 : vp_in (x3 + 1) L) (h2 : vp_in (x3 + 2) L) (h3 : vp_in (x3 + 3) L) (h4 : vp_in (x3 + 4) L) (hl : lv_has ls 4 [(0, .ref b), (1, .ref (a 0 0)), (2, .ref (b0 0)), (3, .int x3)]) {o : S3} {mo : S2} {lo : SL} (I : IV o mo) (hP : va_P D vwCl (cLP kc a o ++ cM kc b0 mo lo) H) (hD : va_D (LA s) (cLP kc a o ++ cM kc b0 mo lo)) (hS : va_S (LA s) s.heap H locs) (K : LK p l e s m b below meth c Q D kc a b0 ls) : LW p l e s m b below meth c Q H locs (F0 m 276 ls []) := by
  have F0 := F
  obtain ⟨hx, hb, hml, hown, hts, hX, hbl, hK, hQ⟩ := F0
  obtain ⟨P0, I⟩ := I
  have hA : ∀ q, s.heap.size ≤ q → LA s q := fun _ h => h
  refine lv_aload_n hx hb dL_law_276 rfl (lv_at hl 1 rfl) ?_
  refine lx_arg (v := 1) F hl hS dL_law_277 dL_law_278 dL_law_279 (by decide) dL_law_280 dL_law_281 h1 ?_
  refine q_cVi (As := [.int (xs (x3 + 1).toNatClampNeg)]) (rest := []) ⟨hx, hb, hml, hown, hts⟩ hK (c_X3_rule l D kc a (xs (x3 + 1).toNatClampNeg) o H.size _ (L_rule (lo := lo) I (xs (x3 + 1).toNatClampNeg))) (cwV 1 hts gL_law_X3_rule rfl rfl rfl (by decide +kernel) ⟨Nat.le_of_ble_eq_true rfl, Nat.le_of_ble_eq_true rfl⟩) (cut_l (cM kc b0 mo lo) (cLP kc a o) (fun u : S3 => cLP kc a u)) hP hD hS hA 3 0 rfl rfl rfl hl.1 rfl (Nat.le_of_ble_eq_true rfl) dL_law_282 ⟨Nat.le_of_ble_eq_true rfl, Nat.le_of_ble_eq_true rfl⟩ (fun r1 o1 H locs hw hP hD hS => ?_)
  refine lv_aload_n hx hb dL_law_285 rfl (lv_at hl 2 rfl) ?_
  refine lx_arg (v := 1) F hl hS dL_law_286 dL_law_287 dL_law_288 (by decide) dL_law_289 dL_law_290 h1 ?_
  refine q_cVi (As := [.int (xs (x3 + 1).toNatClampNeg)]) (rest := [.int r1]) ⟨hx, hb, hml, hown, hts⟩ hK (c_X4_rule l D kc b0 (xs (x3 + 1).toNatClampNeg) mo lo H.size _ hw) (cwV 1 hts gL_law_X4_rule rfl rfl rfl (by decide +kernel) ⟨Nat.le_of_ble_eq_true rfl, Nat.le_of_ble_eq_true rfl⟩) (cut_r (cLP kc a o1) (cM kc b0 mo lo) (fun u : S2 × SL => cM kc b0 u.1 u.2)) hP hD hS hA 4 0 rfl rfl rfl hl.1 rfl (Nat.le_of_ble_eq_true rfl) dL_law_291 ⟨Nat.le_of_ble_eq_true rfl, Nat.le_of_ble_eq_true rfl⟩ (fun r2 u2 H locs hw hP hD hS => ?_)
  obtain ⟨er, I2⟩ := hw
  exact lv_icmp_eq (tgt := 1424) hx hb dL_law_294 (by decide) (fun _ => K o1 u2.1 u2.2 H locs I2 hP hD hS) (fun cn => absurd er cn)
set_option maxHeartbeats 4000000 in
set_option maxRecDepth 100000 in
theorem lc_one (F : LF p s m meth c b L xs D kc ad adV fm) (h1 : vp_in (x3 + 1) L) (h2 : vp_in (x3 + 2) L) (h3 : vp_in (x3 + 3) L) (h4 : vp_in (x3 + 4) L) (hl : lv_has ls 4 [(0, .ref b), (1, .ref (a 0 0)), (2, .ref (b0 0)), (3, .int x3)]) {o : S3} {mo : S2} {lo : SL} (I : IV o mo) (hP : va_P D vwCl (cLP kc a o ++ cM kc b0 mo lo) H) (hD : va_D (LA s) (cLP kc a o ++ cM kc b0 mo lo)) (hS : va_S (LA s) s.heap H locs) (K : LK p l e s m b below meth c Q D kc a b0 ls) : LW p l e s m b below meth c Q H locs (F0 m 299 ls []) := by
  have F0 := F
  obtain ⟨hx, hb, hml, hown, hts, hX, hbl, hK, hQ⟩ := F0
  obtain ⟨P0, I⟩ := I
  have hA : ∀ q, s.heap.size ≤ q → LA s q := fun _ h => h
  refine lv_aload_n hx hb dL_law_299 rfl (lv_at hl 1 rfl) ?_
  refine lx_arg (v := 1) F hl hS dL_law_300 dL_law_301 dL_law_302 (by decide) dL_law_303 dL_law_304 h1 ?_
  refine lx_arg (v := 2) F hl hS dL_law_305 dL_law_306 dL_law_307 (by decide) dL_law_308 dL_law_309 h2 ?_
  refine q_cVi (As := [.int (xs (x3 + 1).toNatClampNeg), .int (xs (x3 + 2).toNatClampNeg)]) (rest := []) ⟨hx, hb, hml, hown, hts⟩ hK (c_X3_one l D kc a (xs (x3 + 1).toNatClampNeg) (xs (x3 + 2).toNatClampNeg) o H.size _ (L_one (lo := lo) I (xs (x3 + 1).toNatClampNeg) (xs (x3 + 2).toNatClampNeg))) (cwV 2 hts gL_law_X3_one rfl rfl rfl (by decide +kernel) ⟨Nat.le_of_ble_eq_true rfl, Nat.le_of_ble_eq_true rfl⟩) (cut_l (cM kc b0 mo lo) (cLP kc a o) (fun u : S3 => cLP kc a u)) hP hD hS hA 3 0 rfl rfl rfl hl.1 rfl (Nat.le_of_ble_eq_true rfl) dL_law_310 ⟨Nat.le_of_ble_eq_true rfl, Nat.le_of_ble_eq_true rfl⟩ (fun r1 o1 H locs hw hP hD hS => ?_)
  refine lv_aload_n hx hb dL_law_313 rfl (lv_at hl 2 rfl) ?_
  refine lx_arg (v := 1) F hl hS dL_law_314 dL_law_315 dL_law_316 (by decide) dL_law_317 dL_law_318 h1 ?_
  refine lx_arg (v := 2) F hl hS dL_law_319 dL_law_320 dL_law_321 (by decide) dL_law_322 dL_law_323 h2 ?_
  refine q_cVi (As := [.int (xs (x3 + 1).toNatClampNeg), .int (xs (x3 + 2).toNatClampNeg)]) (rest := [.int r1]) ⟨hx, hb, hml, hown, hts⟩ hK (c_X4_one l D kc b0 (xs (x3 + 1).toNatClampNeg) (xs (x3 + 2).toNatClampNeg) mo lo H.size _ hw) (cwV 2 hts gL_law_X4_one rfl rfl rfl (by decide +kernel) ⟨Nat.le_of_ble_eq_true rfl, Nat.le_of_ble_eq_true rfl⟩) (cut_r (cLP kc a o1) (cM kc b0 mo lo) (fun u : S2 × SL => cM kc b0 u.1 u.2)) hP hD hS hA 4 0 rfl rfl rfl hl.1 rfl (Nat.le_of_ble_eq_true rfl) dL_law_324 ⟨Nat.le_of_ble_eq_true rfl, Nat.le_of_ble_eq_true rfl⟩ (fun r2 u2 H locs hw hP hD hS => ?_)
  obtain ⟨er, I2⟩ := hw
  exact lv_icmp_eq (tgt := 1424) hx hb dL_law_327 (by decide) (fun _ => K o1 u2.1 u2.2 H locs I2 hP hD hS) (fun cn => absurd er cn)
set_option maxHeartbeats 4000000 in
set_option maxRecDepth 100000 in
theorem lc_gift (F : LF p s m meth c b L xs D kc ad adV fm) (h1 : vp_in (x3 + 1) L) (h2 : vp_in (x3 + 2) L) (h3 : vp_in (x3 + 3) L) (h4 : vp_in (x3 + 4) L) (hl : lv_has ls 4 [(0, .ref b), (1, .ref (a 0 0)), (2, .ref (b0 0)), (3, .int x3)]) {o : S3} {mo : S2} {lo : SL} (I : IV o mo) (hP : va_P D vwCl (cLP kc a o ++ cM kc b0 mo lo) H) (hD : va_D (LA s) (cLP kc a o ++ cM kc b0 mo lo)) (hS : va_S (LA s) s.heap H locs) (K : LK p l e s m b below meth c Q D kc a b0 ls) : LW p l e s m b below meth c Q H locs (F0 m 332 ls []) := by
  have F0 := F
  obtain ⟨hx, hb, hml, hown, hts, hX, hbl, hK, hQ⟩ := F0
  obtain ⟨P0, I⟩ := I
  have hA : ∀ q, s.heap.size ≤ q → LA s q := fun _ h => h
  refine lv_aload_n hx hb dL_law_332 rfl (lv_at hl 1 rfl) ?_
  refine lx_arg (v := 1) F hl hS dL_law_333 dL_law_334 dL_law_335 (by decide) dL_law_336 dL_law_337 h1 ?_
  refine lx_arg (v := 2) F hl hS dL_law_338 dL_law_339 dL_law_340 (by decide) dL_law_341 dL_law_342 h2 ?_
  refine q_cVi (As := [.int (xs (x3 + 1).toNatClampNeg), .int (xs (x3 + 2).toNatClampNeg)]) (rest := []) ⟨hx, hb, hml, hown, hts⟩ hK (c_X3_gift l D kc a (xs (x3 + 1).toNatClampNeg) (xs (x3 + 2).toNatClampNeg) o H.size _ (L_gift (lo := lo) I (xs (x3 + 1).toNatClampNeg) (xs (x3 + 2).toNatClampNeg))) (cwV 2 hts gL_law_X3_gift rfl rfl rfl (by decide +kernel) ⟨Nat.le_of_ble_eq_true rfl, Nat.le_of_ble_eq_true rfl⟩) (cut_l (cM kc b0 mo lo) (cLP kc a o) (fun u : S3 => cLP kc a u)) hP hD hS hA 3 0 rfl rfl rfl hl.1 rfl (Nat.le_of_ble_eq_true rfl) dL_law_343 ⟨Nat.le_of_ble_eq_true rfl, Nat.le_of_ble_eq_true rfl⟩ (fun r1 o1 H locs hw hP hD hS => ?_)
  refine lv_aload_n hx hb dL_law_346 rfl (lv_at hl 2 rfl) ?_
  refine lx_arg (v := 1) F hl hS dL_law_347 dL_law_348 dL_law_349 (by decide) dL_law_350 dL_law_351 h1 ?_
  refine lx_arg (v := 2) F hl hS dL_law_352 dL_law_353 dL_law_354 (by decide) dL_law_355 dL_law_356 h2 ?_
  refine q_cVi (As := [.int (xs (x3 + 1).toNatClampNeg), .int (xs (x3 + 2).toNatClampNeg)]) (rest := [.int r1]) ⟨hx, hb, hml, hown, hts⟩ hK (c_X4_gift l D kc b0 (xs (x3 + 1).toNatClampNeg) (xs (x3 + 2).toNatClampNeg) mo lo H.size _ hw) (cwV 2 hts gL_law_X4_gift rfl rfl rfl (by decide +kernel) ⟨Nat.le_of_ble_eq_true rfl, Nat.le_of_ble_eq_true rfl⟩) (cut_r (cLP kc a o1) (cM kc b0 mo lo) (fun u : S2 × SL => cM kc b0 u.1 u.2)) hP hD hS hA 4 0 rfl rfl rfl hl.1 rfl (Nat.le_of_ble_eq_true rfl) dL_law_357 ⟨Nat.le_of_ble_eq_true rfl, Nat.le_of_ble_eq_true rfl⟩ (fun r2 u2 H locs hw hP hD hS => ?_)
  obtain ⟨er, I2⟩ := hw
  exact lv_icmp_eq (tgt := 1424) hx hb dL_law_360 (by decide) (fun _ => K o1 u2.1 u2.2 H locs I2 hP hD hS) (fun cn => absurd er cn)
set_option maxHeartbeats 4000000 in
set_option maxRecDepth 100000 in
theorem lc_alter (F : LF p s m meth c b L xs D kc ad adV fm) (h1 : vp_in (x3 + 1) L) (h2 : vp_in (x3 + 2) L) (h3 : vp_in (x3 + 3) L) (h4 : vp_in (x3 + 4) L) (hl : lv_has ls 4 [(0, .ref b), (1, .ref (a 0 0)), (2, .ref (b0 0)), (3, .int x3)]) {o : S3} {mo : S2} {lo : SL} (I : IV o mo) (hP : va_P D vwCl (cLP kc a o ++ cM kc b0 mo lo) H) (hD : va_D (LA s) (cLP kc a o ++ cM kc b0 mo lo)) (hS : va_S (LA s) s.heap H locs) (K : LK p l e s m b below meth c Q D kc a b0 ls) : LW p l e s m b below meth c Q H locs (F0 m 365 ls []) := by
  have F0 := F
  obtain ⟨hx, hb, hml, hown, hts, hX, hbl, hK, hQ⟩ := F0
  obtain ⟨P0, I⟩ := I
  have hA : ∀ q, s.heap.size ≤ q → LA s q := fun _ h => h
  refine lv_aload_n hx hb dL_law_365 rfl (lv_at hl 1 rfl) ?_
  refine lx_arg (v := 1) F hl hS dL_law_366 dL_law_367 dL_law_368 (by decide) dL_law_369 dL_law_370 h1 ?_
  refine lx_arg (v := 2) F hl hS dL_law_371 dL_law_372 dL_law_373 (by decide) dL_law_374 dL_law_375 h2 ?_
  refine lx_arg (v := 3) F hl hS dL_law_376 dL_law_377 dL_law_378 (by decide) dL_law_379 dL_law_380 h3 ?_
  refine q_cVi (As := [.int (xs (x3 + 1).toNatClampNeg), .int (xs (x3 + 2).toNatClampNeg), .int (xs (x3 + 3).toNatClampNeg)]) (rest := []) ⟨hx, hb, hml, hown, hts⟩ hK (c_X3_alter l D kc a (xs (x3 + 1).toNatClampNeg) (xs (x3 + 2).toNatClampNeg) (xs (x3 + 3).toNatClampNeg) o H.size _ (L_alter (lo := lo) I (xs (x3 + 1).toNatClampNeg) (xs (x3 + 2).toNatClampNeg) (xs (x3 + 3).toNatClampNeg))) (cwV 3 hts gL_law_X3_alter rfl rfl rfl (by decide +kernel) ⟨Nat.le_of_ble_eq_true rfl, Nat.le_of_ble_eq_true rfl⟩) (cut_l (cM kc b0 mo lo) (cLP kc a o) (fun u : S3 => cLP kc a u)) hP hD hS hA 3 0 rfl rfl rfl hl.1 rfl (Nat.le_of_ble_eq_true rfl) dL_law_381 ⟨Nat.le_of_ble_eq_true rfl, Nat.le_of_ble_eq_true rfl⟩ (fun r1 o1 H locs hw hP hD hS => ?_)
  refine lv_aload_n hx hb dL_law_384 rfl (lv_at hl 2 rfl) ?_
  refine lx_arg (v := 1) F hl hS dL_law_385 dL_law_386 dL_law_387 (by decide) dL_law_388 dL_law_389 h1 ?_
  refine lx_arg (v := 2) F hl hS dL_law_390 dL_law_391 dL_law_392 (by decide) dL_law_393 dL_law_394 h2 ?_
  refine lx_arg (v := 3) F hl hS dL_law_395 dL_law_396 dL_law_397 (by decide) dL_law_398 dL_law_399 h3 ?_
  refine q_cVi (As := [.int (xs (x3 + 1).toNatClampNeg), .int (xs (x3 + 2).toNatClampNeg), .int (xs (x3 + 3).toNatClampNeg)]) (rest := [.int r1]) ⟨hx, hb, hml, hown, hts⟩ hK (c_X4_alter l D kc b0 (xs (x3 + 1).toNatClampNeg) (xs (x3 + 2).toNatClampNeg) (xs (x3 + 3).toNatClampNeg) mo lo H.size _ hw) (cwV 3 hts gL_law_X4_alter rfl rfl rfl (by decide +kernel) ⟨Nat.le_of_ble_eq_true rfl, Nat.le_of_ble_eq_true rfl⟩) (cut_r (cLP kc a o1) (cM kc b0 mo lo) (fun u : S2 × SL => cM kc b0 u.1 u.2)) hP hD hS hA 4 0 rfl rfl rfl hl.1 rfl (Nat.le_of_ble_eq_true rfl) dL_law_400 ⟨Nat.le_of_ble_eq_true rfl, Nat.le_of_ble_eq_true rfl⟩ (fun r2 u2 H locs hw hP hD hS => ?_)
  obtain ⟨er, I2⟩ := hw
  exact lv_icmp_eq (tgt := 1424) hx hb dL_law_403 (by decide) (fun _ => K o1 u2.1 u2.2 H locs I2 hP hD hS) (fun cn => absurd er cn)
set_option maxHeartbeats 4000000 in
set_option maxRecDepth 100000 in
theorem lc_slump (F : LF p s m meth c b L xs D kc ad adV fm) (h1 : vp_in (x3 + 1) L) (h2 : vp_in (x3 + 2) L) (h3 : vp_in (x3 + 3) L) (h4 : vp_in (x3 + 4) L) (hl : lv_has ls 4 [(0, .ref b), (1, .ref (a 0 0)), (2, .ref (b0 0)), (3, .int x3)]) {o : S3} {mo : S2} {lo : SL} (I : IV o mo) (hP : va_P D vwCl (cLP kc a o ++ cM kc b0 mo lo) H) (hD : va_D (LA s) (cLP kc a o ++ cM kc b0 mo lo)) (hS : va_S (LA s) s.heap H locs) (K : LK p l e s m b below meth c Q D kc a b0 ls) : LW p l e s m b below meth c Q H locs (F0 m 408 ls []) := by
  have F0 := F
  obtain ⟨hx, hb, hml, hown, hts, hX, hbl, hK, hQ⟩ := F0
  obtain ⟨P0, I⟩ := I
  have hA : ∀ q, s.heap.size ≤ q → LA s q := fun _ h => h
  refine lv_aload_n hx hb dL_law_408 rfl (lv_at hl 1 rfl) ?_
  refine lx_arg (v := 1) F hl hS dL_law_409 dL_law_410 dL_law_411 (by decide) dL_law_412 dL_law_413 h1 ?_
  refine q_cVi (As := [.int (xs (x3 + 1).toNatClampNeg)]) (rest := []) ⟨hx, hb, hml, hown, hts⟩ hK (c_X3_slump l D kc a (xs (x3 + 1).toNatClampNeg) o H.size _ (L_slump (lo := lo) I (xs (x3 + 1).toNatClampNeg))) (cwV 1 hts gL_law_X3_slump rfl rfl rfl (by decide +kernel) ⟨Nat.le_of_ble_eq_true rfl, Nat.le_of_ble_eq_true rfl⟩) (cut_l (cM kc b0 mo lo) (cLP kc a o) (fun u : S3 => cLP kc a u)) hP hD hS hA 3 0 rfl rfl rfl hl.1 rfl (Nat.le_of_ble_eq_true rfl) dL_law_414 ⟨Nat.le_of_ble_eq_true rfl, Nat.le_of_ble_eq_true rfl⟩ (fun r1 o1 H locs hw hP hD hS => ?_)
  refine lv_aload_n hx hb dL_law_417 rfl (lv_at hl 2 rfl) ?_
  refine lx_arg (v := 1) F hl hS dL_law_418 dL_law_419 dL_law_420 (by decide) dL_law_421 dL_law_422 h1 ?_
  refine q_cVi (As := [.int (xs (x3 + 1).toNatClampNeg)]) (rest := [.int r1]) ⟨hx, hb, hml, hown, hts⟩ hK (c_X4_slump l D kc b0 (xs (x3 + 1).toNatClampNeg) mo lo H.size _ hw) (cwV 1 hts gL_law_X4_slump rfl rfl rfl (by decide +kernel) ⟨Nat.le_of_ble_eq_true rfl, Nat.le_of_ble_eq_true rfl⟩) (cut_r (cLP kc a o1) (cM kc b0 mo lo) (fun u : S2 × SL => cM kc b0 u.1 u.2)) hP hD hS hA 4 0 rfl rfl rfl hl.1 rfl (Nat.le_of_ble_eq_true rfl) dL_law_423 ⟨Nat.le_of_ble_eq_true rfl, Nat.le_of_ble_eq_true rfl⟩ (fun r2 u2 H locs hw hP hD hS => ?_)
  obtain ⟨er, I2⟩ := hw
  exact lv_icmp_eq (tgt := 1424) hx hb dL_law_426 (by decide) (fun _ => K o1 u2.1 u2.2 H locs I2 hP hD hS) (fun cn => absurd er cn)
set_option maxHeartbeats 4000000 in
set_option maxRecDepth 100000 in
theorem lc_hand (F : LF p s m meth c b L xs D kc ad adV fm) (h1 : vp_in (x3 + 1) L) (h2 : vp_in (x3 + 2) L) (h3 : vp_in (x3 + 3) L) (h4 : vp_in (x3 + 4) L) (hl : lv_has ls 4 [(0, .ref b), (1, .ref (a 0 0)), (2, .ref (b0 0)), (3, .int x3)]) {o : S3} {mo : S2} {lo : SL} (I : IV o mo) (hP : va_P D vwCl (cLP kc a o ++ cM kc b0 mo lo) H) (hD : va_D (LA s) (cLP kc a o ++ cM kc b0 mo lo)) (hS : va_S (LA s) s.heap H locs) (K : LK p l e s m b below meth c Q D kc a b0 ls) : LW p l e s m b below meth c Q H locs (F0 m 431 ls []) := by
  have F0 := F
  obtain ⟨hx, hb, hml, hown, hts, hX, hbl, hK, hQ⟩ := F0
  obtain ⟨P0, I⟩ := I
  have hA : ∀ q, s.heap.size ≤ q → LA s q := fun _ h => h
  refine lv_aload_n hx hb dL_law_431 rfl (lv_at hl 1 rfl) ?_
  refine lx_arg (v := 1) F hl hS dL_law_432 dL_law_433 dL_law_434 (by decide) dL_law_435 dL_law_436 h1 ?_
  refine q_cVi (As := [.int (xs (x3 + 1).toNatClampNeg)]) (rest := []) ⟨hx, hb, hml, hown, hts⟩ hK (c_X3_hand l D kc a (xs (x3 + 1).toNatClampNeg) o H.size _ (L_hand (lo := lo) I (xs (x3 + 1).toNatClampNeg))) (cwV 1 hts gL_law_X3_hand rfl rfl rfl (by decide +kernel) ⟨Nat.le_of_ble_eq_true rfl, Nat.le_of_ble_eq_true rfl⟩) (cut_l (cM kc b0 mo lo) (cLP kc a o) (fun u : S3 => cLP kc a u)) hP hD hS hA 3 0 rfl rfl rfl hl.1 rfl (Nat.le_of_ble_eq_true rfl) dL_law_437 ⟨Nat.le_of_ble_eq_true rfl, Nat.le_of_ble_eq_true rfl⟩ (fun r1 o1 H locs hw hP hD hS => ?_)
  refine lv_aload_n hx hb dL_law_440 rfl (lv_at hl 2 rfl) ?_
  refine lx_arg (v := 1) F hl hS dL_law_441 dL_law_442 dL_law_443 (by decide) dL_law_444 dL_law_445 h1 ?_
  refine q_cVi (As := [.int (xs (x3 + 1).toNatClampNeg)]) (rest := [.int r1]) ⟨hx, hb, hml, hown, hts⟩ hK (c_X4_hand l D kc b0 (xs (x3 + 1).toNatClampNeg) mo lo H.size _ hw) (cwV 1 hts gL_law_X4_hand rfl rfl rfl (by decide +kernel) ⟨Nat.le_of_ble_eq_true rfl, Nat.le_of_ble_eq_true rfl⟩) (cut_r (cLP kc a o1) (cM kc b0 mo lo) (fun u : S2 × SL => cM kc b0 u.1 u.2)) hP hD hS hA 4 0 rfl rfl rfl hl.1 rfl (Nat.le_of_ble_eq_true rfl) dL_law_446 ⟨Nat.le_of_ble_eq_true rfl, Nat.le_of_ble_eq_true rfl⟩ (fun r2 u2 H locs hw hP hD hS => ?_)
  obtain ⟨er, I2⟩ := hw
  exact lv_icmp_eq (tgt := 1424) hx hb dL_law_449 (by decide) (fun _ => K o1 u2.1 u2.2 H locs I2 hP hD hS) (fun cn => absurd er cn)
set_option maxHeartbeats 4000000 in
set_option maxRecDepth 100000 in
theorem lc_give (F : LF p s m meth c b L xs D kc ad adV fm) (h1 : vp_in (x3 + 1) L) (h2 : vp_in (x3 + 2) L) (h3 : vp_in (x3 + 3) L) (h4 : vp_in (x3 + 4) L) (hl : lv_has ls 4 [(0, .ref b), (1, .ref (a 0 0)), (2, .ref (b0 0)), (3, .int x3)]) {o : S3} {mo : S2} {lo : SL} (I : IV o mo) (hP : va_P D vwCl (cLP kc a o ++ cM kc b0 mo lo) H) (hD : va_D (LA s) (cLP kc a o ++ cM kc b0 mo lo)) (hS : va_S (LA s) s.heap H locs) (K : LK p l e s m b below meth c Q D kc a b0 ls) : LW p l e s m b below meth c Q H locs (F0 m 454 ls []) := by
  have F0 := F
  obtain ⟨hx, hb, hml, hown, hts, hX, hbl, hK, hQ⟩ := F0
  obtain ⟨P0, I⟩ := I
  have hA : ∀ q, s.heap.size ≤ q → LA s q := fun _ h => h
  refine lv_aload_n hx hb dL_law_454 rfl (lv_at hl 1 rfl) ?_
  refine lx_arg (v := 1) F hl hS dL_law_455 dL_law_456 dL_law_457 (by decide) dL_law_458 dL_law_459 h1 ?_
  refine lx_arg (v := 2) F hl hS dL_law_460 dL_law_461 dL_law_462 (by decide) dL_law_463 dL_law_464 h2 ?_
  refine lx_arg (v := 3) F hl hS dL_law_465 dL_law_466 dL_law_467 (by decide) dL_law_468 dL_law_469 h3 ?_
  refine lx_arg (v := 4) F hl hS dL_law_470 dL_law_471 dL_law_472 (by decide) dL_law_473 dL_law_474 h4 ?_
  refine q_cVi (As := [.int (xs (x3 + 1).toNatClampNeg), .int (xs (x3 + 2).toNatClampNeg), .int (xs (x3 + 3).toNatClampNeg), .int (xs (x3 + 4).toNatClampNeg)]) (rest := []) ⟨hx, hb, hml, hown, hts⟩ hK (c_X3_give l D kc a (xs (x3 + 1).toNatClampNeg) (xs (x3 + 2).toNatClampNeg) (xs (x3 + 3).toNatClampNeg) (xs (x3 + 4).toNatClampNeg) o H.size _ (L_give (lo := lo) I (xs (x3 + 1).toNatClampNeg) (xs (x3 + 2).toNatClampNeg) (xs (x3 + 3).toNatClampNeg) (xs (x3 + 4).toNatClampNeg))) (cwV 4 hts gL_law_X3_give rfl rfl rfl (by decide +kernel) ⟨Nat.le_of_ble_eq_true rfl, Nat.le_of_ble_eq_true rfl⟩) (cut_l (cM kc b0 mo lo) (cLP kc a o) (fun u : S3 => cLP kc a u)) hP hD hS hA 3 0 rfl rfl rfl hl.1 rfl (Nat.le_of_ble_eq_true rfl) dL_law_475 ⟨Nat.le_of_ble_eq_true rfl, Nat.le_of_ble_eq_true rfl⟩ (fun r1 o1 H locs hw hP hD hS => ?_)
  refine lv_aload_n hx hb dL_law_478 rfl (lv_at hl 2 rfl) ?_
  refine lx_arg (v := 1) F hl hS dL_law_479 dL_law_480 dL_law_481 (by decide) dL_law_482 dL_law_483 h1 ?_
  refine lx_arg (v := 2) F hl hS dL_law_484 dL_law_485 dL_law_486 (by decide) dL_law_487 dL_law_488 h2 ?_
  refine lx_arg (v := 3) F hl hS dL_law_489 dL_law_490 dL_law_491 (by decide) dL_law_492 dL_law_493 h3 ?_
  refine lx_arg (v := 4) F hl hS dL_law_494 dL_law_495 dL_law_496 (by decide) dL_law_497 dL_law_498 h4 ?_
  refine q_cVi (As := [.int (xs (x3 + 1).toNatClampNeg), .int (xs (x3 + 2).toNatClampNeg), .int (xs (x3 + 3).toNatClampNeg), .int (xs (x3 + 4).toNatClampNeg)]) (rest := [.int r1]) ⟨hx, hb, hml, hown, hts⟩ hK (c_X4_give l D kc b0 (xs (x3 + 1).toNatClampNeg) (xs (x3 + 2).toNatClampNeg) (xs (x3 + 3).toNatClampNeg) (xs (x3 + 4).toNatClampNeg) mo lo H.size _ hw) (cwV 4 hts gL_law_X4_give rfl rfl rfl (by decide +kernel) ⟨Nat.le_of_ble_eq_true rfl, Nat.le_of_ble_eq_true rfl⟩) (cut_r (cLP kc a o1) (cM kc b0 mo lo) (fun u : S2 × SL => cM kc b0 u.1 u.2)) hP hD hS hA 4 0 rfl rfl rfl hl.1 rfl (Nat.le_of_ble_eq_true rfl) dL_law_499 ⟨Nat.le_of_ble_eq_true rfl, Nat.le_of_ble_eq_true rfl⟩ (fun r2 u2 H locs hw hP hD hS => ?_)
  obtain ⟨er, I2⟩ := hw
  exact lv_icmp_eq (tgt := 1424) hx hb dL_law_502 (by decide) (fun _ => K o1 u2.1 u2.2 H locs I2 hP hD hS) (fun cn => absurd er cn)
set_option maxHeartbeats 4000000 in
set_option maxRecDepth 100000 in
theorem lc_drop (F : LF p s m meth c b L xs D kc ad adV fm) (h1 : vp_in (x3 + 1) L) (h2 : vp_in (x3 + 2) L) (h3 : vp_in (x3 + 3) L) (h4 : vp_in (x3 + 4) L) (hl : lv_has ls 4 [(0, .ref b), (1, .ref (a 0 0)), (2, .ref (b0 0)), (3, .int x3)]) {o : S3} {mo : S2} {lo : SL} (I : IV o mo) (hP : va_P D vwCl (cLP kc a o ++ cM kc b0 mo lo) H) (hD : va_D (LA s) (cLP kc a o ++ cM kc b0 mo lo)) (hS : va_S (LA s) s.heap H locs) (K : LK p l e s m b below meth c Q D kc a b0 ls) : LW p l e s m b below meth c Q H locs (F0 m 507 ls []) := by
  have F0 := F
  obtain ⟨hx, hb, hml, hown, hts, hX, hbl, hK, hQ⟩ := F0
  obtain ⟨P0, I⟩ := I
  have hA : ∀ q, s.heap.size ≤ q → LA s q := fun _ h => h
  refine lv_aload_n hx hb dL_law_507 rfl (lv_at hl 1 rfl) ?_
  refine lx_arg (v := 1) F hl hS dL_law_508 dL_law_509 dL_law_510 (by decide) dL_law_511 dL_law_512 h1 ?_
  refine q_cVi (As := [.int (xs (x3 + 1).toNatClampNeg)]) (rest := []) ⟨hx, hb, hml, hown, hts⟩ hK (c_X3_drop l D kc a (xs (x3 + 1).toNatClampNeg) o H.size _ (L_drop (lo := lo) I (xs (x3 + 1).toNatClampNeg))) (cwV 1 hts gL_law_X3_drop rfl rfl rfl (by decide +kernel) ⟨Nat.le_of_ble_eq_true rfl, Nat.le_of_ble_eq_true rfl⟩) (cut_l (cM kc b0 mo lo) (cLP kc a o) (fun u : S3 => cLP kc a u)) hP hD hS hA 3 0 rfl rfl rfl hl.1 rfl (Nat.le_of_ble_eq_true rfl) dL_law_513 ⟨Nat.le_of_ble_eq_true rfl, Nat.le_of_ble_eq_true rfl⟩ (fun r1 o1 H locs hw hP hD hS => ?_)
  refine lv_aload_n hx hb dL_law_516 rfl (lv_at hl 2 rfl) ?_
  refine lx_arg (v := 1) F hl hS dL_law_517 dL_law_518 dL_law_519 (by decide) dL_law_520 dL_law_521 h1 ?_
  refine q_cVi (As := [.int (xs (x3 + 1).toNatClampNeg)]) (rest := [.int r1]) ⟨hx, hb, hml, hown, hts⟩ hK (c_X4_drop l D kc b0 (xs (x3 + 1).toNatClampNeg) mo lo H.size _ hw) (cwV 1 hts gL_law_X4_drop rfl rfl rfl (by decide +kernel) ⟨Nat.le_of_ble_eq_true rfl, Nat.le_of_ble_eq_true rfl⟩) (cut_r (cLP kc a o1) (cM kc b0 mo lo) (fun u : S2 × SL => cM kc b0 u.1 u.2)) hP hD hS hA 4 0 rfl rfl rfl hl.1 rfl (Nat.le_of_ble_eq_true rfl) dL_law_522 ⟨Nat.le_of_ble_eq_true rfl, Nat.le_of_ble_eq_true rfl⟩ (fun r2 u2 H locs hw hP hD hS => ?_)
  obtain ⟨er, I2⟩ := hw
  exact lv_icmp_eq (tgt := 1424) hx hb dL_law_525 (by decide) (fun _ => K o1 u2.1 u2.2 H locs I2 hP hD hS) (fun cn => absurd er cn)
set_option maxHeartbeats 4000000 in
set_option maxRecDepth 100000 in
theorem lc_quarters (F : LF p s m meth c b L xs D kc ad adV fm) (h1 : vp_in (x3 + 1) L) (h2 : vp_in (x3 + 2) L) (h3 : vp_in (x3 + 3) L) (h4 : vp_in (x3 + 4) L) (hl : lv_has ls 4 [(0, .ref b), (1, .ref (a 0 0)), (2, .ref (b0 0)), (3, .int x3)]) {o : S3} {mo : S2} {lo : SL} (I : IV o mo) (hP : va_P D vwCl (cLP kc a o ++ cM kc b0 mo lo) H) (hD : va_D (LA s) (cLP kc a o ++ cM kc b0 mo lo)) (hS : va_S (LA s) s.heap H locs) (K : LK p l e s m b below meth c Q D kc a b0 ls) : LW p l e s m b below meth c Q H locs (F0 m 530 ls []) := by
  have F0 := F
  obtain ⟨hx, hb, hml, hown, hts, hX, hbl, hK, hQ⟩ := F0
  obtain ⟨P0, I⟩ := I
  have hA : ∀ q, s.heap.size ≤ q → LA s q := fun _ h => h
  refine lv_aload_n hx hb dL_law_530 rfl (lv_at hl 1 rfl) ?_
  refine lx_arg (v := 1) F hl hS dL_law_531 dL_law_532 dL_law_533 (by decide) dL_law_534 dL_law_535 h1 ?_
  refine q_cVi (As := [.int (xs (x3 + 1).toNatClampNeg)]) (rest := []) ⟨hx, hb, hml, hown, hts⟩ hK (c_X3_quarters l D kc a (xs (x3 + 1).toNatClampNeg) o H.size _ (L_quarters (lo := lo) I (xs (x3 + 1).toNatClampNeg))) (cwV 1 hts gL_law_X3_quarters rfl rfl rfl (by decide +kernel) ⟨Nat.le_of_ble_eq_true rfl, Nat.le_of_ble_eq_true rfl⟩) (cut_l (cM kc b0 mo lo) (cLP kc a o) (fun u : S3 => cLP kc a u)) hP hD hS hA 3 0 rfl rfl rfl hl.1 rfl (Nat.le_of_ble_eq_true rfl) dL_law_536 ⟨Nat.le_of_ble_eq_true rfl, Nat.le_of_ble_eq_true rfl⟩ (fun r1 o1 H locs hw hP hD hS => ?_)
  refine lv_aload_n hx hb dL_law_539 rfl (lv_at hl 2 rfl) ?_
  refine lx_arg (v := 1) F hl hS dL_law_540 dL_law_541 dL_law_542 (by decide) dL_law_543 dL_law_544 h1 ?_
  refine q_cVi (As := [.int (xs (x3 + 1).toNatClampNeg)]) (rest := [.int r1]) ⟨hx, hb, hml, hown, hts⟩ hK (c_X4_quarters l D kc b0 (xs (x3 + 1).toNatClampNeg) mo lo H.size _ hw) (cwV 1 hts gL_law_X4_quarters rfl rfl rfl (by decide +kernel) ⟨Nat.le_of_ble_eq_true rfl, Nat.le_of_ble_eq_true rfl⟩) (cut_r (cLP kc a o1) (cM kc b0 mo lo) (fun u : S2 × SL => cM kc b0 u.1 u.2)) hP hD hS hA 4 0 rfl rfl rfl hl.1 rfl (Nat.le_of_ble_eq_true rfl) dL_law_545 ⟨Nat.le_of_ble_eq_true rfl, Nat.le_of_ble_eq_true rfl⟩ (fun r2 u2 H locs hw hP hD hS => ?_)
  obtain ⟨er, I2⟩ := hw
  exact lv_icmp_eq (tgt := 1424) hx hb dL_law_548 (by decide) (fun _ => K o1 u2.1 u2.2 H locs I2 hP hD hS) (fun cn => absurd er cn)
end LAW
