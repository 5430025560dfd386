/-! THE LAW: the switch, the loop -/
section LAWL
variable {p : Program} {l : Launch} {e : Env} {s : State} {m : MethodId} {below : List Frame} {meth : Method} {c : Code} {b L : Nat} {xs : Nat → Int32} {D : va_G} {kc : Nat → ClassId} {ad adV : Nat → Nat} {fm : Value} {a : Nat → Nat → Nat} {b0 : Nat → Nat} {Q : State → Prop} {H : Heap} {locs : List Loc} {ls : Array Slot} {rest : List Value} {lv : List (Nat × Value)} {x3 : Int32}
set_option maxRecDepth 100000 in
set_option maxHeartbeats 4000000 in
theorem law_sw (F : LF p s m meth c b L xs D kc ad adV fm) (h1 : vp_in (x3 + 1) L) (h2 : vp_in (x3 + 2) L) (h3 : vp_in (x3 + 3) L) (h4 : vp_in (x3 + 4) L) (hl : lv_has ls 4 [(0, .ref b), (1, .ref (a 0 0)), (2, .ref (b0 0)), (3, .int x3)]) {o : S3} {mo : S2} {lo : SL} (I : IV o mo) (hP : va_P D vwCl (cLP kc a o ++ cM kc b0 mo lo) H) (hD : va_D (LA s) (cLP kc a o ++ cM kc b0 mo lo)) (hS : va_S (LA s) s.heap H locs) (K : LK p l e s m b below meth c Q D kc a b0 ls) (v : Int32) : LW p l e s m b below meth c Q H locs (F0 m 32 ls [.int v]) := by
  have hx := F.1
  have hb := F.2.1
  by_cases hv : v.toInt < 0 ∨ 38 < v.toInt
  · exact lv_tableOut (tgt := 1424) hx hb dL_law_32 hv (by decide) (K o mo lo H locs I hP hD hS)
  · have e1 : ¬ v.toInt < 0 := fun q => hv (Or.inl q)
    have e2 : ¬ 38 < v.toInt := fun q => hv (Or.inr q)
    obtain ⟨k, hk, ek⟩ : ∃ k : Nat, k < 39 ∧ (v.toInt - 0).toNat = k := ⟨_, by omega, rfl⟩
    have key : ∀ (off : Int) (tgt : Nat), (#[172, 195, 218, 231, 244, 267, 300, 333, 376, 399, 422, 475, 498, 521, 554, 597, 620, 664, 677, 710, 743, 786, 819, 852, 885, 939, 993, 1026, 1049, 1072, 1095, 1128, 1171, 1194, 1217, 1260, 1303, 1356, 1369] : Array Int)[k]? = some off → (32 : Int) + off = (tgt : Int) → LW p l e s m b below meth c Q H locs (F0 m tgt ls []) → LW p l e s m b below meth c Q H locs (F0 m 32 ls [.int v]) := fun off tgt h ht kk => lv_tableIn hx hb dL_law_32 e1 e2 (by rw [ek]; exact h) ht kk
    clear ek
    match k, hk, key with
    | 0, _, key => exact key 172 204 rfl (by decide) (lc_feed F h1 h2 h3 h4 hl I hP hD hS K)
    | 1, _, key => exact key 195 227 rfl (by decide) (lc_end F h1 h2 h3 h4 hl I hP hD hS K)
    | 2, _, key => exact key 218 250 rfl (by decide) (lc_text F h1 h2 h3 h4 hl I hP hD hS K)
    | 3, _, key => exact key 231 263 rfl (by decide) (lc_fault F h1 h2 h3 h4 hl I hP hD hS K)
    | 4, _, key => exact key 244 276 rfl (by decide) (lc_rule F h1 h2 h3 h4 hl I hP hD hS K)
    | 5, _, key => exact key 267 299 rfl (by decide) (lc_one F h1 h2 h3 h4 hl I hP hD hS K)
    | 6, _, key => exact key 300 332 rfl (by decide) (lc_gift F h1 h2 h3 h4 hl I hP hD hS K)
    | 7, _, key => exact key 333 365 rfl (by decide) (lc_alter F h1 h2 h3 h4 hl I hP hD hS K)
    | 8, _, key => exact key 376 408 rfl (by decide) (lc_slump F h1 h2 h3 h4 hl I hP hD hS K)
    | 9, _, key => exact key 399 431 rfl (by decide) (lc_hand F h1 h2 h3 h4 hl I hP hD hS K)
    | 10, _, key => exact key 422 454 rfl (by decide) (lc_give F h1 h2 h3 h4 hl I hP hD hS K)
    | 11, _, key => exact key 475 507 rfl (by decide) (lc_drop F h1 h2 h3 h4 hl I hP hD hS K)
    | 12, _, key => exact key 498 530 rfl (by decide) (lc_quarters F h1 h2 h3 h4 hl I hP hD hS K)
    | 13, _, key => exact key 521 553 rfl (by decide) (lc_runs F h1 h2 h3 h4 hl I hP hD hS K)
    | 14, _, key => exact key 554 586 rfl (by decide) (lc_ahead F h1 h2 h3 h4 hl I hP hD hS K)
    | 15, _, key => exact key 597 629 rfl (by decide) (lc_soonest F h1 h2 h3 h4 hl I hP hD hS K)
    | 16, _, key => exact key 620 652 rfl (by decide) (lc_share F h1 h2 h3 h4 hl I hP hD hS K)
    | 17, _, key => exact key 664 696 rfl (by decide) (lc_round F h1 h2 h3 h4 hl I hP hD hS K)
    | 18, _, key => exact key 677 709 rfl (by decide) (lc_trade F h1 h2 h3 h4 hl I hP hD hS K)
    | 19, _, key => exact key 710 742 rfl (by decide) (lc_keeper F h1 h2 h3 h4 hl I hP hD hS K)
    | 20, _, key => exact key 743 775 rfl (by decide) (lc_kind F h1 h2 h3 h4 hl I hP hD hS K)
    | 21, _, key => exact key 786 818 rfl (by decide) (lc_alms F h1 h2 h3 h4 hl I hP hD hS K)
    | 22, _, key => exact key 819 851 rfl (by decide) (lc_help F h1 h2 h3 h4 hl I hP hD hS K)
    | 23, _, key => exact key 852 884 rfl (by decide) (lc_swap F h1 h2 h3 h4 hl I hP hD hS K)
    | 24, _, key => exact key 885 917 rfl (by decide) (lc_luck F h1 h2 h3 h4 hl I hP hD hS K)
    | 25, _, key => exact key 939 971 rfl (by decide) (lc_mean F h1 h2 h3 h4 hl I hP hD hS K)
    | 26, _, key => exact key 993 1025 rfl (by decide) (lc_see F h1 h2 h3 h4 hl I hP hD hS K)
    | 27, _, key => exact key 1026 1058 rfl (by decide) (lc_forget F h1 h2 h3 h4 hl I hP hD hS K)
    | 28, _, key => exact key 1049 1081 rfl (by decide) (lc_kinds F h1 h2 h3 h4 hl I hP hD hS K)
    | 29, _, key => exact key 1072 1104 rfl (by decide) (lc_trades F h1 h2 h3 h4 hl I hP hD hS K)
    | 30, _, key => exact key 1095 1127 rfl (by decide) (lc_ask F h1 h2 h3 h4 hl I hP hD hS K)
    | 31, _, key => exact key 1128 1160 rfl (by decide) (lc_drift F h1 h2 h3 h4 hl I hP hD hS K)
    | 32, _, key => exact key 1171 1203 rfl (by decide) (lc_keep F h1 h2 h3 h4 hl I hP hD hS K)
    | 33, _, key => exact key 1194 1226 rfl (by decide) (lc_back F h1 h2 h3 h4 hl I hP hD hS K)
    | 34, _, key => exact key 1217 1249 rfl (by decide) (lc_sheet F h1 h2 h3 h4 hl I hP hD hS K)
    | 35, _, key => exact key 1260 1292 rfl (by decide) (lc_lay F h1 h2 h3 h4 hl I hP hD hS K)
    | 36, _, key => exact key 1303 1335 rfl (by decide) (lc_read F h1 h2 h3 h4 hl I hP hD hS K)
    | 37, _, key => exact key 1356 1388 rfl (by decide) (lc_torn F h1 h2 h3 h4 hl I hP hD hS K)
    | 38, _, key => exact key 1369 1401 rfl (by decide) (lc_count F h1 h2 h3 h4 hl I hP hD hS K)
    | k + 39, hk, _ => exact absurd hk (by omega)
end LAWL
