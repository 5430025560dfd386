section LAW
variable {p : Program} {l : Launch} {e : Env} {s : State} {m : MethodId} {below : List Frame} {meth : Method} {c : Code} {b L : Nat} {xs : Nat → Int32} {D : va_G} {kc : Nat → ClassId} {ad adV : Nat → Nat} {fm : Value} {a : Nat → Nat → Nat} {b0 : Nat → Nat} {Q : State → Prop} {H : Heap} {locs : List Loc} {ls : Array Slot} {rest : List Value} {lv : List (Nat × Value)} {x3 : Int32}
set_option maxHeartbeats 4000000 in
set_option maxRecDepth 100000 in
theorem lc_runs (F : LF p s m meth c b L xs D kc ad adV fm) (h1 : vp_in (x3 + 1) L) (h2 : vp_in (x3 + 2) L) (h3 : vp_in (x3 + 3) L) (h4 : vp_in (x3 + 4) L) (hl : lv_has ls 4 [(0, .ref b), (1, .ref (a 0 0)), (2, .ref (b0 0)), (3, .int x3)]) {o : S3} {mo : S2} {lo : SL} (I : IV o mo) (hP : va_P D vwCl (cLP kc a o ++ cM kc b0 mo lo) H) (hD : va_D (LA s) (cLP kc a o ++ cM kc b0 mo lo)) (hS : va_S (LA s) s.heap H locs) (K : LK p l e s m b below meth c Q D kc a b0 ls) : LW p l e s m b below meth c Q H locs (F0 m 553 ls []) := by
  have F0 := F
  obtain ⟨hx, hb, hml, hown, hts, hX, hbl, hK, hQ⟩ := F0
  obtain ⟨P0, I⟩ := I
  have hA : ∀ q, s.heap.size ≤ q → LA s q := fun _ h => h
  refine lv_aload_n hx hb dL_law_553 rfl (lv_at hl 1 rfl) ?_
  refine lx_arg (v := 1) F hl hS dL_law_554 dL_law_555 dL_law_556 (by decide) dL_law_557 dL_law_558 h1 ?_
  refine lx_arg (v := 2) F hl hS dL_law_559 dL_law_560 dL_law_561 (by decide) dL_law_562 dL_law_563 h2 ?_
  refine q_cVi (As := [.int (xs (x3 + 1).toNatClampNeg), .int (xs (x3 + 2).toNatClampNeg)]) (rest := []) ⟨hx, hb, hml, hown, hts⟩ hK (c_X3_runs l D kc a (xs (x3 + 1).toNatClampNeg) (xs (x3 + 2).toNatClampNeg) o H.size _ (L_runs (lo := lo) I (xs (x3 + 1).toNatClampNeg) (xs (x3 + 2).toNatClampNeg))) (cwV 2 hts gL_law_X3_runs rfl rfl rfl (by decide +kernel) ⟨Nat.le_of_ble_eq_true rfl, Nat.le_of_ble_eq_true rfl⟩) (cut_l (cM kc b0 mo lo) (cLP kc a o) (fun u : S3 => cLP kc a u)) hP hD hS hA 3 0 rfl rfl rfl hl.1 rfl (Nat.le_of_ble_eq_true rfl) dL_law_564 ⟨Nat.le_of_ble_eq_true rfl, Nat.le_of_ble_eq_true rfl⟩ (fun r1 o1 H locs hw hP hD hS => ?_)
  refine lv_aload_n hx hb dL_law_567 rfl (lv_at hl 2 rfl) ?_
  refine lx_arg (v := 1) F hl hS dL_law_568 dL_law_569 dL_law_570 (by decide) dL_law_571 dL_law_572 h1 ?_
  refine lx_arg (v := 2) F hl hS dL_law_573 dL_law_574 dL_law_575 (by decide) dL_law_576 dL_law_577 h2 ?_
  refine q_cVi (As := [.int (xs (x3 + 1).toNatClampNeg), .int (xs (x3 + 2).toNatClampNeg)]) (rest := [.int r1]) ⟨hx, hb, hml, hown, hts⟩ hK (c_X4_runs l D kc b0 (xs (x3 + 1).toNatClampNeg) (xs (x3 + 2).toNatClampNeg) mo lo H.size _ hw) (cwV 2 hts gL_law_X4_runs rfl rfl rfl (by decide +kernel) ⟨Nat.le_of_ble_eq_true rfl, Nat.le_of_ble_eq_true rfl⟩) (cut_r (cLP kc a o1) (cM kc b0 mo lo) (fun u : S2 × SL => cM kc b0 u.1 u.2)) hP hD hS hA 4 0 rfl rfl rfl hl.1 rfl (Nat.le_of_ble_eq_true rfl) dL_law_578 ⟨Nat.le_of_ble_eq_true rfl, Nat.le_of_ble_eq_true rfl⟩ (fun r2 u2 H locs hw hP hD hS => ?_)
  obtain ⟨er, I2⟩ := hw
  exact lv_icmp_eq (tgt := 1424) hx hb dL_law_581 (by decide) (fun _ => K o1 u2.1 u2.2 H locs I2 hP hD hS) (fun cn => absurd er cn)
set_option maxHeartbeats 4000000 in
set_option maxRecDepth 100000 in
theorem lc_ahead (F : LF p s m meth c b L xs D kc ad adV fm) (h1 : vp_in (x3 + 1) L) (h2 : vp_in (x3 + 2) L) (h3 : vp_in (x3 + 3) L) (h4 : vp_in (x3 + 4) L) (hl : lv_has ls 4 [(0, .ref b), (1, .ref (a 0 0)), (2, .ref (b0 0)), (3, .int x3)]) {o : S3} {mo : S2} {lo : SL} (I : IV o mo) (hP : va_P D vwCl (cLP kc a o ++ cM kc b0 mo lo) H) (hD : va_D (LA s) (cLP kc a o ++ cM kc b0 mo lo)) (hS : va_S (LA s) s.heap H locs) (K : LK p l e s m b below meth c Q D kc a b0 ls) : LW p l e s m b below meth c Q H locs (F0 m 586 ls []) := by
  have F0 := F
  obtain ⟨hx, hb, hml, hown, hts, hX, hbl, hK, hQ⟩ := F0
  obtain ⟨P0, I⟩ := I
  have hA : ∀ q, s.heap.size ≤ q → LA s q := fun _ h => h
  refine lv_aload_n hx hb dL_law_586 rfl (lv_at hl 1 rfl) ?_
  refine lx_arg (v := 1) F hl hS dL_law_587 dL_law_588 dL_law_589 (by decide) dL_law_590 dL_law_591 h1 ?_
  refine lx_arg (v := 2) F hl hS dL_law_592 dL_law_593 dL_law_594 (by decide) dL_law_595 dL_law_596 h2 ?_
  refine lx_arg (v := 3) F hl hS dL_law_597 dL_law_598 dL_law_599 (by decide) dL_law_600 dL_law_601 h3 ?_
  refine q_cVi (As := [.int (xs (x3 + 1).toNatClampNeg), .int (xs (x3 + 2).toNatClampNeg), .int (xs (x3 + 3).toNatClampNeg)]) (rest := []) ⟨hx, hb, hml, hown, hts⟩ hK (c_X3_ahead l D kc a (xs (x3 + 1).toNatClampNeg) (xs (x3 + 2).toNatClampNeg) (xs (x3 + 3).toNatClampNeg) o H.size _ (L_ahead (lo := lo) I (xs (x3 + 1).toNatClampNeg) (xs (x3 + 2).toNatClampNeg) (xs (x3 + 3).toNatClampNeg))) (cwV 3 hts gL_law_X3_ahead rfl rfl rfl (by decide +kernel) ⟨Nat.le_of_ble_eq_true rfl, Nat.le_of_ble_eq_true rfl⟩) (cut_l (cM kc b0 mo lo) (cLP kc a o) (fun u : S3 => cLP kc a u)) hP hD hS hA 3 0 rfl rfl rfl hl.1 rfl (Nat.le_of_ble_eq_true rfl) dL_law_602 ⟨Nat.le_of_ble_eq_true rfl, Nat.le_of_ble_eq_true rfl⟩ (fun r1 o1 H locs hw hP hD hS => ?_)
  refine lv_aload_n hx hb dL_law_605 rfl (lv_at hl 2 rfl) ?_
  refine lx_arg (v := 1) F hl hS dL_law_606 dL_law_607 dL_law_608 (by decide) dL_law_609 dL_law_610 h1 ?_
  refine lx_arg (v := 2) F hl hS dL_law_611 dL_law_612 dL_law_613 (by decide) dL_law_614 dL_law_615 h2 ?_
  refine lx_arg (v := 3) F hl hS dL_law_616 dL_law_617 dL_law_618 (by decide) dL_law_619 dL_law_620 h3 ?_
  refine q_cVi (As := [.int (xs (x3 + 1).toNatClampNeg), .int (xs (x3 + 2).toNatClampNeg), .int (xs (x3 + 3).toNatClampNeg)]) (rest := [.int r1]) ⟨hx, hb, hml, hown, hts⟩ hK (c_X4_ahead l D kc b0 (xs (x3 + 1).toNatClampNeg) (xs (x3 + 2).toNatClampNeg) (xs (x3 + 3).toNatClampNeg) mo lo H.size _ hw) (cwV 3 hts gL_law_X4_ahead rfl rfl rfl (by decide +kernel) ⟨Nat.le_of_ble_eq_true rfl, Nat.le_of_ble_eq_true rfl⟩) (cut_r (cLP kc a o1) (cM kc b0 mo lo) (fun u : S2 × SL => cM kc b0 u.1 u.2)) hP hD hS hA 4 0 rfl rfl rfl hl.1 rfl (Nat.le_of_ble_eq_true rfl) dL_law_621 ⟨Nat.le_of_ble_eq_true rfl, Nat.le_of_ble_eq_true rfl⟩ (fun r2 u2 H locs hw hP hD hS => ?_)
  obtain ⟨er, I2⟩ := hw
  exact lv_icmp_eq (tgt := 1424) hx hb dL_law_624 (by decide) (fun _ => K o1 u2.1 u2.2 H locs I2 hP hD hS) (fun cn => absurd er cn)
set_option maxHeartbeats 4000000 in
set_option maxRecDepth 100000 in
theorem lc_soonest (F : LF p s m meth c b L xs D kc ad adV fm) (h1 : vp_in (x3 + 1) L) (h2 : vp_in (x3 + 2) L) (h3 : vp_in (x3 + 3) L) (h4 : vp_in (x3 + 4) L) (hl : lv_has ls 4 [(0, .ref b), (1, .ref (a 0 0)), (2, .ref (b0 0)), (3, .int x3)]) {o : S3} {mo : S2} {lo : SL} (I : IV o mo) (hP : va_P D vwCl (cLP kc a o ++ cM kc b0 mo lo) H) (hD : va_D (LA s) (cLP kc a o ++ cM kc b0 mo lo)) (hS : va_S (LA s) s.heap H locs) (K : LK p l e s m b below meth c Q D kc a b0 ls) : LW p l e s m b below meth c Q H locs (F0 m 629 ls []) := by
  have F0 := F
  obtain ⟨hx, hb, hml, hown, hts, hX, hbl, hK, hQ⟩ := F0
  obtain ⟨P0, I⟩ := I
  have hA : ∀ q, s.heap.size ≤ q → LA s q := fun _ h => h
  refine lv_aload_n hx hb dL_law_629 rfl (lv_at hl 1 rfl) ?_
  refine lx_arg (v := 1) F hl hS dL_law_630 dL_law_631 dL_law_632 (by decide) dL_law_633 dL_law_634 h1 ?_
  refine q_cVi (As := [.int (xs (x3 + 1).toNatClampNeg)]) (rest := []) ⟨hx, hb, hml, hown, hts⟩ hK (c_X3_soonest l D kc a (xs (x3 + 1).toNatClampNeg) o H.size _ (L_soonest (lo := lo) I (xs (x3 + 1).toNatClampNeg))) (cwV 1 hts gL_law_X3_soonest rfl rfl rfl (by decide +kernel) ⟨Nat.le_of_ble_eq_true rfl, Nat.le_of_ble_eq_true rfl⟩) (cut_l (cM kc b0 mo lo) (cLP kc a o) (fun u : S3 => cLP kc a u)) hP hD hS hA 3 0 rfl rfl rfl hl.1 rfl (Nat.le_of_ble_eq_true rfl) dL_law_635 ⟨Nat.le_of_ble_eq_true rfl, Nat.le_of_ble_eq_true rfl⟩ (fun r1 o1 H locs hw hP hD hS => ?_)
  refine lv_aload_n hx hb dL_law_638 rfl (lv_at hl 2 rfl) ?_
  refine lx_arg (v := 1) F hl hS dL_law_639 dL_law_640 dL_law_641 (by decide) dL_law_642 dL_law_643 h1 ?_
  refine q_cVi (As := [.int (xs (x3 + 1).toNatClampNeg)]) (rest := [.int r1]) ⟨hx, hb, hml, hown, hts⟩ hK (c_X4_soonest l D kc b0 (xs (x3 + 1).toNatClampNeg) mo lo H.size _ hw) (cwV 1 hts gL_law_X4_soonest rfl rfl rfl (by decide +kernel) ⟨Nat.le_of_ble_eq_true rfl, Nat.le_of_ble_eq_true rfl⟩) (cut_r (cLP kc a o1) (cM kc b0 mo lo) (fun u : S2 × SL => cM kc b0 u.1 u.2)) hP hD hS hA 4 0 rfl rfl rfl hl.1 rfl (Nat.le_of_ble_eq_true rfl) dL_law_644 ⟨Nat.le_of_ble_eq_true rfl, Nat.le_of_ble_eq_true rfl⟩ (fun r2 u2 H locs hw hP hD hS => ?_)
  obtain ⟨er, I2⟩ := hw
  exact lv_icmp_eq (tgt := 1424) hx hb dL_law_647 (by decide) (fun _ => K o1 u2.1 u2.2 H locs I2 hP hD hS) (fun cn => absurd er cn)
set_option maxHeartbeats 4000000 in
set_option maxRecDepth 100000 in
theorem lc_share (F : LF p s m meth c b L xs D kc ad adV fm) (h1 : vp_in (x3 + 1) L) (h2 : vp_in (x3 + 2) L) (h3 : vp_in (x3 + 3) L) (h4 : vp_in (x3 + 4) L) (hl : lv_has ls 4 [(0, .ref b), (1, .ref (a 0 0)), (2, .ref (b0 0)), (3, .int x3)]) {o : S3} {mo : S2} {lo : SL} (I : IV o mo) (hP : va_P D vwCl (cLP kc a o ++ cM kc b0 mo lo) H) (hD : va_D (LA s) (cLP kc a o ++ cM kc b0 mo lo)) (hS : va_S (LA s) s.heap H locs) (K : LK p l e s m b below meth c Q D kc a b0 ls) : LW p l e s m b below meth c Q H locs (F0 m 652 ls []) := by
  have F0 := F
  obtain ⟨hx, hb, hml, hown, hts, hX, hbl, hK, hQ⟩ := F0
  obtain ⟨P0, I⟩ := I
  have hA : ∀ q, s.heap.size ≤ q → LA s q := fun _ h => h
  refine lv_aload_n hx hb dL_law_652 rfl (lv_at hl 1 rfl) ?_
  refine lx_arg (v := 1) F hl hS dL_law_653 dL_law_654 dL_law_655 (by decide) dL_law_656 dL_law_657 h1 ?_
  refine lx_arg (v := 2) F hl hS dL_law_658 dL_law_659 dL_law_660 (by decide) dL_law_661 dL_law_662 h2 ?_
  refine lx_arg (v := 3) F hl hS dL_law_663 dL_law_664 dL_law_665 (by decide) dL_law_666 dL_law_667 h3 ?_
  refine q_cVl (As := [.int (xs (x3 + 1).toNatClampNeg), .int (xs (x3 + 2).toNatClampNeg), .int (xs (x3 + 3).toNatClampNeg)]) (rest := []) ⟨hx, hb, hml, hown, hts⟩ hK (c_X3_share l D kc a (xs (x3 + 1).toNatClampNeg) (xs (x3 + 2).toNatClampNeg) (xs (x3 + 3).toNatClampNeg) o H.size _ (L_share (lo := lo) I (xs (x3 + 1).toNatClampNeg) (xs (x3 + 2).toNatClampNeg) (xs (x3 + 3).toNatClampNeg))) (cwV 3 hts gL_law_X3_share rfl rfl rfl (by decide +kernel) ⟨Nat.le_of_ble_eq_true rfl, Nat.le_of_ble_eq_true rfl⟩) (cut_l (cM kc b0 mo lo) (cLP kc a o) (fun u : S3 => cLP kc a u)) hP hD hS hA 3 0 rfl rfl rfl hl.1 rfl (Nat.le_of_ble_eq_true rfl) dL_law_668 ⟨Nat.le_of_ble_eq_true rfl, Nat.le_of_ble_eq_true rfl⟩ (fun r1 o1 H locs hw hP hD hS => ?_)
  refine lv_aload_n hx hb dL_law_671 rfl (lv_at hl 2 rfl) ?_
  refine lx_arg (v := 1) F hl hS dL_law_672 dL_law_673 dL_law_674 (by decide) dL_law_675 dL_law_676 h1 ?_
  refine lx_arg (v := 2) F hl hS dL_law_677 dL_law_678 dL_law_679 (by decide) dL_law_680 dL_law_681 h2 ?_
  refine lx_arg (v := 3) F hl hS dL_law_682 dL_law_683 dL_law_684 (by decide) dL_law_685 dL_law_686 h3 ?_
  refine q_cVl (As := [.int (xs (x3 + 1).toNatClampNeg), .int (xs (x3 + 2).toNatClampNeg), .int (xs (x3 + 3).toNatClampNeg)]) (rest := [.long r1]) ⟨hx, hb, hml, hown, hts⟩ hK (c_X4_share l D kc b0 (xs (x3 + 1).toNatClampNeg) (xs (x3 + 2).toNatClampNeg) (xs (x3 + 3).toNatClampNeg) mo lo H.size _ hw) (cwV 3 hts gL_law_X4_share rfl rfl rfl (by decide +kernel) ⟨Nat.le_of_ble_eq_true rfl, Nat.le_of_ble_eq_true rfl⟩) (cut_r (cLP kc a o1) (cM kc b0 mo lo) (fun u : S2 × SL => cM kc b0 u.1 u.2)) hP hD hS hA 4 0 rfl rfl rfl hl.1 rfl (Nat.le_of_ble_eq_true rfl) dL_law_687 ⟨Nat.le_of_ble_eq_true rfl, Nat.le_of_ble_eq_true rfl⟩ (fun r2 u2 H locs hw hP hD hS => ?_)
  obtain ⟨er, I2⟩ := hw
  refine W.lcmp hx hb dL_law_690 ?_
  exact lv_if_eq (tgt := 1424) hx hb dL_law_691 (by decide) (fun _ => K o1 u2.1 u2.2 H locs I2 hP hD hS) (fun cn => absurd ((lg_cmp_eq r1 r2).mpr er) cn)
set_option maxHeartbeats 4000000 in
set_option maxRecDepth 100000 in
theorem lc_round (F : LF p s m meth c b L xs D kc ad adV fm) (h1 : vp_in (x3 + 1) L) (h2 : vp_in (x3 + 2) L) (h3 : vp_in (x3 + 3) L) (h4 : vp_in (x3 + 4) L) (hl : lv_has ls 4 [(0, .ref b), (1, .ref (a 0 0)), (2, .ref (b0 0)), (3, .int x3)]) {o : S3} {mo : S2} {lo : SL} (I : IV o mo) (hP : va_P D vwCl (cLP kc a o ++ cM kc b0 mo lo) H) (hD : va_D (LA s) (cLP kc a o ++ cM kc b0 mo lo)) (hS : va_S (LA s) s.heap H locs) (K : LK p l e s m b below meth c Q D kc a b0 ls) : LW p l e s m b below meth c Q H locs (F0 m 696 ls []) := by
  have F0 := F
  obtain ⟨hx, hb, hml, hown, hts, hX, hbl, hK, hQ⟩ := F0
  obtain ⟨P0, I⟩ := I
  have hA : ∀ q, s.heap.size ≤ q → LA s q := fun _ h => h
  refine lv_aload_n hx hb dL_law_696 rfl (lv_at hl 1 rfl) ?_
  refine q_cVi (As := []) (rest := []) ⟨hx, hb, hml, hown, hts⟩ hK (c_X3_round l D kc a o H.size _ (L_round (lo := lo) I)) (cwV 0 hts gL_law_X3_round rfl rfl rfl (by decide +kernel) ⟨Nat.le_of_ble_eq_true rfl, Nat.le_of_ble_eq_true rfl⟩) (cut_l (cM kc b0 mo lo) (cLP kc a o) (fun u : S3 => cLP kc a u)) hP hD hS hA 3 0 rfl rfl rfl hl.1 rfl (Nat.le_of_ble_eq_true rfl) dL_law_697 ⟨Nat.le_of_ble_eq_true rfl, Nat.le_of_ble_eq_true rfl⟩ (fun r1 o1 H locs hw hP hD hS => ?_)
  refine lv_aload_n hx hb dL_law_700 rfl (lv_at hl 2 rfl) ?_
  refine q_cVi (As := []) (rest := [.int r1]) ⟨hx, hb, hml, hown, hts⟩ hK (c_X4_round l D kc b0 mo lo H.size _ hw) (cwV 0 hts gL_law_X4_round rfl rfl rfl (by decide +kernel) ⟨Nat.le_of_ble_eq_true rfl, Nat.le_of_ble_eq_true rfl⟩) (cut_r (cLP kc a o1) (cM kc b0 mo lo) (fun u : S2 × SL => cM kc b0 u.1 u.2)) hP hD hS hA 4 0 rfl rfl rfl hl.1 rfl (Nat.le_of_ble_eq_true rfl) dL_law_701 ⟨Nat.le_of_ble_eq_true rfl, Nat.le_of_ble_eq_true rfl⟩ (fun r2 u2 H locs hw hP hD hS => ?_)
  obtain ⟨er, I2⟩ := hw
  exact lv_icmp_eq (tgt := 1424) hx hb dL_law_704 (by decide) (fun _ => K o1 u2.1 u2.2 H locs I2 hP hD hS) (fun cn => absurd er cn)
set_option maxHeartbeats 4000000 in
set_option maxRecDepth 100000 in
theorem lc_trade (F : LF p s m meth c b L xs D kc ad adV fm) (h1 : vp_in (x3 + 1) L) (h2 : vp_in (x3 + 2) L) (h3 : vp_in (x3 + 3) L) (h4 : vp_in (x3 + 4) L) (hl : lv_has ls 4 [(0, .ref b), (1, .ref (a 0 0)), (2, .ref (b0 0)), (3, .int x3)]) {o : S3} {mo : S2} {lo : SL} (I : IV o mo) (hP : va_P D vwCl (cLP kc a o ++ cM kc b0 mo lo) H) (hD : va_D (LA s) (cLP kc a o ++ cM kc b0 mo lo)) (hS : va_S (LA s) s.heap H locs) (K : LK p l e s m b below meth c Q D kc a b0 ls) : LW p l e s m b below meth c Q H locs (F0 m 709 ls []) := by
  have F0 := F
  obtain ⟨hx, hb, hml, hown, hts, hX, hbl, hK, hQ⟩ := F0
  obtain ⟨P0, I⟩ := I
  have hA : ∀ q, s.heap.size ≤ q → LA s q := fun _ h => h
  refine lv_aload_n hx hb dL_law_709 rfl (lv_at hl 1 rfl) ?_
  refine lx_arg (v := 1) F hl hS dL_law_710 dL_law_711 dL_law_712 (by decide) dL_law_713 dL_law_714 h1 ?_
  refine lx_arg (v := 2) F hl hS dL_law_715 dL_law_716 dL_law_717 (by decide) dL_law_718 dL_law_719 h2 ?_
  refine q_cVi (As := [.int (xs (x3 + 1).toNatClampNeg), .int (xs (x3 + 2).toNatClampNeg)]) (rest := []) ⟨hx, hb, hml, hown, hts⟩ hK (c_X3_trade l D kc a (xs (x3 + 1).toNatClampNeg) (xs (x3 + 2).toNatClampNeg) o H.size _ (L_trade (lo := lo) I (xs (x3 + 1).toNatClampNeg) (xs (x3 + 2).toNatClampNeg))) (cwV 2 hts gL_law_X3_trade rfl rfl rfl (by decide +kernel) ⟨Nat.le_of_ble_eq_true rfl, Nat.le_of_ble_eq_true rfl⟩) (cut_l (cM kc b0 mo lo) (cLP kc a o) (fun u : S3 => cLP kc a u)) hP hD hS hA 3 0 rfl rfl rfl hl.1 rfl (Nat.le_of_ble_eq_true rfl) dL_law_720 ⟨Nat.le_of_ble_eq_true rfl, Nat.le_of_ble_eq_true rfl⟩ (fun r1 o1 H locs hw hP hD hS => ?_)
  refine lv_aload_n hx hb dL_law_723 rfl (lv_at hl 2 rfl) ?_
  refine lx_arg (v := 1) F hl hS dL_law_724 dL_law_725 dL_law_726 (by decide) dL_law_727 dL_law_728 h1 ?_
  refine lx_arg (v := 2) F hl hS dL_law_729 dL_law_730 dL_law_731 (by decide) dL_law_732 dL_law_733 h2 ?_
  refine q_cVi (As := [.int (xs (x3 + 1).toNatClampNeg), .int (xs (x3 + 2).toNatClampNeg)]) (rest := [.int r1]) ⟨hx, hb, hml, hown, hts⟩ hK (c_X4_trade l D kc b0 (xs (x3 + 1).toNatClampNeg) (xs (x3 + 2).toNatClampNeg) mo lo H.size _ hw) (cwV 2 hts gL_law_X4_trade rfl rfl rfl (by decide +kernel) ⟨Nat.le_of_ble_eq_true rfl, Nat.le_of_ble_eq_true rfl⟩) (cut_r (cLP kc a o1) (cM kc b0 mo lo) (fun u : S2 × SL => cM kc b0 u.1 u.2)) hP hD hS hA 4 0 rfl rfl rfl hl.1 rfl (Nat.le_of_ble_eq_true rfl) dL_law_734 ⟨Nat.le_of_ble_eq_true rfl, Nat.le_of_ble_eq_true rfl⟩ (fun r2 u2 H locs hw hP hD hS => ?_)
  obtain ⟨er, I2⟩ := hw
  exact lv_icmp_eq (tgt := 1424) hx hb dL_law_737 (by decide) (fun _ => K o1 u2.1 u2.2 H locs I2 hP hD hS) (fun cn => absurd er cn)
set_option maxHeartbeats 4000000 in
set_option maxRecDepth 100000 in
theorem lc_keeper (F : LF p s m meth c b L xs D kc ad adV fm) (h1 : vp_in (x3 + 1) L) (h2 : vp_in (x3 + 2) L) (h3 : vp_in (x3 + 3) L) (h4 : vp_in (x3 + 4) L) (hl : lv_has ls 4 [(0, .ref b), (1, .ref (a 0 0)), (2, .ref (b0 0)), (3, .int x3)]) {o : S3} {mo : S2} {lo : SL} (I : IV o mo) (hP : va_P D vwCl (cLP kc a o ++ cM kc b0 mo lo) H) (hD : va_D (LA s) (cLP kc a o ++ cM kc b0 mo lo)) (hS : va_S (LA s) s.heap H locs) (K : LK p l e s m b below meth c Q D kc a b0 ls) : LW p l e s m b below meth c Q H locs (F0 m 742 ls []) := by
  have F0 := F
  obtain ⟨hx, hb, hml, hown, hts, hX, hbl, hK, hQ⟩ := F0
  obtain ⟨P0, I⟩ := I
  have hA : ∀ q, s.heap.size ≤ q → LA s q := fun _ h => h
  refine lv_aload_n hx hb dL_law_742 rfl (lv_at hl 1 rfl) ?_
  refine lx_arg (v := 1) F hl hS dL_law_743 dL_law_744 dL_law_745 (by decide) dL_law_746 dL_law_747 h1 ?_
  refine lx_arg (v := 2) F hl hS dL_law_748 dL_law_749 dL_law_750 (by decide) dL_law_751 dL_law_752 h2 ?_
  refine q_cVi (As := [.int (xs (x3 + 1).toNatClampNeg), .int (xs (x3 + 2).toNatClampNeg)]) (rest := []) ⟨hx, hb, hml, hown, hts⟩ hK (c_X3_keeper l D kc a (xs (x3 + 1).toNatClampNeg) (xs (x3 + 2).toNatClampNeg) o H.size _ (L_keeper (lo := lo) I (xs (x3 + 1).toNatClampNeg) (xs (x3 + 2).toNatClampNeg))) (cwV 2 hts gL_law_X3_keeper rfl rfl rfl (by decide +kernel) ⟨Nat.le_of_ble_eq_true rfl, Nat.le_of_ble_eq_true rfl⟩) (cut_l (cM kc b0 mo lo) (cLP kc a o) (fun u : S3 => cLP kc a u)) hP hD hS hA 3 0 rfl rfl rfl hl.1 rfl (Nat.le_of_ble_eq_true rfl) dL_law_753 ⟨Nat.le_of_ble_eq_true rfl, Nat.le_of_ble_eq_true rfl⟩ (fun r1 o1 H locs hw hP hD hS => ?_)
  refine lv_aload_n hx hb dL_law_756 rfl (lv_at hl 2 rfl) ?_
  refine lx_arg (v := 1) F hl hS dL_law_757 dL_law_758 dL_law_759 (by decide) dL_law_760 dL_law_761 h1 ?_
  refine lx_arg (v := 2) F hl hS dL_law_762 dL_law_763 dL_law_764 (by decide) dL_law_765 dL_law_766 h2 ?_
  refine q_cVi (As := [.int (xs (x3 + 1).toNatClampNeg), .int (xs (x3 + 2).toNatClampNeg)]) (rest := [.int r1]) ⟨hx, hb, hml, hown, hts⟩ hK (c_X4_keeper l D kc b0 (xs (x3 + 1).toNatClampNeg) (xs (x3 + 2).toNatClampNeg) mo lo H.size _ hw) (cwV 2 hts gL_law_X4_keeper rfl rfl rfl (by decide +kernel) ⟨Nat.le_of_ble_eq_true rfl, Nat.le_of_ble_eq_true rfl⟩) (cut_r (cLP kc a o1) (cM kc b0 mo lo) (fun u : S2 × SL => cM kc b0 u.1 u.2)) hP hD hS hA 4 0 rfl rfl rfl hl.1 rfl (Nat.le_of_ble_eq_true rfl) dL_law_767 ⟨Nat.le_of_ble_eq_true rfl, Nat.le_of_ble_eq_true rfl⟩ (fun r2 u2 H locs hw hP hD hS => ?_)
  obtain ⟨er, I2⟩ := hw
  exact lv_icmp_eq (tgt := 1424) hx hb dL_law_770 (by decide) (fun _ => K o1 u2.1 u2.2 H locs I2 hP hD hS) (fun cn => absurd er cn)
set_option maxHeartbeats 4000000 in
set_option maxRecDepth 100000 in
theorem lc_kind (F : LF p s m meth c b L xs D kc ad adV fm) (h1 : vp_in (x3 + 1) L) (h2 : vp_in (x3 + 2) L) (h3 : vp_in (x3 + 3) L) (h4 : vp_in (x3 + 4) L) (hl : lv_has ls 4 [(0, .ref b), (1, .ref (a 0 0)), (2, .ref (b0 0)), (3, .int x3)]) {o : S3} {mo : S2} {lo : SL} (I : IV o mo) (hP : va_P D vwCl (cLP kc a o ++ cM kc b0 mo lo) H) (hD : va_D (LA s) (cLP kc a o ++ cM kc b0 mo lo)) (hS : va_S (LA s) s.heap H locs) (K : LK p l e s m b below meth c Q D kc a b0 ls) : LW p l e s m b below meth c Q H locs (F0 m 775 ls []) := by
  have F0 := F
  obtain ⟨hx, hb, hml, hown, hts, hX, hbl, hK, hQ⟩ := F0
  obtain ⟨P0, I⟩ := I
  have hA : ∀ q, s.heap.size ≤ q → LA s q := fun _ h => h
  refine lv_aload_n hx hb dL_law_775 rfl (lv_at hl 1 rfl) ?_
  refine lx_arg (v := 1) F hl hS dL_law_776 dL_law_777 dL_law_778 (by decide) dL_law_779 dL_law_780 h1 ?_
  refine lx_arg (v := 2) F hl hS dL_law_781 dL_law_782 dL_law_783 (by decide) dL_law_784 dL_law_785 h2 ?_
  refine lx_arg (v := 3) F hl hS dL_law_786 dL_law_787 dL_law_788 (by decide) dL_law_789 dL_law_790 h3 ?_
  refine q_cVi (As := [.int (xs (x3 + 1).toNatClampNeg), .int (xs (x3 + 2).toNatClampNeg), .int (xs (x3 + 3).toNatClampNeg)]) (rest := []) ⟨hx, hb, hml, hown, hts⟩ hK (c_X3_kind l D kc a (xs (x3 + 1).toNatClampNeg) (xs (x3 + 2).toNatClampNeg) (xs (x3 + 3).toNatClampNeg) o H.size _ (L_kind (lo := lo) I (xs (x3 + 1).toNatClampNeg) (xs (x3 + 2).toNatClampNeg) (xs (x3 + 3).toNatClampNeg))) (cwV 3 hts gL_law_X3_kind rfl rfl rfl (by decide +kernel) ⟨Nat.le_of_ble_eq_true rfl, Nat.le_of_ble_eq_true rfl⟩) (cut_l (cM kc b0 mo lo) (cLP kc a o) (fun u : S3 => cLP kc a u)) hP hD hS hA 3 0 rfl rfl rfl hl.1 rfl (Nat.le_of_ble_eq_true rfl) dL_law_791 ⟨Nat.le_of_ble_eq_true rfl, Nat.le_of_ble_eq_true rfl⟩ (fun r1 o1 H locs hw hP hD hS => ?_)
  refine lv_aload_n hx hb dL_law_794 rfl (lv_at hl 2 rfl) ?_
  refine lx_arg (v := 1) F hl hS dL_law_795 dL_law_796 dL_law_797 (by decide) dL_law_798 dL_law_799 h1 ?_
  refine lx_arg (v := 2) F hl hS dL_law_800 dL_law_801 dL_law_802 (by decide) dL_law_803 dL_law_804 h2 ?_
  refine lx_arg (v := 3) F hl hS dL_law_805 dL_law_806 dL_law_807 (by decide) dL_law_808 dL_law_809 h3 ?_
  refine q_cVi (As := [.int (xs (x3 + 1).toNatClampNeg), .int (xs (x3 + 2).toNatClampNeg), .int (xs (x3 + 3).toNatClampNeg)]) (rest := [.int r1]) ⟨hx, hb, hml, hown, hts⟩ hK (c_X4_kind l D kc b0 (xs (x3 + 1).toNatClampNeg) (xs (x3 + 2).toNatClampNeg) (xs (x3 + 3).toNatClampNeg) mo lo H.size _ hw) (cwV 3 hts gL_law_X4_kind rfl rfl rfl (by decide +kernel) ⟨Nat.le_of_ble_eq_true rfl, Nat.le_of_ble_eq_true rfl⟩) (cut_r (cLP kc a o1) (cM kc b0 mo lo) (fun u : S2 × SL => cM kc b0 u.1 u.2)) hP hD hS hA 4 0 rfl rfl rfl hl.1 rfl (Nat.le_of_ble_eq_true rfl) dL_law_810 ⟨Nat.le_of_ble_eq_true rfl, Nat.le_of_ble_eq_true rfl⟩ (fun r2 u2 H locs hw hP hD hS => ?_)
  obtain ⟨er, I2⟩ := hw
  exact lv_icmp_eq (tgt := 1424) hx hb dL_law_813 (by decide) (fun _ => K o1 u2.1 u2.2 H locs I2 hP hD hS) (fun cn => absurd er cn)
set_option maxHeartbeats 4000000 in
set_option maxRecDepth 100000 in
theorem lc_alms (F : LF p s m meth c b L xs D kc ad adV fm) (h1 : vp_in (x3 + 1) L) (h2 : vp_in (x3 + 2) L) (h3 : vp_in (x3 + 3) L) (h4 : vp_in (x3 + 4) L) (hl : lv_has ls 4 [(0, .ref b), (1, .ref (a 0 0)), (2, .ref (b0 0)), (3, .int x3)]) {o : S3} {mo : S2} {lo : SL} (I : IV o mo) (hP : va_P D vwCl (cLP kc a o ++ cM kc b0 mo lo) H) (hD : va_D (LA s) (cLP kc a o ++ cM kc b0 mo lo)) (hS : va_S (LA s) s.heap H locs) (K : LK p l e s m b below meth c Q D kc a b0 ls) : LW p l e s m b below meth c Q H locs (F0 m 818 ls []) := by
  have F0 := F
  obtain ⟨hx, hb, hml, hown, hts, hX, hbl, hK, hQ⟩ := F0
  obtain ⟨P0, I⟩ := I
  have hA : ∀ q, s.heap.size ≤ q → LA s q := fun _ h => h
  refine lv_aload_n hx hb dL_law_818 rfl (lv_at hl 1 rfl) ?_
  refine lx_arg (v := 1) F hl hS dL_law_819 dL_law_820 dL_law_821 (by decide) dL_law_822 dL_law_823 h1 ?_
  refine lx_arg (v := 2) F hl hS dL_law_824 dL_law_825 dL_law_826 (by decide) dL_law_827 dL_law_828 h2 ?_
  refine q_cVi (As := [.int (xs (x3 + 1).toNatClampNeg), .int (xs (x3 + 2).toNatClampNeg)]) (rest := []) ⟨hx, hb, hml, hown, hts⟩ hK (c_X3_alms l D kc a (xs (x3 + 1).toNatClampNeg) (xs (x3 + 2).toNatClampNeg) o H.size _ (L_alms (lo := lo) I (xs (x3 + 1).toNatClampNeg) (xs (x3 + 2).toNatClampNeg))) (cwV 2 hts gL_law_X3_alms rfl rfl rfl (by decide +kernel) ⟨Nat.le_of_ble_eq_true rfl, Nat.le_of_ble_eq_true rfl⟩) (cut_l (cM kc b0 mo lo) (cLP kc a o) (fun u : S3 => cLP kc a u)) hP hD hS hA 3 0 rfl rfl rfl hl.1 rfl (Nat.le_of_ble_eq_true rfl) dL_law_829 ⟨Nat.le_of_ble_eq_true rfl, Nat.le_of_ble_eq_true rfl⟩ (fun r1 o1 H locs hw hP hD hS => ?_)
  refine lv_aload_n hx hb dL_law_832 rfl (lv_at hl 2 rfl) ?_
  refine lx_arg (v := 1) F hl hS dL_law_833 dL_law_834 dL_law_835 (by decide) dL_law_836 dL_law_837 h1 ?_
  refine lx_arg (v := 2) F hl hS dL_law_838 dL_law_839 dL_law_840 (by decide) dL_law_841 dL_law_842 h2 ?_
  refine q_cVi (As := [.int (xs (x3 + 1).toNatClampNeg), .int (xs (x3 + 2).toNatClampNeg)]) (rest := [.int r1]) ⟨hx, hb, hml, hown, hts⟩ hK (c_X4_alms l D kc b0 (xs (x3 + 1).toNatClampNeg) (xs (x3 + 2).toNatClampNeg) mo lo H.size _ hw) (cwV 2 hts gL_law_X4_alms rfl rfl rfl (by decide +kernel) ⟨Nat.le_of_ble_eq_true rfl, Nat.le_of_ble_eq_true rfl⟩) (cut_r (cLP kc a o1) (cM kc b0 mo lo) (fun u : S2 × SL => cM kc b0 u.1 u.2)) hP hD hS hA 4 0 rfl rfl rfl hl.1 rfl (Nat.le_of_ble_eq_true rfl) dL_law_843 ⟨Nat.le_of_ble_eq_true rfl, Nat.le_of_ble_eq_true rfl⟩ (fun r2 u2 H locs hw hP hD hS => ?_)
  obtain ⟨er, I2⟩ := hw
  exact lv_icmp_eq (tgt := 1424) hx hb dL_law_846 (by decide) (fun _ => K o1 u2.1 u2.2 H locs I2 hP hD hS) (fun cn => absurd er cn)
set_option maxHeartbeats 4000000 in
set_option maxRecDepth 100000 in
theorem lc_help (F : LF p s m meth c b L xs D kc ad adV fm) (h1 : vp_in (x3 + 1) L) (h2 : vp_in (x3 + 2) L) (h3 : vp_in (x3 + 3) L) (h4 : vp_in (x3 + 4) L) (hl : lv_has ls 4 [(0, .ref b), (1, .ref (a 0 0)), (2, .ref (b0 0)), (3, .int x3)]) {o : S3} {mo : S2} {lo : SL} (I : IV o mo) (hP : va_P D vwCl (cLP kc a o ++ cM kc b0 mo lo) H) (hD : va_D (LA s) (cLP kc a o ++ cM kc b0 mo lo)) (hS : va_S (LA s) s.heap H locs) (K : LK p l e s m b below meth c Q D kc a b0 ls) : LW p l e s m b below meth c Q H locs (F0 m 851 ls []) := by
  have F0 := F
  obtain ⟨hx, hb, hml, hown, hts, hX, hbl, hK, hQ⟩ := F0
  obtain ⟨P0, I⟩ := I
  have hA : ∀ q, s.heap.size ≤ q → LA s q := fun _ h => h
  refine lv_aload_n hx hb dL_law_851 rfl (lv_at hl 1 rfl) ?_
  refine lx_arg (v := 1) F hl hS dL_law_852 dL_law_853 dL_law_854 (by decide) dL_law_855 dL_law_856 h1 ?_
  refine lx_arg (v := 2) F hl hS dL_law_857 dL_law_858 dL_law_859 (by decide) dL_law_860 dL_law_861 h2 ?_
  refine q_cVi (As := [.int (xs (x3 + 1).toNatClampNeg), .int (xs (x3 + 2).toNatClampNeg)]) (rest := []) ⟨hx, hb, hml, hown, hts⟩ hK (c_X3_help l D kc a (xs (x3 + 1).toNatClampNeg) (xs (x3 + 2).toNatClampNeg) o H.size _ (L_help (lo := lo) I (xs (x3 + 1).toNatClampNeg) (xs (x3 + 2).toNatClampNeg))) (cwV 2 hts gL_law_X3_help rfl rfl rfl (by decide +kernel) ⟨Nat.le_of_ble_eq_true rfl, Nat.le_of_ble_eq_true rfl⟩) (cut_l (cM kc b0 mo lo) (cLP kc a o) (fun u : S3 => cLP kc a u)) hP hD hS hA 3 0 rfl rfl rfl hl.1 rfl (Nat.le_of_ble_eq_true rfl) dL_law_862 ⟨Nat.le_of_ble_eq_true rfl, Nat.le_of_ble_eq_true rfl⟩ (fun r1 o1 H locs hw hP hD hS => ?_)
  refine lv_aload_n hx hb dL_law_865 rfl (lv_at hl 2 rfl) ?_
  refine lx_arg (v := 1) F hl hS dL_law_866 dL_law_867 dL_law_868 (by decide) dL_law_869 dL_law_870 h1 ?_
  refine lx_arg (v := 2) F hl hS dL_law_871 dL_law_872 dL_law_873 (by decide) dL_law_874 dL_law_875 h2 ?_
  refine q_cVi (As := [.int (xs (x3 + 1).toNatClampNeg), .int (xs (x3 + 2).toNatClampNeg)]) (rest := [.int r1]) ⟨hx, hb, hml, hown, hts⟩ hK (c_X4_help l D kc b0 (xs (x3 + 1).toNatClampNeg) (xs (x3 + 2).toNatClampNeg) mo lo H.size _ hw) (cwV 2 hts gL_law_X4_help rfl rfl rfl (by decide +kernel) ⟨Nat.le_of_ble_eq_true rfl, Nat.le_of_ble_eq_true rfl⟩) (cut_r (cLP kc a o1) (cM kc b0 mo lo) (fun u : S2 × SL => cM kc b0 u.1 u.2)) hP hD hS hA 4 0 rfl rfl rfl hl.1 rfl (Nat.le_of_ble_eq_true rfl) dL_law_876 ⟨Nat.le_of_ble_eq_true rfl, Nat.le_of_ble_eq_true rfl⟩ (fun r2 u2 H locs hw hP hD hS => ?_)
  obtain ⟨er, I2⟩ := hw
  exact lv_icmp_eq (tgt := 1424) hx hb dL_law_879 (by decide) (fun _ => K o1 u2.1 u2.2 H locs I2 hP hD hS) (fun cn => absurd er cn)
set_option maxHeartbeats 4000000 in
set_option maxRecDepth 100000 in
theorem lc_swap (F : LF p s m meth c b L xs D kc ad adV fm) (h1 : vp_in (x3 + 1) L) (h2 : vp_in (x3 + 2) L) (h3 : vp_in (x3 + 3) L) (h4 : vp_in (x3 + 4) L) (hl : lv_has ls 4 [(0, .ref b), (1, .ref (a 0 0)), (2, .ref (b0 0)), (3, .int x3)]) {o : S3} {mo : S2} {lo : SL} (I : IV o mo) (hP : va_P D vwCl (cLP kc a o ++ cM kc b0 mo lo) H) (hD : va_D (LA s) (cLP kc a o ++ cM kc b0 mo lo)) (hS : va_S (LA s) s.heap H locs) (K : LK p l e s m b below meth c Q D kc a b0 ls) : LW p l e s m b below meth c Q H locs (F0 m 884 ls []) := by
  have F0 := F
  obtain ⟨hx, hb, hml, hown, hts, hX, hbl, hK, hQ⟩ := F0
  obtain ⟨P0, I⟩ := I
  have hA : ∀ q, s.heap.size ≤ q → LA s q := fun _ h => h
  refine lv_aload_n hx hb dL_law_884 rfl (lv_at hl 1 rfl) ?_
  refine lx_arg (v := 1) F hl hS dL_law_885 dL_law_886 dL_law_887 (by decide) dL_law_888 dL_law_889 h1 ?_
  refine lx_arg (v := 2) F hl hS dL_law_890 dL_law_891 dL_law_892 (by decide) dL_law_893 dL_law_894 h2 ?_
  refine q_cVi (As := [.int (xs (x3 + 1).toNatClampNeg), .int (xs (x3 + 2).toNatClampNeg)]) (rest := []) ⟨hx, hb, hml, hown, hts⟩ hK (c_X3_swap l D kc a (xs (x3 + 1).toNatClampNeg) (xs (x3 + 2).toNatClampNeg) o H.size _ (L_swap (lo := lo) I (xs (x3 + 1).toNatClampNeg) (xs (x3 + 2).toNatClampNeg))) (cwV 2 hts gL_law_X3_swap rfl rfl rfl (by decide +kernel) ⟨Nat.le_of_ble_eq_true rfl, Nat.le_of_ble_eq_true rfl⟩) (cut_l (cM kc b0 mo lo) (cLP kc a o) (fun u : S3 => cLP kc a u)) hP hD hS hA 3 0 rfl rfl rfl hl.1 rfl (Nat.le_of_ble_eq_true rfl) dL_law_895 ⟨Nat.le_of_ble_eq_true rfl, Nat.le_of_ble_eq_true rfl⟩ (fun r1 o1 H locs hw hP hD hS => ?_)
  refine lv_aload_n hx hb dL_law_898 rfl (lv_at hl 2 rfl) ?_
  refine lx_arg (v := 1) F hl hS dL_law_899 dL_law_900 dL_law_901 (by decide) dL_law_902 dL_law_903 h1 ?_
  refine lx_arg (v := 2) F hl hS dL_law_904 dL_law_905 dL_law_906 (by decide) dL_law_907 dL_law_908 h2 ?_
  refine q_cVi (As := [.int (xs (x3 + 1).toNatClampNeg), .int (xs (x3 + 2).toNatClampNeg)]) (rest := [.int r1]) ⟨hx, hb, hml, hown, hts⟩ hK (c_X4_swap l D kc b0 (xs (x3 + 1).toNatClampNeg) (xs (x3 + 2).toNatClampNeg) mo lo H.size _ hw) (cwV 2 hts gL_law_X4_swap rfl rfl rfl (by decide +kernel) ⟨Nat.le_of_ble_eq_true rfl, Nat.le_of_ble_eq_true rfl⟩) (cut_r (cLP kc a o1) (cM kc b0 mo lo) (fun u : S2 × SL => cM kc b0 u.1 u.2)) hP hD hS hA 4 0 rfl rfl rfl hl.1 rfl (Nat.le_of_ble_eq_true rfl) dL_law_909 ⟨Nat.le_of_ble_eq_true rfl, Nat.le_of_ble_eq_true rfl⟩ (fun r2 u2 H locs hw hP hD hS => ?_)
  obtain ⟨er, I2⟩ := hw
  exact lv_icmp_eq (tgt := 1424) hx hb dL_law_912 (by decide) (fun _ => K o1 u2.1 u2.2 H locs I2 hP hD hS) (fun cn => absurd er cn)
set_option maxHeartbeats 4000000 in
set_option maxRecDepth 100000 in
theorem lc_luck (F : LF p s m meth c b L xs D kc ad adV fm) (h1 : vp_in (x3 + 1) L) (h2 : vp_in (x3 + 2) L) (h3 : vp_in (x3 + 3) L) (h4 : vp_in (x3 + 4) L) (hl : lv_has ls 4 [(0, .ref b), (1, .ref (a 0 0)), (2, .ref (b0 0)), (3, .int x3)]) {o : S3} {mo : S2} {lo : SL} (I : IV o mo) (hP : va_P D vwCl (cLP kc a o ++ cM kc b0 mo lo) H) (hD : va_D (LA s) (cLP kc a o ++ cM kc b0 mo lo)) (hS : va_S (LA s) s.heap H locs) (K : LK p l e s m b below meth c Q D kc a b0 ls) : LW p l e s m b below meth c Q H locs (F0 m 917 ls []) := by
  have F0 := F
  obtain ⟨hx, hb, hml, hown, hts, hX, hbl, hK, hQ⟩ := F0
  obtain ⟨P0, I⟩ := I
  have hA : ∀ q, s.heap.size ≤ q → LA s q := fun _ h => h
  refine lv_aload_n hx hb dL_law_917 rfl (lv_at hl 1 rfl) ?_
  refine lx_arg (v := 1) F hl hS dL_law_918 dL_law_919 dL_law_920 (by decide) dL_law_921 dL_law_922 h1 ?_
  refine lx_arg (v := 2) F hl hS dL_law_923 dL_law_924 dL_law_925 (by decide) dL_law_926 dL_law_927 h2 ?_
  refine lx_arg (v := 3) F hl hS dL_law_928 dL_law_929 dL_law_930 (by decide) dL_law_931 dL_law_932 h3 ?_
  refine lx_arg (v := 4) F hl hS dL_law_933 dL_law_934 dL_law_935 (by decide) dL_law_936 dL_law_937 h4 ?_
  refine q_cVl (As := [.int (xs (x3 + 1).toNatClampNeg), .int (xs (x3 + 2).toNatClampNeg), .int (xs (x3 + 3).toNatClampNeg), .int (xs (x3 + 4).toNatClampNeg)]) (rest := []) ⟨hx, hb, hml, hown, hts⟩ hK (c_X3_luck l D kc a (xs (x3 + 1).toNatClampNeg) (xs (x3 + 2).toNatClampNeg) (xs (x3 + 3).toNatClampNeg) (xs (x3 + 4).toNatClampNeg) o H.size _ (L_luck (lo := lo) I (xs (x3 + 1).toNatClampNeg) (xs (x3 + 2).toNatClampNeg) (xs (x3 + 3).toNatClampNeg) (xs (x3 + 4).toNatClampNeg))) (cwV 4 hts gL_law_X3_luck rfl rfl rfl (by decide +kernel) ⟨Nat.le_of_ble_eq_true rfl, Nat.le_of_ble_eq_true rfl⟩) (cut_l (cM kc b0 mo lo) (cLP kc a o) (fun u : S3 => cLP kc a u)) hP hD hS hA 3 0 rfl rfl rfl hl.1 rfl (Nat.le_of_ble_eq_true rfl) dL_law_938 ⟨Nat.le_of_ble_eq_true rfl, Nat.le_of_ble_eq_true rfl⟩ (fun r1 o1 H locs hw hP hD hS => ?_)
  refine lv_aload_n hx hb dL_law_941 rfl (lv_at hl 2 rfl) ?_
  refine lx_arg (v := 1) F hl hS dL_law_942 dL_law_943 dL_law_944 (by decide) dL_law_945 dL_law_946 h1 ?_
  refine lx_arg (v := 2) F hl hS dL_law_947 dL_law_948 dL_law_949 (by decide) dL_law_950 dL_law_951 h2 ?_
  refine lx_arg (v := 3) F hl hS dL_law_952 dL_law_953 dL_law_954 (by decide) dL_law_955 dL_law_956 h3 ?_
  refine lx_arg (v := 4) F hl hS dL_law_957 dL_law_958 dL_law_959 (by decide) dL_law_960 dL_law_961 h4 ?_
  refine q_cVl (As := [.int (xs (x3 + 1).toNatClampNeg), .int (xs (x3 + 2).toNatClampNeg), .int (xs (x3 + 3).toNatClampNeg), .int (xs (x3 + 4).toNatClampNeg)]) (rest := [.long r1]) ⟨hx, hb, hml, hown, hts⟩ hK (c_X4_luck l D kc b0 (xs (x3 + 1).toNatClampNeg) (xs (x3 + 2).toNatClampNeg) (xs (x3 + 3).toNatClampNeg) (xs (x3 + 4).toNatClampNeg) mo lo H.size _ hw) (cwV 4 hts gL_law_X4_luck rfl rfl rfl (by decide +kernel) ⟨Nat.le_of_ble_eq_true rfl, Nat.le_of_ble_eq_true rfl⟩) (cut_r (cLP kc a o1) (cM kc b0 mo lo) (fun u : S2 × SL => cM kc b0 u.1 u.2)) hP hD hS hA 4 0 rfl rfl rfl hl.1 rfl (Nat.le_of_ble_eq_true rfl) dL_law_962 ⟨Nat.le_of_ble_eq_true rfl, Nat.le_of_ble_eq_true rfl⟩ (fun r2 u2 H locs hw hP hD hS => ?_)
  obtain ⟨er, I2⟩ := hw
  refine W.lcmp hx hb dL_law_965 ?_
  exact lv_if_eq (tgt := 1424) hx hb dL_law_966 (by decide) (fun _ => K o1 u2.1 u2.2 H locs I2 hP hD hS) (fun cn => absurd ((lg_cmp_eq r1 r2).mpr er) cn)
set_option maxHeartbeats 4000000 in
set_option maxRecDepth 100000 in
theorem lc_mean (F : LF p s m meth c b L xs D kc ad adV fm) (h1 : vp_in (x3 + 1) L) (h2 : vp_in (x3 + 2) L) (h3 : vp_in (x3 + 3) L) (h4 : vp_in (x3 + 4) L) (hl : lv_has ls 4 [(0, .ref b), (1, .ref (a 0 0)), (2, .ref (b0 0)), (3, .int x3)]) {o : S3} {mo : S2} {lo : SL} (I : IV o mo) (hP : va_P D vwCl (cLP kc a o ++ cM kc b0 mo lo) H) (hD : va_D (LA s) (cLP kc a o ++ cM kc b0 mo lo)) (hS : va_S (LA s) s.heap H locs) (K : LK p l e s m b below meth c Q D kc a b0 ls) : LW p l e s m b below meth c Q H locs (F0 m 971 ls []) := by
  have F0 := F
  obtain ⟨hx, hb, hml, hown, hts, hX, hbl, hK, hQ⟩ := F0
  obtain ⟨P0, I⟩ := I
  have hA : ∀ q, s.heap.size ≤ q → LA s q := fun _ h => h
  refine lv_aload_n hx hb dL_law_971 rfl (lv_at hl 1 rfl) ?_
  refine lx_arg (v := 1) F hl hS dL_law_972 dL_law_973 dL_law_974 (by decide) dL_law_975 dL_law_976 h1 ?_
  refine lx_arg (v := 2) F hl hS dL_law_977 dL_law_978 dL_law_979 (by decide) dL_law_980 dL_law_981 h2 ?_
  refine lx_arg (v := 3) F hl hS dL_law_982 dL_law_983 dL_law_984 (by decide) dL_law_985 dL_law_986 h3 ?_
  refine lx_arg (v := 4) F hl hS dL_law_987 dL_law_988 dL_law_989 (by decide) dL_law_990 dL_law_991 h4 ?_
  refine q_cVl (As := [.int (xs (x3 + 1).toNatClampNeg), .int (xs (x3 + 2).toNatClampNeg), .int (xs (x3 + 3).toNatClampNeg), .int (xs (x3 + 4).toNatClampNeg)]) (rest := []) ⟨hx, hb, hml, hown, hts⟩ hK (c_X3_mean l D kc a (xs (x3 + 1).toNatClampNeg) (xs (x3 + 2).toNatClampNeg) (xs (x3 + 3).toNatClampNeg) (xs (x3 + 4).toNatClampNeg) o H.size _ (L_mean (lo := lo) I (xs (x3 + 1).toNatClampNeg) (xs (x3 + 2).toNatClampNeg) (xs (x3 + 3).toNatClampNeg) (xs (x3 + 4).toNatClampNeg))) (cwV 4 hts gL_law_X3_mean rfl rfl rfl (by decide +kernel) ⟨Nat.le_of_ble_eq_true rfl, Nat.le_of_ble_eq_true rfl⟩) (cut_l (cM kc b0 mo lo) (cLP kc a o) (fun u : S3 => cLP kc a u)) hP hD hS hA 3 0 rfl rfl rfl hl.1 rfl (Nat.le_of_ble_eq_true rfl) dL_law_992 ⟨Nat.le_of_ble_eq_true rfl, Nat.le_of_ble_eq_true rfl⟩ (fun r1 o1 H locs hw hP hD hS => ?_)
  refine lv_aload_n hx hb dL_law_995 rfl (lv_at hl 2 rfl) ?_
  refine lx_arg (v := 1) F hl hS dL_law_996 dL_law_997 dL_law_998 (by decide) dL_law_999 dL_law_1000 h1 ?_
  refine lx_arg (v := 2) F hl hS dL_law_1001 dL_law_1002 dL_law_1003 (by decide) dL_law_1004 dL_law_1005 h2 ?_
  refine lx_arg (v := 3) F hl hS dL_law_1006 dL_law_1007 dL_law_1008 (by decide) dL_law_1009 dL_law_1010 h3 ?_
  refine lx_arg (v := 4) F hl hS dL_law_1011 dL_law_1012 dL_law_1013 (by decide) dL_law_1014 dL_law_1015 h4 ?_
  refine q_cVl (As := [.int (xs (x3 + 1).toNatClampNeg), .int (xs (x3 + 2).toNatClampNeg), .int (xs (x3 + 3).toNatClampNeg), .int (xs (x3 + 4).toNatClampNeg)]) (rest := [.long r1]) ⟨hx, hb, hml, hown, hts⟩ hK (c_X4_mean l D kc b0 (xs (x3 + 1).toNatClampNeg) (xs (x3 + 2).toNatClampNeg) (xs (x3 + 3).toNatClampNeg) (xs (x3 + 4).toNatClampNeg) mo lo H.size _ hw) (cwV 4 hts gL_law_X4_mean rfl rfl rfl (by decide +kernel) ⟨Nat.le_of_ble_eq_true rfl, Nat.le_of_ble_eq_true rfl⟩) (cut_r (cLP kc a o1) (cM kc b0 mo lo) (fun u : S2 × SL => cM kc b0 u.1 u.2)) hP hD hS hA 4 0 rfl rfl rfl hl.1 rfl (Nat.le_of_ble_eq_true rfl) dL_law_1016 ⟨Nat.le_of_ble_eq_true rfl, Nat.le_of_ble_eq_true rfl⟩ (fun r2 u2 H locs hw hP hD hS => ?_)
  obtain ⟨er, I2⟩ := hw
  refine W.lcmp hx hb dL_law_1019 ?_
  exact lv_if_eq (tgt := 1424) hx hb dL_law_1020 (by decide) (fun _ => K o1 u2.1 u2.2 H locs I2 hP hD hS) (fun cn => absurd ((lg_cmp_eq r1 r2).mpr er) cn)
end LAW
