/-! THE LAW: its start -/
theorem law_ar {s : State} {args : Array Value} {ty : FieldType} (h : (Cond.arrayClass ty).before args s = true) : ∃ cA : ClassId, ArrOfT s cA ty ∧ s.vm.findClass ("[" ++ ty.toString) = some cA := by
  obtain ⟨cA, kA, comp, h1, h2, h3⟩ := Cond.arrayClass_spec h
  exact ⟨cA, fun n z => ⟨fun k h => (by cases h), kA, h2, comp, h3⟩, h1⟩
theorem law_aq {s : State} {C : String} (h : va_AO C s) : ∃ cA : ClassId, ArrOfT s cA (.object C) ∧ va_RA s cA (.object C) := by
  obtain ⟨comp, c, k, h1, h2, h3, h4, h5⟩ := Cond.arrayOver_spec h
  exact ⟨c, fun n z => ⟨fun k h => (by cases h), k, h3, comp, h4⟩, k, comp, h3, h4, h1, h5⟩
set_option maxRecDepth 100000 in
set_option maxHeartbeats 4000000 in
theorem law_K {s : State} {b : Nat} (hts : ∀ w ∈ lw_tbl, w.before #[Value.ref b] s = true) : ∃ (D : va_G) (kc : Nat → ClassId), qK D kc s ∧ va_AO RX2 s ∧ va_AO RX0 s := by
  obtain ⟨c0, i0, k0⟩ := u_known (C := RX0) (T := TX0) (N := 3) (n := 3) hts mx_0 (hts (.instantiable RX0 3) (List.mem_of_getElem? (i := 187) (by decide +kernel)))
  obtain ⟨c1, i1, k1⟩ := u_known (C := RX1) (T := TX1) (N := 9) (n := 9) hts mx_1 (hts (.instantiable RX1 9) (List.mem_of_getElem? (i := 85) (by decide +kernel)))
  obtain ⟨c2, i2, k2⟩ := u_known (C := RX2) (T := TX2) (N := 13) (n := 13) hts mx_2 (hts (.instantiable RX2 13) (List.mem_of_getElem? (i := 123) (by decide +kernel)))
  obtain ⟨c3, i3, k3⟩ := u_known (C := RX3) (T := TX3) (N := 10) (n := 10) hts mx_3 (hts (.instantiable RX3 10) (List.mem_of_getElem? (i := 77) (by decide +kernel)))
  obtain ⟨c4, i4, k4⟩ := u_known (C := RX4) (T := TX4) (N := 29) (n := 29) hts mx_4 (hts (.instantiable RX4 29) (List.mem_of_getElem? (i := 719) (by decide +kernel)))
  obtain ⟨a0, t0, r0⟩ := law_ar (hts (.arrayClass .int) (List.mem_of_getElem? (i := 183) (by decide +kernel)))
  obtain ⟨a1, t1, r1⟩ := law_ar (hts (.arrayClass .byte) (List.mem_of_getElem? (i := 121) (by decide +kernel)))
  obtain ⟨a2, t2, r2⟩ := law_ar (hts (.arrayClass .boolean) (List.mem_of_getElem? (i := 205) (by decide +kernel)))
  have o2 : va_AO RX2 s := va_AO.of (hts (.arrayOver (.object RX2)) (List.mem_of_getElem? (i := 184) (by decide +kernel)))
  have o0 : va_AO RX0 s := va_AO.of (hts (.arrayOver (.object RX0)) (List.mem_of_getElem? (i := 186) (by decide +kernel)))
  obtain ⟨a3, t3, r3⟩ := law_aq o2
  obtain ⟨a4, t4, r4⟩ := law_aq o0
  refine ⟨(fun k => ([c0, c1, c2, c3, c4] : List ClassId).getD k c0, fun k => ([i0, i1, i2, i3, i4] : List (Nat → Nat)).getD k i0), fun k => ([a0, a1, a2, a3, a4] : List ClassId).getD k a0, ⟨⟨?_, ?_⟩, ?_⟩, o2, o0⟩
  · intro k q hq
    match k, hq with
    | 0, hq => cases hq; exact k0
    | 1, hq => cases hq; exact k1
    | 2, hq => cases hq; exact k2
    | 3, hq => cases hq; exact k3
    | 4, hq => cases hq; exact k4
    | k + 5, hq => exact absurd hq (by simp [vwCl])
  · intro k q hq
    match k, hq with
    | 0, hq => cases hq; exact ⟨t0, r0⟩
    | 1, hq => cases hq; exact ⟨t1, r1⟩
    | 2, hq => cases hq; exact ⟨t2, r2⟩
    | 3, hq => cases hq; exact ⟨t3, r3⟩
    | 4, hq => cases hq; exact ⟨t4, r4⟩
    | k + 5, hq => exact absurd hq (by simp [qTy])
  · exact ⟨va_Nw.of rfl (hts (.methodLinkNest RX2 58 yX3_within RX3) (List.mem_of_getElem? (i := 391) (by decide +kernel))), va_Nw.of rfl (hts (.methodLinkNest RX2 111 yX3_bounded RX3) (List.mem_of_getElem? (i := 491) (by decide +kernel))), va_Nw.of rfl (hts (.methodLinkNest RX1 105 yX3_within RX3) (List.mem_of_getElem? (i := 358) (by decide +kernel))), va_Nw.of rfl (hts (.methodLinkNest RX0 22 yX3_within RX3) (List.mem_of_getElem? (i := 687) (by decide +kernel))), va_Nw.of rfl (hts (.methodLinkNest RX3 18 yX2_init RX3) (List.mem_of_getElem? (i := 124) (by decide +kernel))), va_Nw.of rfl (hts (.methodLinkNest RX3 50 yX0_init RX3) (List.mem_of_getElem? (i := 188) (by decide +kernel))), va_Nw.of rfl (hts (.methodLinkNest RX3 9 yX1_init RX3) (List.mem_of_getElem? (i := 86) (by decide +kernel)))⟩
set_option maxRecDepth 100000 in
theorem law_x1 : ∀ i, i < 7 → Cond.exactly (.string RX1 (tIx.getD i 0)) "java/lang/String" ∈ flatC (Jvm.Cond.and given_1 narrow_1) := by decide +kernel
set_option maxRecDepth 100000 in
theorem law_x2 : ∀ i, i < 7 → Cond.eq (.field (.string RX1 (tIx.getD i 0)) "java/lang/String" "coder" "B") (.int 0) ∈ flatC (Jvm.Cond.and given_1 narrow_1) := by decide +kernel
set_option maxRecDepth 100000 in
theorem law_x3 : ∀ i, i < 7 → Cond.arrayOf (.field (.string RX1 (tIx.getD i 0)) "java/lang/String" "value" "[B") .byte ∈ flatC (Jvm.Cond.and given_1 narrow_1) := by decide +kernel
set_option maxRecDepth 100000 in
theorem law_x4 : ∀ i, i < 7 → Cond.eq (.length (.field (.string RX1 (tIx.getD i 0)) "java/lang/String" "value" "[B")) (.int (Int32.ofNat (tLen.getD i 0))) ∈ flatC (Jvm.Cond.and given_1 narrow_1) := by decide +kernel
set_option maxRecDepth 100000 in
theorem law_x5 : ∀ i, i < 7 → ∀ j, j < tLen.getD i 0 → Cond.eq (.elem (.field (.string RX1 (tIx.getD i 0)) "java/lang/String" "value" "[B") (.int (Int32.ofNat j))) (.int ((tByt.getD i []).getD j 0)) ∈ flatC (Jvm.Cond.and given_1 narrow_1) := by decide +kernel
set_option maxRecDepth 100000 in
theorem law_x6 : ∀ i, i < 7 → ∀ j, j < 7 → i ≠ j → (Cond.not (Cond.eq (.string RX1 (tIx.getD i 0)) (.string RX1 (tIx.getD j 0))) ∈ flatC (Jvm.Cond.and given_1 narrow_1) ∨ Cond.not (Cond.eq (.string RX1 (tIx.getD j 0)) (.string RX1 (tIx.getD i 0))) ∈ flatC (Jvm.Cond.and given_1 narrow_1)) := by decide +kernel
set_option maxRecDepth 100000 in
theorem law_x7 : ∀ i, i < 7 → lw_tbl[287 + i]? = some (Cond.stringRef RX1 (tIx.getD i 0) (tTx.getD i "")) := by decide +kernel
set_option maxRecDepth 100000 in
set_option maxHeartbeats 4000000 in
theorem law_X {s : State} {b : Nat} (hts : ∀ w ∈ lw_tbl, w.before #[Value.ref b] s = true) (hgv : (Jvm.Cond.and given_1 narrow_1).before #[Value.ref b] s = true) : ∃ (ad adV : Nat → Nat) (fm : Value), qX ad adV fm (LA s) s s.heap := by
  have hs := flat_of_before _ hgv
  have hA : ∀ a : Nat, a < s.heap.size → ¬ LA s a := fun a h => Nat.not_le.mpr h
  obtain ⟨ad, adV, h1, h2⟩ := vk_Sof (args := #[Value.ref b]) (s := s) (N := 7) (tm := fun i => .string RX1 (tIx.getD i 0)) (len := tLen) (byt := tByt) (A := LA s) (by decide) (fun i hi => hs _ (law_x1 i hi)) (fun i hi => hs _ (law_x2 i hi)) (fun i hi => hs _ (law_x3 i hi)) (fun i hi => hs _ (law_x4 i hi)) (fun i hi j hj => hs _ (law_x5 i hi j hj)) (fun i j hi hj hij => (law_x6 i hi j hj hij).imp (fun h => hs _ h) (fun h => hs _ h)) hA
  have z1 : va_Z "java/lang/String" "COMPACT_STRINGS" "Z" (.int 1) (LA s) s s.heap := va_Zof (hts (.laysStatic "java/lang/String" "COMPACT_STRINGS" "Z") (List.mem_of_getElem? (i := 307) (by decide +kernel))) (hts (.initialized "java/lang/String") (List.mem_of_getElem? (i := 69) (by decide +kernel))) (va_eqt (hs (.eq (.static "java/lang/String" "COMPACT_STRINGS" "Z") (.int 1)) (by decide +kernel))) hA
  have zq := va_Zqof (A := LA s) (hts (.laysStatic "jdk/internal/util/Preconditions" "SIOOBE_FORMATTER" "Ljava/util/function/BiFunction;") (List.mem_of_getElem? (i := 323) (by decide +kernel))) (hts (.initialized "jdk/internal/util/Preconditions") (List.mem_of_getElem? (i := 71) (by decide +kernel))) (hs (.isRef (.static "jdk/internal/util/Preconditions" "SIOOBE_FORMATTER" "Ljava/util/function/BiFunction;")) (by decide +kernel)) hA
  have hR : ∀ i, i < 7 → vk_R RX1 (tIx.getD i 0) (tTx.getD i "") (ad i) s := fun i hi => vk_R.of (hts _ (List.mem_of_getElem? (law_x7 i hi))) (h2 i hi)
  rcases zq with z | ⟨t, z⟩
  · exact ⟨ad, adV, .null, h1, z1, z, hR, Or.inl rfl⟩
  · exact ⟨ad, adV, .ref t, h1, z1, z, hR, Or.inr ⟨t, rfl⟩⟩
theorem law_cmp {i L : Nat} (hL : L ≤ 320) (hi : i ≤ L) (h : ¬ (Int32.ofNat L - 5 < nI i)) : i + 5 ≤ L := by
  by_cases h5 : 5 ≤ L
  · obtain ⟨k, rfl⟩ : ∃ k, L = k + 5 := ⟨L - 5, by omega⟩
    have e : Int32.ofNat (k + 5) - 5 = nI k := by
      show nI (k + 5) - 5 = nI k
      rw [← nI_add]
      exact Int32.add_sub_cancel _ _
    rw [e, nI_ltI (by omega) (by omega)] at h
    omega
  · exfalso
    apply h
    have hz : ∀ L, L < 5 → (Int32.ofNat L - 5).toInt < 0 := by decide
    have := hz L (by omega)
    rw [Int32.lt_iff_toInt_lt, nI_toInt (by omega)]
    omega
