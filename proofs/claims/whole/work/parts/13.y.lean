abbrev rm_X4_init : Room := { frames := 1, cells := 12, slots := 803, locals := 21 }
/-! THE CLAIM OUT OF ONE WALK OF THE LAW (the kit's skeleton, and our own walk) -/
/-! THE CLAIM OUT OF ONE WALK OF THE LAW'S BODY. Your part is whole_start (and what it stands on); all else here is the same for every law, but numbers. -/
def R_law : String := "LastPennyLaw"
def lw_P (b : Addr) (xs : List Int32) (args : Array Value) (s : State) : Prop := args = #[.ref b] ∧ s.IntsAt b xs ∧ xs.length ≤ 320 ∧ (Jvm.Cond.and given_1 narrow_1).before args s = true
def lw_Q (_ : Array Value) (s : State) (o : Outcome) (t : State) : Prop := o = .returned (some (.int 1)) ∧ Framed s o t [] 600000 7302250
def lw_Z (below : List Frame) (a : Array Value) (s : State) : State → Prop := fun t => ∃ o, t.status = .running ∧ Ended t below o ∧ lw_Q a s o t
/-- the law's own end, with 1 on the stack, nothing written that was there before, its room as the claim has it -/
theorem lw_ret {p : Program} {l : Launch} {e : Env} {s : State} {m : MethodId} {below : List Frame} {meth : Method} {c : Code} {b : Nat} (hx : p.tables.exec = Jvm.exec) (hb : c.code = code) (hr : meth.sig.returnType = ret) (hlocks : meth.locks = false) {pc : Nat} {H : Heap} {ls : Array Slot} (hdg : decode code pc = .ok (.ireturn, 1)) : W p l e room_1 s m #[Value.ref b] below meth c H [] 600000 7302250 (lw_Z below #[Value.ref b] s) (F0 m pc ls [.int 1]) := by
  intro T hT X
  obtain ⟨fs, hret, hrun, hended, hW, hframe⟩ := X.leave (v := some (.int 1)) (hlocks := hlocks) (fun h => by rw [hr] at h; cases h)
  have hmeth' : T.vm.method? m = some meth := X.method'
  refine ⟨T.setFrames fs, ?_, .returned (some (.int 1)), hrun, hended, rfl, ⟨_, rfl⟩, hW, hframe⟩
  jvm_step X.here [X.here.top, hx, hb, hdg, hmeth', hr, ret, narrow_b1]
  (try refine ⟨rfl, ?_⟩); (try refine ⟨rfl, ?_⟩)
  first | (intro acts; rw [hret _ acts rfl rfl rfl]) | rw [hret _ _ rfl rfl rfl]
  exact Steps.refl _
/-- what holds at the law's entry: the machine, the code, the tables' words (any of lw_tbl by 'hts w (by decide +kernel)'), the script of L ints xs at the cell b, what the Statement gives of the start (any of its parts by flat_of_before) -/
def lw_At (p : Program) (s : State) (m : MethodId) (meth : Method) (c : Code) (b L : Nat) (xs : Nat → Int32) : Prop :=
  p.tables.exec = Jvm.exec ∧ c.code = code ∧ meth.sig.returnType = ret ∧ c.maxLocals = 4 ∧ s.vm.findClass R_law = some m.cls ∧ (∀ w ∈ lw_tbl, w.before #[Value.ref b] s = true) ∧ va_X b L xs s s.heap ∧ b < s.heap.size ∧ meth.locks = false ∧ (Jvm.Cond.and given_1 narrow_1).before #[Value.ref b] s = true
section LAWM
variable {p : Program} {l : Launch} {e : Env} {s : State} {m : MethodId} {below : List Frame} {meth : Method} {c : Code} {b L : Nat} {xs : Nat → Int32} {D : va_G} {kc : Nat → ClassId} {ad adV : Nat → Nat} {fm : Value} {a : Nat → Nat → Nat} {b0 : Nat → Nat}
set_option maxRecDepth 100000 in
set_option maxHeartbeats 4000000 in
theorem law_loop {J : S3 → S2 → Prop} (hL : L ≤ 320) (F : LF p s m meth c b L xs D kc ad adV fm) (hr : meth.sig.returnType = ret) (hlocks : meth.locks = false) (SW : LSW p l e s m b below meth c (lw_Z below #[Value.ref b] s) D kc a b0 L J) : ∀ (n i : Nat), i ≤ L → L < i + n → ∀ (o : S3) (mo : S2) (lo : SL) (H : Heap) (locs : List Loc) (ls : Array Slot), J o mo → va_P D vwCl (cLP kc a o ++ cM kc b0 mo lo) H → va_D (LA s) (cLP kc a o ++ cM kc b0 mo lo) → va_S (LA s) s.heap H locs → lv_has ls 4 [(0, .ref b), (1, .ref (a 0 0)), (2, .ref (b0 0)), (3, .int (nI i))] → LW p l e s m b below meth c (lw_Z below #[Value.ref b] s) H locs (F0 m 18 ls []) := by
  intro n
  induction n with
  | zero => intro i h1 h2; omega
  | succ n ih =>
    intro i hi hn o mo lo H locs ls I hP hD hS hl
    have F1 := F
    obtain ⟨hx, hb, hml, hown, hts, hX, hbl, hK, hQ⟩ := F1
    refine lv_iload_n hx hb dL_law_18 rfl (lv_at hl 3 rfl) ?_
    refine lv_aload_n hx hb dL_law_19 rfl (lv_at hl 0 rfl) ?_
    refine va_slen hx hb hX hbl (Nat.not_le.mpr hbl) hS dL_law_20 ?_
    refine lv_iconst (v := 5) hx hb dL_law_21 (by decide) ?_
    refine lv_isub hx hb dL_law_22 ?_
    refine lv_icmp_gt (tgt := 1430) hx hb dL_law_23 (by decide) (fun _ => ?_) (fun hc => ?_)
    · refine lv_iconst (v := 1) hx hb dL_law_1430 (by decide) ?_
      refine va_forget hS.2.2 ?_
      refine W.widen (k := 600000) (n := 7302250) (Nat.le_of_ble_eq_true rfl) (Nat.le_of_ble_eq_true rfl) ?_
      exact lw_ret hx hb hr hlocks dL_law_1431
    · have h5 := law_cmp hL hi hc
      have hv : ∀ j : Nat, j < 5 → vp_in (nI (i + j)) L := fun j hj => vp_in_nI (by omega) (by omega)
      refine lv_aload_n hx hb dL_law_26 rfl (lv_at hl 0 rfl) ?_
      refine lv_iload_n hx hb dL_law_27 rfl (lv_at hl 3 rfl) ?_
      refine va_sld hx hb hX hbl (Nat.not_le.mpr hbl) hS (hv 0 (by omega)) dL_law_28 ?_
      refine lv_bipush (v := 63) hx hb dL_law_29 (by decide) ?_
      refine lv_iand hx hb dL_law_31 ?_
      have hj : ∀ j : Nat, j < 5 → vp_in (nI i + nI j) L := fun j h => by rw [nI_add]; exact hv j h
      refine SW (nI i) ls o mo lo H locs (hj 1 (by omega)) (hj 2 (by omega)) (hj 3 (by omega)) (hj 4 (by omega)) hl I hP hD hS ?_ _
      intro o mo lo H locs I hP hD hS
      refine lv_iinc (v := nI (i + 5)) (lv' := [(3, .int (nI (i + 5))), (0, .ref b), (1, .ref (a 0 0)), (2, .ref (b0 0))]) hx hb dL_law_1424 hl (k := 3) rfl (nI_add i 5) (by decide) rfl (fun ls hl => ?_)
      refine lv_goto (tgt := 18) hx hb dL_law_1427 (by decide) ?_
      exact ih (i + 5) h5 (by omega) o mo lo H locs ls I hP hD hS (lv_sub hl [1, 2, 3, 0] rfl)
end LAWM
set_option maxRecDepth 100000 in
set_option maxHeartbeats 4000000 in
theorem whole_startJ {J : S3 → S2 → Prop} {p : Program} {e : Env} {s : State} {m : MethodId} {below : List Frame} {meth : Method} {c : Code} (l : Launch) {b L : Nat} {xs : Nat → Int32} (M4 : ∀ (D : va_G) (kc : Nat → ClassId) (h0 sz : Nat), MetC l yX4_init wsX4_init rm_X4_init D kc [(h0, .inr (4, [.null, .null, .null, .int 0, .null, .int 0, .int 0, .int 0, .int 0, .null, .int 0, .int 0, .int 0, .int 0, .int 0, .int 0, .int 0, .null, .int 0, .long 0, .long 0, .long 0, .null, .null, .null, .null, .null, .int 0, .null]))] [.ref h0] sz 12 803 (fun A H => ∃ a : (Nat → Nat) × S2 × SL, (a.1 0 = h0 ∧ J o00 a.2.1) ∧ va_P D vwCl (cM kc a.1 a.2.1 a.2.2) H ∧ va_D A (cM kc a.1 a.2.1 a.2.2))) (SW : ∀ (D : va_G) (kc : Nat → ClassId) (ad adV : Nat → Nat) (fm : Value) (a : Nat → Nat → Nat) (b0 : Nat → Nat), LF p s m meth c b L xs D kc ad adV fm → LSW p l e s m b below meth c (lw_Z below #[Value.ref b] s) D kc a b0 L J) (hL : L ≤ 320) (C0 : lw_At p s m meth c b L xs) : W p l e room_1 s m #[Value.ref b] below meth c s.heap [] 0 0 (lw_Z below #[Value.ref b] s) (entryFrame m ([Value.ref b] : List Value).toArray 4) := by
  obtain ⟨hx, hb, hr, hml, hown0, htt, hX, hbl, hlocks, hgv⟩ := C0
  have hown : s.vm.findClass RL = some m.cls := hown0
  have hts : ∀ w ∈ wsL_law, w.before #[Value.ref b] s = true := fun w h => htt w (law_in w h)
  obtain ⟨D, kc, hK, hO2, hO0⟩ := law_K htt
  obtain ⟨ad, adV, fm, hQ⟩ := law_X htt hgv
  have hA : ∀ q : Nat, s.heap.size ≤ q → LA s q := fun _ h => h
  have hS : va_S (LA s) s.heap s.heap [] := va_S.rf
  have hP : va_P D vwCl [] s.heap := fun k q h => by simp at h
  have hD : va_D (LA s) [] := ⟨fun i j p q h => by simp at h, fun k q h => by simp at h⟩
  have hl := lv_entry ([.ref b]) (n := 4) (Nat.le_of_ble_eq_true rfl)
  rw [lg_entry_eq]
  generalize (lg_sl ([.ref b]) ++ List.replicate (4 - (lg_sl ([.ref b])).length) Slot.unset).toArray = ls at hl ⊢
  have hl : lv_has ls 4 [(0, .ref b)] := hl
  refine va_new (ci := 3) (fs := [.null, .null, .null, .null, .null, .null, .null, .int 0, .null, .null]) (C := RX3) (T := TX3) (N := 10) hx hb htt mx_3 tyX3 tyX3_ok hown (htt (.classLink RL 7 RX3) (List.mem_of_getElem? (i := 76) (by decide +kernel))) (htt (.instantiable RX3 10) (List.mem_of_getElem? (i := 77) (by decide +kernel))) (htt (.initialized RX3) (List.mem_of_getElem? (i := 64) (by decide +kernel))) hK.1 hP hD hS hA rfl df3 (Nat.le_of_ble_eq_true rfl) (Nat.le_of_ble_eq_true rfl) dL_law_0 (fun q H hP hD hS => ?_)
  refine lv_dup hx hb dL_law_3 rfl ?_
  refine q_cIO (α := Nat → Nat → Nat) (ws := []) (rest := [.ref q]) ⟨hx, hb, hml, hown, hts⟩ hK hO2 hO0 (c_X3_init l D kc q H.size) (cwI 0 hts gL_law_X3_init rfl rfl rfl (htt (.initialized RX3) (List.mem_of_getElem? (i := 64) (by decide +kernel))) (htt (.methodLink RL 9 yX3_init) (List.mem_of_getElem? (i := 78) (by decide +kernel))) (htt (.instanceMethod yX3_init) (List.mem_of_getElem? (i := 79) (by decide +kernel))) rfl (by decide +kernel) ⟨(Nat.le_of_ble_eq_true rfl), (Nat.le_of_ble_eq_true rfl)⟩) hP hD hS hA hl.1 (Nat.le_of_ble_eq_true rfl) dL_law_4 ⟨(Nat.le_of_ble_eq_true rfl), (Nat.le_of_ble_eq_true rfl)⟩ (fun a H locs ea hP2 hD2 hS => ?_)
  subst ea
  have hP : va_P D vwCl (cLP kc a o00) H := hP2
  have hD : va_D (LA s) (cLP kc a o00) := hD2
  refine lv_astore_n (lv' := [(1, .ref (a 0 0)), (0, .ref b)]) hx hb dL_law_7 rfl hl (by decide) rfl (fun ls hl => ?_)
  refine va_new (ci := 4) (fs := [.null, .null, .null, .int 0, .null, .int 0, .int 0, .int 0, .int 0, .null, .int 0, .int 0, .int 0, .int 0, .int 0, .int 0, .int 0, .null, .int 0, .long 0, .long 0, .long 0, .null, .null, .null, .null, .null, .int 0, .null]) (C := RX4) (T := TX4) (N := 29) hx hb htt mx_4 tyX4 tyX4_ok hown (htt (.classLink RL 10 RX4) (List.mem_of_getElem? (i := 718) (by decide +kernel))) (htt (.instantiable RX4 29) (List.mem_of_getElem? (i := 719) (by decide +kernel))) (htt (.initialized RX4) (List.mem_of_getElem? (i := 68) (by decide +kernel))) hK.1 hP hD hS hA rfl df4 (Nat.le_of_ble_eq_true rfl) (Nat.le_of_ble_eq_true rfl) dL_law_8 (fun q H hP hD hS => ?_)
  refine lv_dup hx hb dL_law_11 rfl ?_
  refine q_cI (α := (Nat → Nat) × S2 × SL) (ws := cLP kc a o00) (rest := [.ref q]) ⟨hx, hb, hml, hown, hts⟩ hK (M4 D kc q H.size) (cwI 0 hts gL_law_X4_init rfl rfl rfl (htt (.initialized RX4) (List.mem_of_getElem? (i := 68) (by decide +kernel))) (htt (.methodLink RL 12 yX4_init) (List.mem_of_getElem? (i := 720) (by decide +kernel))) (htt (.instanceMethod yX4_init) (List.mem_of_getElem? (i := 721) (by decide +kernel))) rfl (by decide +kernel) ⟨(Nat.le_of_ble_eq_true rfl), (Nat.le_of_ble_eq_true rfl)⟩) hP hD hS hA hl.1 (Nat.le_of_ble_eq_true rfl) dL_law_12 ⟨(Nat.le_of_ble_eq_true rfl), (Nat.le_of_ble_eq_true rfl)⟩ (fun u H locs hG hP2 hD2 hS => ?_)
  obtain ⟨b0, mo, lo⟩ := u
  obtain ⟨eb, I⟩ := hG
  have eb : b0 0 = q := eb
  subst eb
  have hP := hP2
  have hD := hD2
  refine lv_astore_n (lv' := [(2, .ref (b0 0)), (1, .ref (a 0 0)), (0, .ref b)]) hx hb dL_law_15 rfl hl (by decide) rfl (fun ls hl => ?_)
  refine lv_iconst (v := 0) hx hb dL_law_16 (by decide) ?_
  refine lv_istore_n (lv' := [(3, .int 0), (2, .ref (b0 0)), (1, .ref (a 0 0)), (0, .ref b)]) hx hb dL_law_17 rfl hl (by decide) rfl (fun ls hl => ?_)
  refine W.widen (k := 69) (n := 1622) (Nat.le_of_ble_eq_true rfl) (Nat.le_of_ble_eq_true rfl) ?_
  have F : LF p s m meth c b L xs D kc ad adV fm := ⟨hx, hb, hml, hown, hts, hX, hbl, hK, hQ⟩
  exact law_loop hL F hr hlocks (SW D kc ad adV fm a b0 F) (L + 1) 0 (Nat.zero_le L) (by omega) o00 mo lo H locs ls I hP hD hS (lv_sub hl [3, 2, 1, 0] rfl)
