/-! STRINGS: the seven names, as the start has them, beside the cells -/
def tLen : List Nat := [5, 5, 7, 5, 5, 4, 4]
def tByt : List (List Int32) := [[112, 108, 97, 105, 110], [109, 105, 115, 101, 114], [102, 111, 117, 110, 100, 101, 114], [108, 117, 99, 107, 121], [115, 108, 117, 109, 112], [99, 111, 105, 110], [103, 105, 102, 116]]
def tIx : List Nat := [121, 123, 125, 127, 129, 131, 133]
def tTx : List String := ["plain", "miser", "founder", "lucky", "slump", "coin", "gift"]
def qX (ad adV : Nat → Nat) (fm : Value) (A : Nat → Prop) (U : State) (H : Heap) : Prop :=
  vk_S 7 tLen tByt ad adV A U H ∧ va_Z "java/lang/String" "COMPACT_STRINGS" "Z" (.int 1) A U H ∧ va_Z "jdk/internal/util/Preconditions" "SIOOBE_FORMATTER" "Ljava/util/function/BiFunction;" fm A U H ∧ (∀ i, i < 7 → vk_R RX1 (tIx.getD i 0) (tTx.getD i "") (ad i) U) ∧ (fm = .null ∨ ∃ r, fm = .ref r)
theorem qX.warm {ad adV : Nat → Nat} {fm : Value} {A : Nat → Prop} {s U : State} {H : Heap} (hW : s.WarmedH U.vm) (h : qX ad adV fm A s H) : qX ad adV fm A U H := ⟨vk_S.moved hW.alike h.1, va_Z.moved hW.alike h.2.1, va_Z.moved hW.alike h.2.2.1, fun i hi => vk_R.warm hW (h.2.2.2.1 i hi), h.2.2.2.2⟩
theorem qX.kept {ad adV : Nat → Nat} {fm : Value} {A : Nat → Prop} {U : State} {H H1 : Heap} (h : qX ad adV fm A U H) (hq : ∀ a : Nat, a < H.size → ¬ A a → H1[a]? = H[a]?) : qX ad adV fm A U H1 := ⟨h.1.kept hq, h.2.1.kept hq, h.2.2.1.kept hq, h.2.2.2⟩
theorem qX.narrow {ad adV : Nat → Nat} {fm : Value} {A B : Nat → Prop} {U : State} {H : Heap} (h : qX ad adV fm A U H) (hAB : ∀ q, B q → A q) : qX ad adV fm B U H := ⟨h.1.narrow hAB, h.2.1.narrow hAB, h.2.2.1.narrow hAB, h.2.2.2⟩
def qPcS (D : va_G) (kc : Nat → ClassId) (ad adV : Nat → Nat) (fm : Value) (ws : va_W) (sz : Nat) (U : State) : Prop := qPc D kc ws sz U ∧ qX ad adV fm (va_A ws sz) U U.heap
theorem qPcS.blind {D : va_G} {kc : Nat → ClassId} {ad adV : Nat → Nat} {fm : Value} {ws : va_W} {sz : Nat} {av : List Value} : FrameBlind (va_Pc av (qPcS D kc ad adV fm ws sz)) := by
  intro a U g mk q
  obtain ⟨q0, ⟨q1, qP, qk, qD⟩, x1, x2, x3, x4, x5⟩ := q
  exact ⟨q0, ⟨q1, qP, ⟨va_K.moved (u := U) (U := U.calling g mk a) (Vm.Alike.refl U.vm) qk.1, qN.same rfl qk.2⟩, qD⟩, vk_S.moved (u := U) (U := U.calling g mk a) (Vm.Alike.refl U.vm) x1, va_Z.moved (u := U) (U := U.calling g mk a) (Vm.Alike.refl U.vm) x2, va_Z.moved (u := U) (U := U.calling g mk a) (Vm.Alike.refl U.vm) x3, fun i hi => vk_R.same rfl (x4 i hi), x5⟩
abbrev MetIS (l : Launch) (y : MethodName) (ws : List Cond) (rm : Room) (D : va_G) (kc : Nat → ClassId) (ad adV : Nat → Nat) (fm : Value) {S : Type} (cs : S → va_W) (u : S) (av : List Value) (sz : Nat) (K : Int32 → S → Prop) : Prop :=
  Met l y ws rm (va_Pc av (qPcS D kc ad adV fm (cs u) sz)) (va_Qi K (qB D (va_A (cs u) sz) cs) (va_A (cs u) sz)) 0 0 (va_A (cs u) sz)
abbrev MetVS (l : Launch) (y : MethodName) (ws : List Cond) (rm : Room) (D : va_G) (kc : Nat → ClassId) (ad adV : Nat → Nat) (fm : Value) {S : Type} (cs : S → va_W) (u : S) (av : List Value) (sz : Nat) (K : S → Prop) : Prop :=
  Met l y ws rm (va_Pc av (qPcS D kc ad adV fm (cs u) sz)) (va_Qv K (qB D (va_A (cs u) sz) cs) (va_A (cs u) sz)) 0 0 (va_A (cs u) sz)
/-- one of the seven comes back -/
abbrev MetRS (l : Launch) (y : MethodName) (ws : List Cond) (rm : Room) (D : va_G) (kc : Nat → ClassId) (ad adV : Nat → Nat) (fm : Value) (av : List Value) (sz : Nat) (r : Nat) : Prop :=
  Met l y ws rm (va_Pc av (qPcS D kc ad adV fm [] sz)) (va_Qr (S := Unit) (fun _ => True) (fun _ a _ => a = r) (va_A [] sz)) 0 0 (va_A [] sz)
section QES
variable {l : Launch} {y : MethodName} {code : ByteArray} {maxL : Nat} {ws ws' : List Cond} {rm : Room} {D : va_G} {kc : Nat → ClassId} {ad adV : Nat → Nat} {fm : Value} {S : Type} {cs : S → va_W} {u : S} {av : List Value} {sz : Nat}
theorem q_enS {ty : FieldType} {K : Int32 → S → Prop} (hy : plainName y.cls = true) (hw : ws = Cond.code y code maxL (some ty) :: ws') (hn : (lg_sl av).length ≤ maxL)
    (body : ∀ (p : Program) (e : Env) (s : State) (m : MethodId) (args : Array Value) (below : List Frame) (meth : Method) (c : Code) (Q : State → Prop) (A : Nat → Prop), p.tables.exec = Jvm.exec → c.code = code → c.maxLocals = maxL → (∀ w ∈ ws, w.before args s = true) → s.vm.findClass y.cls = some m.cls → qK D kc s → qX ad adV fm A s s.heap → (∀ q : Nat, s.heap.size ≤ q → A q) →
      (∀ (v : Int32) (u' : S) (H : Heap) (locs : List Loc) (ls : Array Slot) (pc : Nat), narrow ty (.int v) = .int v → K v u' → va_P D vwCl (cs u') H → va_D A (cs u') → va_S A s.heap H locs → decode code pc = .ok (.ireturn, 1) → W p l e rm s m args below meth c H locs 0 0 Q (F0 m pc ls [.int v])) →
      ∀ ls : Array Slot, lv_has ls maxL (lv_args 0 av) → va_P D vwCl (cs u) s.heap → va_D A (cs u) → va_S A s.heap s.heap [] → W p l e rm s m args below meth c s.heap [] 0 0 Q (F0 m 0 ls [])) :
    MetIS l y ws rm D kc ad adV fm cs u av sz K := by
  refine Met.ofW (cc := code) (maxL := maxL) (ret := some ty) hy hw ?_
  intro p e s m args below meth c s₁ B hml hv
  obtain ⟨rfl, ⟨hsz, hP, hK, hD0⟩, hX⟩ := hv
  have hx := B.exec
  have hb := B.bytes
  have hr := B.returns
  have hts := atoms_spec (ws := ws) B.pre
  have hown : s.vm.findClass y.cls = some m.cls := findClass_of_methodNamed B.named
  have hlocks := B.notSynchronized
  subst hsz
  have hD := hD0.self (sz := s.heap.size)
  have hl := lv_entry av (n := maxL) hn
  rw [lg_entry_eq]
  generalize (lg_sl av ++ List.replicate (maxL - (lg_sl av).length) Slot.unset).toArray = ls at hl ⊢
  refine body p e s m av.toArray below meth c _ (va_A (cs u) s.heap.size) hx hb hml hts hown hK hX (fun q h => Or.inr h) ?_ ls hl hP hD va_S.rf
  intro v u' H locs ls pc hz hk hP hD hS hd
  exact W.zret hx hb hr hz (fun t ht hW => ⟨⟨v, u', rfl, hk, by rw [ht]; exact hP, hD⟩, hS.F ht⟩) hS.2.2 hd
theorem q_eiS {K : Int32 → S → Prop} (hy : plainName y.cls = true) (hw : ws = Cond.code y code maxL (some .int) :: ws') (hn : (lg_sl av).length ≤ maxL)
    (body : ∀ (p : Program) (e : Env) (s : State) (m : MethodId) (args : Array Value) (below : List Frame) (meth : Method) (c : Code) (Q : State → Prop) (A : Nat → Prop), p.tables.exec = Jvm.exec → c.code = code → c.maxLocals = maxL → (∀ w ∈ ws, w.before args s = true) → s.vm.findClass y.cls = some m.cls → qK D kc s → qX ad adV fm A s s.heap → (∀ q : Nat, s.heap.size ≤ q → A q) →
      (∀ (v : Int32) (u' : S) (H : Heap) (locs : List Loc) (ls : Array Slot) (pc : Nat), K v u' → va_P D vwCl (cs u') H → va_D A (cs u') → va_S A s.heap H locs → decode code pc = .ok (.ireturn, 1) → W p l e rm s m args below meth c H locs 0 0 Q (F0 m pc ls [.int v])) →
      ∀ ls : Array Slot, lv_has ls maxL (lv_args 0 av) → va_P D vwCl (cs u) s.heap → va_D A (cs u) → va_S A s.heap s.heap [] → W p l e rm s m args below meth c s.heap [] 0 0 Q (F0 m 0 ls [])) :
    MetIS l y ws rm D kc ad adV fm cs u av sz K :=
  q_enS (ty := .int) hy hw hn (fun p e s m args below meth c Q A hx hb hml hts hown hK hX hA hret => body p e s m args below meth c Q A hx hb hml hts hown hK hX hA (fun v u' H locs ls pc => hret v u' H locs ls pc rfl))
theorem q_evS {K : S → Prop} (hy : plainName y.cls = true) (hw : ws = Cond.code y code maxL none :: ws') (hn : (lg_sl av).length ≤ maxL)
    (body : ∀ (p : Program) (e : Env) (s : State) (m : MethodId) (args : Array Value) (below : List Frame) (meth : Method) (c : Code) (Q : State → Prop) (A : Nat → Prop), p.tables.exec = Jvm.exec → c.code = code → c.maxLocals = maxL → (∀ w ∈ ws, w.before args s = true) → s.vm.findClass y.cls = some m.cls → qK D kc s → qX ad adV fm A s s.heap → (∀ q : Nat, s.heap.size ≤ q → A q) →
      (∀ (u' : S) (H : Heap) (locs : List Loc) (ls : Array Slot) (pc : Nat), K u' → va_P D vwCl (cs u') H → va_D A (cs u') → va_S A s.heap H locs → decode code pc = .ok (.return_, 1) → W p l e rm s m args below meth c H locs 0 0 Q (F0 m pc ls [])) →
      ∀ ls : Array Slot, lv_has ls maxL (lv_args 0 av) → va_P D vwCl (cs u) s.heap → va_D A (cs u) → va_S A s.heap s.heap [] → W p l e rm s m args below meth c s.heap [] 0 0 Q (F0 m 0 ls [])) :
    MetVS l y ws rm D kc ad adV fm cs u av sz K := by
  refine Met.ofW (cc := code) (maxL := maxL) (ret := none) hy hw ?_
  intro p e s m args below meth c s₁ B hml hv
  obtain ⟨rfl, ⟨hsz, hP, hK, hD0⟩, hX⟩ := hv
  have hx := B.exec
  have hb := B.bytes
  have hr := B.returns
  have hts := atoms_spec (ws := ws) B.pre
  have hown : s.vm.findClass y.cls = some m.cls := findClass_of_methodNamed B.named
  have hlocks := B.notSynchronized
  subst hsz
  have hD := hD0.self (sz := s.heap.size)
  have hl := lv_entry av (n := maxL) hn
  rw [lg_entry_eq]
  generalize (lg_sl av ++ List.replicate (maxL - (lg_sl av).length) Slot.unset).toArray = ls at hl ⊢
  refine body p e s m av.toArray below meth c _ (va_A (cs u) s.heap.size) hx hb hml hts hown hK hX (fun q h => Or.inr h) ?_ ls hl hP hD va_S.rf
  intro u' H locs ls pc hk hP hD hS hd
  exact W.vret hx hb hr (fun t ht hW => ⟨⟨u', rfl, hk, by rw [ht]; exact hP, hD⟩, hS.F ht⟩) hS.2.2 hd
theorem q_erS {r : Nat} {C : String} (hy : plainName y.cls = true) (hw : ws = Cond.code y code maxL (some (.object C)) :: ws') (hn : (lg_sl av).length ≤ maxL)
    (body : ∀ (p : Program) (e : Env) (s : State) (m : MethodId) (args : Array Value) (below : List Frame) (meth : Method) (c : Code) (Q : State → Prop) (A : Nat → Prop), p.tables.exec = Jvm.exec → c.code = code → c.maxLocals = maxL → (∀ w ∈ ws, w.before args s = true) → s.vm.findClass y.cls = some m.cls → qX ad adV fm A s s.heap →
      (∀ (H : Heap) (locs : List Loc) (ls : Array Slot) (pc : Nat), va_S A s.heap H locs → decode code pc = .ok (.areturn, 1) → W p l e rm s m args below meth c H locs 0 0 Q (F0 m pc ls [.ref r])) →
      ∀ ls : Array Slot, lv_has ls maxL (lv_args 0 av) → va_S A s.heap s.heap [] → W p l e rm s m args below meth c s.heap [] 0 0 Q (F0 m 0 ls [])) :
    MetRS l y ws rm D kc ad adV fm av sz r := by
  refine Met.ofW (cc := code) (maxL := maxL) (ret := some (.object C)) hy hw ?_
  intro p e s m args below meth c s₁ B hml hv
  obtain ⟨rfl, ⟨hsz, hP, hK, hD0⟩, hX⟩ := hv
  have hx := B.exec
  have hb := B.bytes
  have hr := B.returns
  have hts := atoms_spec (ws := ws) B.pre
  have hown : s.vm.findClass y.cls = some m.cls := findClass_of_methodNamed B.named
  have hlocks := B.notSynchronized
  subst hsz
  have hl := lv_entry av (n := maxL) hn
  rw [lg_entry_eq]
  generalize (lg_sl av ++ List.replicate (maxL - (lg_sl av).length) Slot.unset).toArray = ls at hl ⊢
  refine body p e s m av.toArray below meth c _ (va_A [] s.heap.size) hx hb hml hts hown hX ?_ ls hl va_S.rf
  intro H locs ls pc hS hd
  exact W.aret hx hb hr (Or.inl ⟨C, rfl⟩) (Or.inr ⟨r, rfl⟩) (fun t ht hW => ⟨⟨(), r, rfl, trivial, rfl⟩, hS.F ht⟩) hS.2.2 hd
end QES
section QCS
variable {p : Program} {l : Launch} {e : Env} {R : Room} {s : State} {m : MethodId} {args : Array Value} {below : List Frame} {meth : Method} {c : Code} {H : Heap} {locs : List Loc} {cells slots : Nat} {Q : State → Prop}
variable {cc : ByteArray} {pc : Nat} {ls : Array Slot} {rest st0 : List Value} {b : Nat} {nL n maxL index : Nat} {y : MethodName} {bytes : ByteArray} {ret : Option FieldType} {wsy Ts : List Cond} {rm : Room} {own C host : String} {D : va_G} {kc : Nat → ClassId} {ad adV : Nat → Nat} {fm : Value} {S : Type} {cs wj : S → va_W} {u : S} {As : List Value} {ws : va_W} {A : Nat → Prop}
theorem q_preS (hK : qK D kc s) (hX : qX ad adV fm A s s.heap) (hc : qCut D ws (cs u) cs wj) (hP : va_P D vwCl ws H) (hD : va_D A ws) (hS : va_S A s.heap H locs) (hA : ∀ q, s.heap.size ≤ q → A q) (av : List Value) : FrameBlind (va_Pc av (qPcS D kc ad adV fm (cs u) H.size)) ∧ ∀ U : State, U.heap = H → s.WarmedH U.vm → va_Pc av (qPcS D kc ad adV fm (cs u) H.size) av.toArray U :=
  ⟨qPcS.blind, fun U hU hW => ⟨rfl, ⟨by rw [hU], by rw [hU]; exact hc.1 H hP, qK.warm hW hK, (hc.2.1 A hD).weaken (fun _ _ _ _ => trivial)⟩, by rw [hU]; exact ((hX.kept hS.2.1).warm hW).narrow (hc.2.2.2 A s.heap H locs hD hS hA)⟩⟩
theorem q_cViS (S0 : CallFix p m c cc nL s args Ts own) (hK : qK D kc s) (hX : qX ad adV fm A s s.heap) {K : Int32 → S → Prop} (hM : MetIS l y wsy rm D kc ad adV fm cs u (.ref b :: As) H.size K) (cw : CallW R s args own C index y bytes maxL ret wsy rm 0 0 n) (hc : qCut D ws (cs u) cs wj) (hP : va_P D vwCl ws H) (hD : va_D A ws) (hS : va_S A s.heap H locs) (hA : ∀ q, s.heap.size ≤ q → A q) (ci q0 : Nat) {T : u_T} {N : Nat} {fs : List Value} (hcl : vwCl[ci]? = some (C, T, N)) (he : (cs u)[q0]? = some (b, .inr (ci, fs))) (hn : As.length = n) (hl : ls.size = nL) (hst : st0 = As.reverse ++ .ref b :: rest) (hr : (rest.map fun v => v.category).sum ≤ 8) (hdg : decode cc pc = .ok (.invokevirtual index, 3)) (hf : cells ≤ R.cells ∧ slots ≤ R.slots)
    (kk : ∀ (r : Int32) (u' : S) (H1 : Heap) (locs1 : List Loc), K r u' → va_P D vwCl (wj u') H1 → va_D A (wj u') → va_S A s.heap H1 locs1 → W p l e R s m args below meth c H1 locs1 cells slots Q (F0 m (pc + 3) ls (.int r :: rest))) : W p l e R s m args below meth c H locs cells slots Q (F0 m pc ls st0) := by
  subst hst
  have hF := hc.2.2.2 A s.heap H locs hD hS hA
  refine va_calli (va_runV (As := As) (rest := rest) S0 hM cw ⟨(q_preS hK hX hc hP hD hS hA _).1, va_recv hK.1 (hc.1 H hP) hcl he, (q_preS hK hX hc hP hD hS hA _).2⟩ rfl hn hl rfl (lv_room hr) hdg hf) hS (fun q _ h => hF q h) hF (fun r u' t H1 locs1 ht hvm hk hB hz hk1 hS1 => ?_)
  obtain ⟨hP1, hD1⟩ := hB
  rw [ht] at hP1
  obtain ⟨g1, g2⟩ := hc.2.2.1 A H H1 u' hP hD hk1 hF hP1 hD1
  exact kk r u' H1 locs1 hk g1 g2 hS1
theorem q_cVvS (S0 : CallFix p m c cc nL s args Ts own) (hK : qK D kc s) (hX : qX ad adV fm A s s.heap) {K : S → Prop} (hM : MetVS l y wsy rm D kc ad adV fm cs u (.ref b :: As) H.size K) (cw : CallW R s args own C index y bytes maxL ret wsy rm 0 0 n) (hc : qCut D ws (cs u) cs wj) (hP : va_P D vwCl ws H) (hD : va_D A ws) (hS : va_S A s.heap H locs) (hA : ∀ q, s.heap.size ≤ q → A q) (ci q0 : Nat) {T : u_T} {N : Nat} {fs : List Value} (hcl : vwCl[ci]? = some (C, T, N)) (he : (cs u)[q0]? = some (b, .inr (ci, fs))) (hn : As.length = n) (hl : ls.size = nL) (hst : st0 = As.reverse ++ .ref b :: rest) (hr : (rest.map fun v => v.category).sum ≤ 8) (hdg : decode cc pc = .ok (.invokevirtual index, 3)) (hf : cells ≤ R.cells ∧ slots ≤ R.slots)
    (kk : ∀ (u' : S) (H1 : Heap) (locs1 : List Loc), K u' → va_P D vwCl (wj u') H1 → va_D A (wj u') → va_S A s.heap H1 locs1 → W p l e R s m args below meth c H1 locs1 cells slots Q (F0 m (pc + 3) ls rest)) : W p l e R s m args below meth c H locs cells slots Q (F0 m pc ls st0) := by
  subst hst
  have hF := hc.2.2.2 A s.heap H locs hD hS hA
  refine va_callv (va_runV (As := As) (rest := rest) S0 hM cw ⟨(q_preS hK hX hc hP hD hS hA _).1, va_recv hK.1 (hc.1 H hP) hcl he, (q_preS hK hX hc hP hD hS hA _).2⟩ rfl hn hl rfl (lv_room hr) hdg hf) hS (fun q _ h => hF q h) hF (fun u' t H1 locs1 ht hvm hk hB hz hk1 hS1 => ?_)
  obtain ⟨hP1, hD1⟩ := hB
  rw [ht] at hP1
  obtain ⟨g1, g2⟩ := hc.2.2.1 A H H1 u' hP hD hk1 hF hP1 hD1
  exact kk u' H1 locs1 hk g1 g2 hS1
/-- a String's own method -/
theorem q_cTi (S0 : CallFix p m c cc nL s args Ts own) (hK : qK D kc s) (hX : qX ad adV fm A s s.heap) {K : Int32 → S → Prop} {k : Nat} (hk7 : k < 7) (hM : MetIS l y wsy rm D kc ad adV fm cs u (.ref (ad k) :: As) H.size K) (cw : CallW R s args own "java/lang/String" index y bytes maxL ret wsy rm 0 0 n) (hc : qCut D ws (cs u) cs wj) (hP : va_P D vwCl ws H) (hD : va_D A ws) (hS : va_S A s.heap H locs) (hA : ∀ q, s.heap.size ≤ q → A q) (hn : As.length = n) (hl : ls.size = nL) (hst : st0 = As.reverse ++ .ref (ad k) :: rest) (hr : (rest.map fun v => v.category).sum ≤ 8) (hdg : decode cc pc = .ok (.invokevirtual index, 3)) (hf : cells ≤ R.cells ∧ slots ≤ R.slots)
    (kk : ∀ (r : Int32) (u' : S) (H1 : Heap) (locs1 : List Loc), K r u' → va_P D vwCl (wj u') H1 → va_D A (wj u') → va_S A s.heap H1 locs1 → W p l e R s m args below meth c H1 locs1 cells slots Q (F0 m (pc + 3) ls (.int r :: rest))) : W p l e R s m args below meth c H locs cells slots Q (F0 m pc ls st0) := by
  subst hst
  have hF := hc.2.2.2 A s.heap H locs hD hS hA
  refine va_calli (va_runV (As := As) (rest := rest) S0 hM cw ⟨(q_preS hK hX hc hP hD hS hA _).1, vk_recv hX.1 hk7 hS, (q_preS hK hX hc hP hD hS hA _).2⟩ rfl hn hl rfl (lv_room hr) hdg hf) hS (fun q _ h => hF q h) hF (fun r u' t H1 locs1 ht hvm hk hB hz hk1 hS1 => ?_)
  obtain ⟨hP1, hD1⟩ := hB
  rw [ht] at hP1
  obtain ⟨g1, g2⟩ := hc.2.2.1 A H H1 u' hP hD hk1 hF hP1 hD1
  exact kk r u' H1 locs1 hk g1 g2 hS1
theorem q_cSiS (S0 : CallFix p m c cc nL s args Ts own) (hK : qK D kc s) (hX : qX ad adV fm A s s.heap) {K : Int32 → S → Prop} (hM : MetIS l y wsy rm D kc ad adV fm cs u As H.size K) (cw : CallB R s args own index y bytes maxL ret wsy rm 0 0 n ∧ (Cond.static y).before args s = true) (hc : qCut D ws (cs u) cs wj) (hP : va_P D vwCl ws H) (hD : va_D A ws) (hS : va_S A s.heap H locs) (hA : ∀ q, s.heap.size ≤ q → A q) (hn : As.length = n) (hl : ls.size = nL) (hst : st0 = As.reverse ++ rest) (hr : (rest.map fun v => v.category).sum ≤ 8) (hdg : decode cc pc = .ok (.invokestatic index, 3)) (hf : cells ≤ R.cells ∧ slots ≤ R.slots)
    (kk : ∀ (r : Int32) (u' : S) (H1 : Heap) (locs1 : List Loc), K r u' → va_P D vwCl (wj u') H1 → va_D A (wj u') → va_S A s.heap H1 locs1 → W p l e R s m args below meth c H1 locs1 cells slots Q (F0 m (pc + 3) ls (.int r :: rest))) : W p l e R s m args below meth c H locs cells slots Q (F0 m pc ls st0) := by
  subst hst
  have hF := hc.2.2.2 A s.heap H locs hD hS hA
  refine va_calli (va_runS (As := As) (rest := rest) S0 hM cw (q_preS hK hX hc hP hD hS hA _) rfl hn hl rfl (lv_room hr) hdg hf) hS (fun q _ h => hF q h) hF (fun r u' t H1 locs1 ht hvm hk hB hz hk1 hS1 => ?_)
  obtain ⟨hP1, hD1⟩ := hB
  rw [ht] at hP1
  obtain ⟨g1, g2⟩ := hc.2.2.1 A H H1 u' hP hD hk1 hF hP1 hD1
  exact kk r u' H1 locs1 hk g1 g2 hS1
theorem q_cSvS (S0 : CallFix p m c cc nL s args Ts own) (hK : qK D kc s) (hX : qX ad adV fm A s s.heap) {K : S → Prop} (hM : MetVS l y wsy rm D kc ad adV fm cs u As H.size K) (cw : CallB R s args own index y bytes maxL ret wsy rm 0 0 n ∧ (Cond.static y).before args s = true) (hc : qCut D ws (cs u) cs wj) (hP : va_P D vwCl ws H) (hD : va_D A ws) (hS : va_S A s.heap H locs) (hA : ∀ q, s.heap.size ≤ q → A q) (hn : As.length = n) (hl : ls.size = nL) (hst : st0 = As.reverse ++ rest) (hr : (rest.map fun v => v.category).sum ≤ 8) (hdg : decode cc pc = .ok (.invokestatic index, 3)) (hf : cells ≤ R.cells ∧ slots ≤ R.slots)
    (kk : ∀ (u' : S) (H1 : Heap) (locs1 : List Loc), K u' → va_P D vwCl (wj u') H1 → va_D A (wj u') → va_S A s.heap H1 locs1 → W p l e R s m args below meth c H1 locs1 cells slots Q (F0 m (pc + 3) ls rest)) : W p l e R s m args below meth c H locs cells slots Q (F0 m pc ls st0) := by
  subst hst
  have hF := hc.2.2.2 A s.heap H locs hD hS hA
  refine va_callv (va_runS (As := As) (rest := rest) S0 hM cw (q_preS hK hX hc hP hD hS hA _) rfl hn hl rfl (lv_room hr) hdg hf) hS (fun q _ h => hF q h) hF (fun u' t H1 locs1 ht hvm hk hB hz hk1 hS1 => ?_)
  obtain ⟨hP1, hD1⟩ := hB
  rw [ht] at hP1
  obtain ⟨g1, g2⟩ := hc.2.2.1 A H H1 u' hP hD hk1 hF hP1 hD1
  exact kk u' H1 locs1 hk g1 g2 hS1
theorem q_cSrS (S0 : CallFix p m c cc nL s args Ts own) (hK : qK D kc s) (hX : qX ad adV fm A s s.heap) {r : Nat} (hM : MetRS l y wsy rm D kc ad adV fm As H.size r) (cw : CallB R s args own index y bytes maxL ret wsy rm 0 0 n ∧ (Cond.static y).before args s = true) (hP : va_P D vwCl ws H) (hD : va_D A ws) (hS : va_S A s.heap H locs) (hA : ∀ q, s.heap.size ≤ q → A q) (hn : As.length = n) (hl : ls.size = nL) (hst : st0 = As.reverse ++ rest) (hr : (rest.map fun v => v.category).sum ≤ 8) (hdg : decode cc pc = .ok (.invokestatic index, 3)) (hf : cells ≤ R.cells ∧ slots ≤ R.slots)
    (kk : ∀ (H1 : Heap) (locs1 : List Loc), va_P D vwCl ws H1 → va_D A ws → va_S A s.heap H1 locs1 → W p l e R s m args below meth c H1 locs1 cells slots Q (F0 m (pc + 3) ls (.ref r :: rest))) : W p l e R s m args below meth c H locs cells slots Q (F0 m pc ls st0) := by
  subst hst
  have hc := cut_nil (D := D) ws
  have hF := hc.2.2.2 A s.heap H locs hD hS hA
  refine va_callr (va_runS (As := As) (rest := rest) S0 hM cw (q_preS (cs := fun _ : Unit => []) (wj := fun _ => ws) (u := ()) hK hX hc hP hD hS hA _) rfl hn hl rfl (lv_room hr) hdg hf) hS (fun q _ h => hF q h) hF (fun u' ra t H1 locs1 ht hvm hk hB hz hk1 hS1 => ?_)
  subst hB
  obtain ⟨g1, g2⟩ := hc.2.2.1 A H H1 () hP hD hk1 hF (fun k q h => by simp at h) ⟨fun i j p q h => by simp at h, fun k q h => by simp at h⟩
  exact kk H1 locs1 g1 g2 hS1
end QCS
