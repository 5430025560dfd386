/-! OUR OWN ROWS: the words of the walk (nm, br, jn, lfp), a method's entry, a call, a cut of cells -/
abbrev S1 : Type := Nat → Int32
abbrev S2 : Type := Nat → Nat → Int32
abbrev S3 : Type := Nat → Nat → Nat → Int32
abbrev SL : Type := Nat → Int64
/-- a value gets a name -/
def nm {α : Type} (e : α) (P : α → Prop) : Prop := P e
theorem nm_out {α : Type} {e : α} {P : α → Prop} (h : nm e P) (x : α) (hx : x = e) : P x := by subst hx; exact h
theorem nm_in {α : Type} {e : α} {P : α → Prop} (h : P e) : nm e P := h
/-- a branch -/
def br (c A B : Prop) : Prop := (c → A) ∧ (¬ c → B)
theorem br1 {c A B : Prop} (h : br c A B) (hc : c) : A := h.1 hc
theorem br2 {c A B : Prop} (h : br c A B) (hc : ¬ c) : B := h.2 hc
/-- roads that meet -/
def jn {τ : Type} (J : τ) (B : τ → Prop) : Prop := B J
theorem jn_out {τ : Type} {J : τ} {B : τ → Prop} (h : jn J B) : B J := h
/-- a loop: the least predicate that its body closes -/
def lfp1 {A1 : Type} (F : (A1 → Prop) → A1 → Prop) (a1 : A1) : Prop := ∀ G : A1 → Prop, (∀ x1, F G x1 → G x1) → G a1
def lfp2 {A1 A2 : Type} (F : (A1 → A2 → Prop) → A1 → A2 → Prop) (a1 : A1) (a2 : A2) : Prop := ∀ G : A1 → A2 → Prop, (∀ x1 x2, F G x1 x2 → G x1 x2) → G a1 a2
def lfp3 {A1 A2 A3 : Type} (F : (A1 → A2 → A3 → Prop) → A1 → A2 → A3 → Prop) (a1 : A1) (a2 : A2) (a3 : A3) : Prop := ∀ G : A1 → A2 → A3 → Prop, (∀ x1 x2 x3, F G x1 x2 x3 → G x1 x2 x3) → G a1 a2 a3
def lfp4 {A1 A2 A3 A4 : Type} (F : (A1 → A2 → A3 → A4 → Prop) → A1 → A2 → A3 → A4 → Prop) (a1 : A1) (a2 : A2) (a3 : A3) (a4 : A4) : Prop := ∀ G : A1 → A2 → A3 → A4 → Prop, (∀ x1 x2 x3 x4, F G x1 x2 x3 x4 → G x1 x2 x3 x4) → G a1 a2 a3 a4
def lfp5 {A1 A2 A3 A4 A5 : Type} (F : (A1 → A2 → A3 → A4 → A5 → Prop) → A1 → A2 → A3 → A4 → A5 → Prop) (a1 : A1) (a2 : A2) (a3 : A3) (a4 : A4) (a5 : A5) : Prop := ∀ G : A1 → A2 → A3 → A4 → A5 → Prop, (∀ x1 x2 x3 x4 x5, F G x1 x2 x3 x4 x5 → G x1 x2 x3 x4 x5) → G a1 a2 a3 a4 a5
def lfp6 {A1 A2 A3 A4 A5 A6 : Type} (F : (A1 → A2 → A3 → A4 → A5 → A6 → Prop) → A1 → A2 → A3 → A4 → A5 → A6 → Prop) (a1 : A1) (a2 : A2) (a3 : A3) (a4 : A4) (a5 : A5) (a6 : A6) : Prop := ∀ G : A1 → A2 → A3 → A4 → A5 → A6 → Prop, (∀ x1 x2 x3 x4 x5 x6, F G x1 x2 x3 x4 x5 x6 → G x1 x2 x3 x4 x5 x6) → G a1 a2 a3 a4 a5 a6
/-- the array classes by numbers: 0 int, 1 byte, 2 boolean, 3 World, 4 Sheet -/
abbrev qTy (kc : Nat → ClassId) : List (ClassId × FieldType) := [(kc 0, .int), (kc 1, .byte), (kc 2, .boolean), (kc 3, .object RX2), (kc 4, .object RX0)]
/-- nest mates' links -/
def qN (U : State) : Prop := va_Nw (.methodLinkNest RX2 58 yX3_within RX3) U ∧ va_Nw (.methodLinkNest RX2 111 yX3_bounded RX3) U ∧ va_Nw (.methodLinkNest RX1 105 yX3_within RX3) U ∧ va_Nw (.methodLinkNest RX0 22 yX3_within RX3) U ∧ va_Nw (.methodLinkNest RX3 18 yX2_init RX3) U ∧ va_Nw (.methodLinkNest RX3 50 yX0_init RX3) U ∧ va_Nw (.methodLinkNest RX3 9 yX1_init RX3) U
def qK (D : va_G) (kc : Nat → ClassId) (U : State) : Prop := va_K D vwCl (qTy kc) U ∧ qN U
theorem qN.warm {s U : State} (hW : s.WarmedH U.vm) (h : qN s) : qN U := ⟨va_Nw.warmM hW h.1, va_Nw.warmM hW h.2.1, va_Nw.warmM hW h.2.2.1, va_Nw.warmM hW h.2.2.2.1, va_Nw.warmM hW h.2.2.2.2.1, va_Nw.warmM hW h.2.2.2.2.2.1, va_Nw.warmM hW h.2.2.2.2.2.2⟩
theorem qN.same {u U : State} (hv : u.vm = U.vm) (h : qN u) : qN U := ⟨va_Nw.same rfl hv h.1, va_Nw.same rfl hv h.2.1, va_Nw.same rfl hv h.2.2.1, va_Nw.same rfl hv h.2.2.2.1, va_Nw.same rfl hv h.2.2.2.2.1, va_Nw.same rfl hv h.2.2.2.2.2.1, va_Nw.same rfl hv h.2.2.2.2.2.2⟩
theorem qK.warm {D : va_G} {kc : Nat → ClassId} {s U : State} (hW : s.WarmedH U.vm) (h : qK D kc s) : qK D kc U := ⟨va_K.moved hW.alike h.1, qN.warm hW h.2⟩
def qPc (D : va_G) (kc : Nat → ClassId) (ws : va_W) (sz : Nat) (U : State) : Prop := U.heap.size = sz ∧ va_P D vwCl ws U.heap ∧ qK D kc U ∧ va_D (fun _ => True) ws
theorem qPc.blind {D : va_G} {kc : Nat → ClassId} {ws : va_W} {sz : Nat} {av : List Value} : FrameBlind (va_Pc av (qPc D kc ws sz)) := by
  intro a U g mk q
  obtain ⟨q0, q1, qP, qk, qD⟩ := q
  exact ⟨q0, q1, qP, ⟨va_K.moved (u := U) (U := U.calling g mk a) (Vm.Alike.refl U.vm) qk.1, qN.same rfl qk.2⟩, qD⟩
def qB {S : Type} (D : va_G) (A : Nat → Prop) (cs : S → va_W) (u : S) (t : State) : Prop := va_P D vwCl (cs u) t.heap ∧ va_D A (cs u)
abbrev MetI (l : Launch) (y : MethodName) (ws : List Cond) (rm : Room) (D : va_G) (kc : Nat → ClassId) {S : Type} (cs : S → va_W) (u : S) (av : List Value) (sz : Nat) (K : Int32 → S → Prop) : Prop :=
  Met l y ws rm (va_Pc av (qPc D kc (cs u) sz)) (va_Qi K (qB D (va_A (cs u) sz) cs) (va_A (cs u) sz)) 0 0 (va_A (cs u) sz)
abbrev MetL (l : Launch) (y : MethodName) (ws : List Cond) (rm : Room) (D : va_G) (kc : Nat → ClassId) {S : Type} (cs : S → va_W) (u : S) (av : List Value) (sz : Nat) (K : Int64 → S → Prop) : Prop :=
  Met l y ws rm (va_Pc av (qPc D kc (cs u) sz)) (va_Ql K (qB D (va_A (cs u) sz) cs) (va_A (cs u) sz)) 0 0 (va_A (cs u) sz)
abbrev MetV (l : Launch) (y : MethodName) (ws : List Cond) (rm : Room) (D : va_G) (kc : Nat → ClassId) {S : Type} (cs : S → va_W) (u : S) (av : List Value) (sz : Nat) (K : S → Prop) : Prop :=
  Met l y ws rm (va_Pc av (qPc D kc (cs u) sz)) (va_Qv K (qB D (va_A (cs u) sz) cs) (va_A (cs u) sz)) 0 0 (va_A (cs u) sz)
section QE
variable {l : Launch} {y : MethodName} {code : ByteArray} {maxL : Nat} {ws ws' : List Cond} {rm : Room} {D : va_G} {kc : Nat → ClassId} {S : Type} {cs : S → va_W} {u : S} {av : List Value} {sz : Nat}
/-- a method's entry, an int comes back -/
theorem q_ei {K : Int32 → S → Prop} (hy : plainName y.cls = true) (hw : ws = Cond.code y code maxL (some .int) :: ws') (hn : (lg_sl av).length ≤ maxL)
    (body : ∀ (p : Program) (e : Env) (s : State) (m : MethodId) (args : Array Value) (below : List Frame) (meth : Method) (c : Code) (Q : State → Prop) (A : Nat → Prop), p.tables.exec = Jvm.exec → c.code = code → c.maxLocals = maxL → (∀ w ∈ ws, w.before args s = true) → s.vm.findClass y.cls = some m.cls → qK D kc s → (∀ q : Nat, s.heap.size ≤ q → A q) →
      (∀ (v : Int32) (u' : S) (H : Heap) (locs : List Loc) (ls : Array Slot) (pc : Nat), K v u' → va_P D vwCl (cs u') H → va_D A (cs u') → va_S A s.heap H locs → decode code pc = .ok (.ireturn, 1) → W p l e rm s m args below meth c H locs 0 0 Q (F0 m pc ls [.int v])) →
      ∀ ls : Array Slot, lv_has ls maxL (lv_args 0 av) → va_P D vwCl (cs u) s.heap → va_D A (cs u) → va_S A s.heap s.heap [] → W p l e rm s m args below meth c s.heap [] 0 0 Q (F0 m 0 ls [])) :
    MetI l y ws rm D kc cs u av sz K := by
  refine Met.ofW (cc := code) (maxL := maxL) (ret := some .int) hy hw ?_
  intro p e s m args below meth c s₁ B hml hv
  obtain ⟨rfl, hsz, hP, hK, hD0⟩ := hv
  have hx := B.exec
  have hb := B.bytes
  have hr := B.returns
  have hts := atoms_spec (ws := ws) B.pre
  have hown : s.vm.findClass y.cls = some m.cls := findClass_of_methodNamed B.named
  have hlocks := B.notSynchronized
  subst hsz
  have hD := hD0.self (sz := s.heap.size)
  have hl := lv_entry av (n := maxL) hn
  rw [lg_entry_eq]
  generalize (lg_sl av ++ List.replicate (maxL - (lg_sl av).length) Slot.unset).toArray = ls at hl ⊢
  refine body p e s m av.toArray below meth c _ (va_A (cs u) s.heap.size) hx hb hml hts hown hK (fun q h => Or.inr h) ?_ ls hl hP hD va_S.rf
  intro v u' H locs ls pc hk hP hD hS hd
  exact W.iret hx hb hr (fun t ht hW => ⟨⟨v, u', rfl, hk, by rw [ht]; exact hP, hD⟩, hS.F ht⟩) hS.2.2 hd
/-- a boolean -/
theorem q_ez {K : Int32 → S → Prop} (hy : plainName y.cls = true) (hw : ws = Cond.code y code maxL (some .boolean) :: ws') (hn : (lg_sl av).length ≤ maxL)
    (body : ∀ (p : Program) (e : Env) (s : State) (m : MethodId) (args : Array Value) (below : List Frame) (meth : Method) (c : Code) (Q : State → Prop) (A : Nat → Prop), p.tables.exec = Jvm.exec → c.code = code → c.maxLocals = maxL → (∀ w ∈ ws, w.before args s = true) → s.vm.findClass y.cls = some m.cls → qK D kc s → (∀ q : Nat, s.heap.size ≤ q → A q) →
      (∀ (v : Int32) (u' : S) (H : Heap) (locs : List Loc) (ls : Array Slot) (pc : Nat), narrow .boolean (.int v) = .int v → K v u' → va_P D vwCl (cs u') H → va_D A (cs u') → va_S A s.heap H locs → decode code pc = .ok (.ireturn, 1) → W p l e rm s m args below meth c H locs 0 0 Q (F0 m pc ls [.int v])) →
      ∀ ls : Array Slot, lv_has ls maxL (lv_args 0 av) → va_P D vwCl (cs u) s.heap → va_D A (cs u) → va_S A s.heap s.heap [] → W p l e rm s m args below meth c s.heap [] 0 0 Q (F0 m 0 ls [])) :
    MetI l y ws rm D kc cs u av sz K := by
  refine Met.ofW (cc := code) (maxL := maxL) (ret := some .boolean) hy hw ?_
  intro p e s m args below meth c s₁ B hml hv
  obtain ⟨rfl, hsz, hP, hK, hD0⟩ := hv
  have hx := B.exec
  have hb := B.bytes
  have hr := B.returns
  have hts := atoms_spec (ws := ws) B.pre
  have hown : s.vm.findClass y.cls = some m.cls := findClass_of_methodNamed B.named
  have hlocks := B.notSynchronized
  subst hsz
  have hD := hD0.self (sz := s.heap.size)
  have hl := lv_entry av (n := maxL) hn
  rw [lg_entry_eq]
  generalize (lg_sl av ++ List.replicate (maxL - (lg_sl av).length) Slot.unset).toArray = ls at hl ⊢
  refine body p e s m av.toArray below meth c _ (va_A (cs u) s.heap.size) hx hb hml hts hown hK (fun q h => Or.inr h) ?_ ls hl hP hD va_S.rf
  intro v u' H locs ls pc hz hk hP hD hS hd
  exact W.zret hx hb hr hz (fun t ht hW => ⟨⟨v, u', rfl, hk, by rw [ht]; exact hP, hD⟩, hS.F ht⟩) hS.2.2 hd
/-- a long -/
theorem q_el {K : Int64 → S → Prop} (hy : plainName y.cls = true) (hw : ws = Cond.code y code maxL (some .long) :: ws') (hn : (lg_sl av).length ≤ maxL)
    (body : ∀ (p : Program) (e : Env) (s : State) (m : MethodId) (args : Array Value) (below : List Frame) (meth : Method) (c : Code) (Q : State → Prop) (A : Nat → Prop), p.tables.exec = Jvm.exec → c.code = code → c.maxLocals = maxL → (∀ w ∈ ws, w.before args s = true) → s.vm.findClass y.cls = some m.cls → qK D kc s → (∀ q : Nat, s.heap.size ≤ q → A q) →
      (∀ (v : Int64) (u' : S) (H : Heap) (locs : List Loc) (ls : Array Slot) (pc : Nat), K v u' → va_P D vwCl (cs u') H → va_D A (cs u') → va_S A s.heap H locs → decode code pc = .ok (.lreturn, 1) → W p l e rm s m args below meth c H locs 0 0 Q (F0 m pc ls [.long v])) →
      ∀ ls : Array Slot, lv_has ls maxL (lv_args 0 av) → va_P D vwCl (cs u) s.heap → va_D A (cs u) → va_S A s.heap s.heap [] → W p l e rm s m args below meth c s.heap [] 0 0 Q (F0 m 0 ls [])) :
    MetL l y ws rm D kc cs u av sz K := by
  refine Met.ofW (cc := code) (maxL := maxL) (ret := some .long) hy hw ?_
  intro p e s m args below meth c s₁ B hml hv
  obtain ⟨rfl, hsz, hP, hK, hD0⟩ := hv
  have hx := B.exec
  have hb := B.bytes
  have hr := B.returns
  have hts := atoms_spec (ws := ws) B.pre
  have hown : s.vm.findClass y.cls = some m.cls := findClass_of_methodNamed B.named
  have hlocks := B.notSynchronized
  subst hsz
  have hD := hD0.self (sz := s.heap.size)
  have hl := lv_entry av (n := maxL) hn
  rw [lg_entry_eq]
  generalize (lg_sl av ++ List.replicate (maxL - (lg_sl av).length) Slot.unset).toArray = ls at hl ⊢
  refine body p e s m av.toArray below meth c _ (va_A (cs u) s.heap.size) hx hb hml hts hown hK (fun q h => Or.inr h) ?_ ls hl hP hD va_S.rf
  intro v u' H locs ls pc hk hP hD hS hd
  exact W.lret hx hb hr (fun t ht hW => ⟨⟨v, u', rfl, hk, by rw [ht]; exact hP, hD⟩, hS.F ht⟩) hS.2.2 hd
/-- nothing -/
theorem q_ev {K : S → Prop} (hy : plainName y.cls = true) (hw : ws = Cond.code y code maxL none :: ws') (hn : (lg_sl av).length ≤ maxL)
    (body : ∀ (p : Program) (e : Env) (s : State) (m : MethodId) (args : Array Value) (below : List Frame) (meth : Method) (c : Code) (Q : State → Prop) (A : Nat → Prop), p.tables.exec = Jvm.exec → c.code = code → c.maxLocals = maxL → (∀ w ∈ ws, w.before args s = true) → s.vm.findClass y.cls = some m.cls → qK D kc s → (∀ q : Nat, s.heap.size ≤ q → A q) →
      (∀ (u' : S) (H : Heap) (locs : List Loc) (ls : Array Slot) (pc : Nat), K u' → va_P D vwCl (cs u') H → va_D A (cs u') → va_S A s.heap H locs → decode code pc = .ok (.return_, 1) → W p l e rm s m args below meth c H locs 0 0 Q (F0 m pc ls [])) →
      ∀ ls : Array Slot, lv_has ls maxL (lv_args 0 av) → va_P D vwCl (cs u) s.heap → va_D A (cs u) → va_S A s.heap s.heap [] → W p l e rm s m args below meth c s.heap [] 0 0 Q (F0 m 0 ls [])) :
    MetV l y ws rm D kc cs u av sz K := by
  refine Met.ofW (cc := code) (maxL := maxL) (ret := none) hy hw ?_
  intro p e s m args below meth c s₁ B hml hv
  obtain ⟨rfl, hsz, hP, hK, hD0⟩ := hv
  have hx := B.exec
  have hb := B.bytes
  have hr := B.returns
  have hts := atoms_spec (ws := ws) B.pre
  have hown : s.vm.findClass y.cls = some m.cls := findClass_of_methodNamed B.named
  have hlocks := B.notSynchronized
  subst hsz
  have hD := hD0.self (sz := s.heap.size)
  have hl := lv_entry av (n := maxL) hn
  rw [lg_entry_eq]
  generalize (lg_sl av ++ List.replicate (maxL - (lg_sl av).length) Slot.unset).toArray = ls at hl ⊢
  refine body p e s m av.toArray below meth c _ (va_A (cs u) s.heap.size) hx hb hml hts hown hK (fun q h => Or.inr h) ?_ ls hl hP hD va_S.rf
  intro u' H locs ls pc hk hP hD hS hd
  exact W.vret hx hb hr (fun t ht hW => ⟨⟨u', rfl, hk, by rw [ht]; exact hP, hD⟩, hS.F ht⟩) hS.2.2 hd
end QE
/-- cells wc cut out of ws, put back as w1 u: then all is wj u -/
def qCut {S : Type} (D : va_G) (ws wc : va_W) (w1 wj : S → va_W) : Prop :=
  (∀ H : Heap, va_P D vwCl ws H → va_P D vwCl wc H) ∧ (∀ A : Nat → Prop, va_D A ws → va_D A wc) ∧
  (∀ (A0 : Nat → Prop) (H H1 : Heap) (u : S), va_P D vwCl ws H → va_D A0 ws → (∀ q : Nat, q < H.size → ¬ va_A wc H.size q → H1[q]? = H[q]?) → (∀ q, va_A wc H.size q → A0 q) → va_P D vwCl (w1 u) H1 → va_D (va_A wc H.size) (w1 u) → va_P D vwCl (wj u) H1 ∧ va_D A0 (wj u)) ∧
  (∀ (A0 : Nat → Prop) (H0 H : Heap) (locs : List Loc), va_D A0 ws → va_S A0 H0 H locs → (∀ q, H0.size ≤ q → A0 q) → ∀ q, va_A wc H.size q → A0 q)
theorem cut_same {S : Type} {D : va_G} (cs : S → va_W) (u : S) : qCut D (cs u) (cs u) cs cs :=
  ⟨fun _ h => h, fun _ h => h, fun A0 H H1 u' _ _ _ hF hP hD => ⟨hP, hD.weaken (fun _ q _ h => hF q.1 h)⟩, fun A0 H0 H locs hD hS hA q h => by
    rcases h with ⟨k, e, h⟩ | h
    · exact hD.2 k (q, e) h
    · exact hA q (Nat.le_trans hS.1 h)⟩
theorem cut_nil {D : va_G} (ws : va_W) : qCut (S := Unit) D ws [] (fun _ => []) (fun _ => ws) :=
  ⟨fun _ _ k q h => by simp at h, fun _ _ => ⟨fun i j p q h => by simp at h, fun k q h => by simp at h⟩, fun A0 H H1 u' hP hD hk hF _ _ => ⟨hP.kept (fun k q hq => hk q.1 (hP k q hq).lt (fun h => by
      rcases h with ⟨k2, e, h⟩ | h
      · simp at h
      · exact absurd (hP k q hq).lt (Nat.not_lt.mpr h))), hD⟩, fun A0 H0 H locs hD hS hA q h => by
    rcases h with ⟨k, e, h⟩ | h
    · simp at h
    · exact hA q (Nat.le_trans hS.1 h)⟩
theorem cut_idx {S : Type} {D : va_G} {ws wc wr : va_W} {w1 wj : S → va_W} (isC isR perm : List Nat) (hC : isC.map (fun i => ws[i]?) = wc.map some) (hR : isR.map (fun i => ws[i]?) = wr.map some) (hn : va_nd isR = true) (hc : va_nd isC = true) (hdis : ∀ i ∈ isR, i ∉ isC) (hp : va_nd perm = true) (hj : ∀ u, perm.map (fun i => (wr ++ w1 u)[i]?) = (wj u).map some) : qCut D ws wc w1 wj := by
  have hsub : ∀ {a b : va_W} {is : List Nat}, is.map (fun i => a[i]?) = b.map some → is.filterMap (fun i => a[i]?) = b := by
    intro a b is h
    have h1 : (is.map (fun i => a[i]?)).filterMap id = (b.map some).filterMap id := by rw [h]
    simpa [List.filterMap_map] using h1
  refine ⟨fun H hP => hP.sub isC (hsub hC), fun A hD => hD.sub isC hc hC, fun A0 H H1 u hP hD hk hF hP1 hD1 => ?_, fun A0 H0 H locs hD hS hA => va_free hD hS hA isC hC⟩
  obtain ⟨g1, g2⟩ := va_join hP hD isC isR hC hR hn hdis hk hF hP1 hD1
  exact ⟨g1.sub perm (hsub (hj u)), g2.sub perm hp (hj u)⟩
section QC
variable {p : Program} {l : Launch} {e : Env} {R : Room} {s : State} {m : MethodId} {args : Array Value} {below : List Frame} {meth : Method} {c : Code} {H : Heap} {locs : List Loc} {cells slots : Nat} {Q : State → Prop}
variable {cc : ByteArray} {pc : Nat} {ls : Array Slot} {rest st0 : List Value} {b : Nat} {nL n maxL index : Nat} {y : MethodName} {bytes : ByteArray} {ret : Option FieldType} {wsy Ts : List Cond} {rm : Room} {own C host : String} {D : va_G} {kc : Nat → ClassId} {S : Type} {cs wj : S → va_W} {u : S} {As : List Value} {ws : va_W} {A : Nat → Prop} {H0 : Heap}
theorem q_pre (hK : qK D kc s) (hc : qCut D ws (cs u) cs wj) (hP : va_P D vwCl ws H) (hD : va_D A ws) (av : List Value) : FrameBlind (va_Pc av (qPc D kc (cs u) H.size)) ∧ ∀ U : State, U.heap = H → s.WarmedH U.vm → va_Pc av (qPc D kc (cs u) H.size) av.toArray U :=
  ⟨qPc.blind, fun U hU hW => ⟨rfl, by rw [hU], by rw [hU]; exact hc.1 H hP, qK.warm hW hK, (hc.2.1 A hD).weaken (fun _ _ _ _ => trivial)⟩⟩
/-- a virtual call that gives an int -/
theorem q_cVi (S0 : CallFix p m c cc nL s args Ts own) (hK : qK D kc s) {K : Int32 → S → Prop} (hM : MetI l y wsy rm D kc cs u (.ref b :: As) H.size K) (cw : CallW R s args own C index y bytes maxL ret wsy rm 0 0 n) (hc : qCut D ws (cs u) cs wj) (hP : va_P D vwCl ws H) (hD : va_D A ws) (hS : va_S A H0 H locs) (hA : ∀ q, H0.size ≤ q → A q) (ci q0 : Nat) {T : u_T} {N : Nat} {fs : List Value} (hcl : vwCl[ci]? = some (C, T, N)) (he : (cs u)[q0]? = some (b, .inr (ci, fs))) (hn : As.length = n) (hl : ls.size = nL) (hst : st0 = As.reverse ++ .ref b :: rest) (hr : (rest.map fun v => v.category).sum ≤ 8) (hdg : decode cc pc = .ok (.invokevirtual index, 3)) (hf : cells ≤ R.cells ∧ slots ≤ R.slots)
    (kk : ∀ (r : Int32) (u' : S) (H1 : Heap) (locs1 : List Loc), K r u' → va_P D vwCl (wj u') H1 → va_D A (wj u') → va_S A H0 H1 locs1 → W p l e R s m args below meth c H1 locs1 cells slots Q (F0 m (pc + 3) ls (.int r :: rest))) : W p l e R s m args below meth c H locs cells slots Q (F0 m pc ls st0) := by
  subst hst
  have hF := hc.2.2.2 A H0 H locs hD hS hA
  refine va_calli (va_runV (As := As) (rest := rest) S0 hM cw ⟨(q_pre hK hc hP hD _).1, va_recv hK.1 (hc.1 H hP) hcl he, (q_pre hK hc hP hD _).2⟩ rfl hn hl rfl (lv_room hr) hdg hf) hS (fun q _ h => hF q h) hF (fun r u' t H1 locs1 ht hvm hk hB hz hk1 hS1 => ?_)
  obtain ⟨hP1, hD1⟩ := hB
  rw [ht] at hP1
  obtain ⟨g1, g2⟩ := hc.2.2.1 A H H1 u' hP hD hk1 hF hP1 hD1
  exact kk r u' H1 locs1 hk g1 g2 hS1
theorem q_cVv (S0 : CallFix p m c cc nL s args Ts own) (hK : qK D kc s) {K : S → Prop} (hM : MetV l y wsy rm D kc cs u (.ref b :: As) H.size K) (cw : CallW R s args own C index y bytes maxL ret wsy rm 0 0 n) (hc : qCut D ws (cs u) cs wj) (hP : va_P D vwCl ws H) (hD : va_D A ws) (hS : va_S A H0 H locs) (hA : ∀ q, H0.size ≤ q → A q) (ci q0 : Nat) {T : u_T} {N : Nat} {fs : List Value} (hcl : vwCl[ci]? = some (C, T, N)) (he : (cs u)[q0]? = some (b, .inr (ci, fs))) (hn : As.length = n) (hl : ls.size = nL) (hst : st0 = As.reverse ++ .ref b :: rest) (hr : (rest.map fun v => v.category).sum ≤ 8) (hdg : decode cc pc = .ok (.invokevirtual index, 3)) (hf : cells ≤ R.cells ∧ slots ≤ R.slots)
    (kk : ∀ (u' : S) (H1 : Heap) (locs1 : List Loc), K u' → va_P D vwCl (wj u') H1 → va_D A (wj u') → va_S A H0 H1 locs1 → W p l e R s m args below meth c H1 locs1 cells slots Q (F0 m (pc + 3) ls rest)) : W p l e R s m args below meth c H locs cells slots Q (F0 m pc ls st0) := by
  subst hst
  have hF := hc.2.2.2 A H0 H locs hD hS hA
  refine va_callv (va_runV (As := As) (rest := rest) S0 hM cw ⟨(q_pre hK hc hP hD _).1, va_recv hK.1 (hc.1 H hP) hcl he, (q_pre hK hc hP hD _).2⟩ rfl hn hl rfl (lv_room hr) hdg hf) hS (fun q _ h => hF q h) hF (fun u' t H1 locs1 ht hvm hk hB hz hk1 hS1 => ?_)
  obtain ⟨hP1, hD1⟩ := hB
  rw [ht] at hP1
  obtain ⟨g1, g2⟩ := hc.2.2.1 A H H1 u' hP hD hk1 hF hP1 hD1
  exact kk u' H1 locs1 hk g1 g2 hS1
theorem q_cVl (S0 : CallFix p m c cc nL s args Ts own) (hK : qK D kc s) {K : Int64 → S → Prop} (hM : MetL l y wsy rm D kc cs u (.ref b :: As) H.size K) (cw : CallW R s args own C index y bytes maxL ret wsy rm 0 0 n) (hc : qCut D ws (cs u) cs wj) (hP : va_P D vwCl ws H) (hD : va_D A ws) (hS : va_S A H0 H locs) (hA : ∀ q, H0.size ≤ q → A q) (ci q0 : Nat) {T : u_T} {N : Nat} {fs : List Value} (hcl : vwCl[ci]? = some (C, T, N)) (he : (cs u)[q0]? = some (b, .inr (ci, fs))) (hn : As.length = n) (hl : ls.size = nL) (hst : st0 = As.reverse ++ .ref b :: rest) (hr : (rest.map fun v => v.category).sum ≤ 8) (hdg : decode cc pc = .ok (.invokevirtual index, 3)) (hf : cells ≤ R.cells ∧ slots ≤ R.slots)
    (kk : ∀ (r : Int64) (u' : S) (H1 : Heap) (locs1 : List Loc), K r u' → va_P D vwCl (wj u') H1 → va_D A (wj u') → va_S A H0 H1 locs1 → W p l e R s m args below meth c H1 locs1 cells slots Q (F0 m (pc + 3) ls (.long r :: rest))) : W p l e R s m args below meth c H locs cells slots Q (F0 m pc ls st0) := by
  subst hst
  have hF := hc.2.2.2 A H0 H locs hD hS hA
  refine va_calll (va_runV (As := As) (rest := rest) S0 hM cw ⟨(q_pre hK hc hP hD _).1, va_recv hK.1 (hc.1 H hP) hcl he, (q_pre hK hc hP hD _).2⟩ rfl hn hl rfl (lv_room hr) hdg hf) hS (fun q _ h => hF q h) hF (fun r u' t H1 locs1 ht hvm hk hB hz hk1 hS1 => ?_)
  obtain ⟨hP1, hD1⟩ := hB
  rw [ht] at hP1
  obtain ⟨g1, g2⟩ := hc.2.2.1 A H H1 u' hP hD hk1 hF hP1 hD1
  exact kk r u' H1 locs1 hk g1 g2 hS1
/-- a static call that gives an int -/
theorem q_cSi (S0 : CallFix p m c cc nL s args Ts own) (hK : qK D kc s) {K : Int32 → S → Prop} (hM : MetI l y wsy rm D kc cs u As H.size K) (cw : CallB R s args own index y bytes maxL ret wsy rm 0 0 n ∧ (Cond.static y).before args s = true) (hc : qCut D ws (cs u) cs wj) (hP : va_P D vwCl ws H) (hD : va_D A ws) (hS : va_S A H0 H locs) (hA : ∀ q, H0.size ≤ q → A q) (hn : As.length = n) (hl : ls.size = nL) (hst : st0 = As.reverse ++ rest) (hr : (rest.map fun v => v.category).sum ≤ 8) (hdg : decode cc pc = .ok (.invokestatic index, 3)) (hf : cells ≤ R.cells ∧ slots ≤ R.slots)
    (kk : ∀ (r : Int32) (u' : S) (H1 : Heap) (locs1 : List Loc), K r u' → va_P D vwCl (wj u') H1 → va_D A (wj u') → va_S A H0 H1 locs1 → W p l e R s m args below meth c H1 locs1 cells slots Q (F0 m (pc + 3) ls (.int r :: rest))) : W p l e R s m args below meth c H locs cells slots Q (F0 m pc ls st0) := by
  subst hst
  have hF := hc.2.2.2 A H0 H locs hD hS hA
  refine va_calli (va_runS (As := As) (rest := rest) S0 hM cw (q_pre hK hc hP hD _) rfl hn hl rfl (lv_room hr) hdg hf) hS (fun q _ h => hF q h) hF (fun r u' t H1 locs1 ht hvm hk hB hz hk1 hS1 => ?_)
  obtain ⟨hP1, hD1⟩ := hB
  rw [ht] at hP1
  obtain ⟨g1, g2⟩ := hc.2.2.1 A H H1 u' hP hD hk1 hF hP1 hD1
  exact kk r u' H1 locs1 hk g1 g2 hS1
theorem q_cSl (S0 : CallFix p m c cc nL s args Ts own) (hK : qK D kc s) {K : Int64 → S → Prop} (hM : MetL l y wsy rm D kc cs u As H.size K) (cw : CallB R s args own index y bytes maxL ret wsy rm 0 0 n ∧ (Cond.static y).before args s = true) (hc : qCut D ws (cs u) cs wj) (hP : va_P D vwCl ws H) (hD : va_D A ws) (hS : va_S A H0 H locs) (hA : ∀ q, H0.size ≤ q → A q) (hn : As.length = n) (hl : ls.size = nL) (hst : st0 = As.reverse ++ rest) (hr : (rest.map fun v => v.category).sum ≤ 8) (hdg : decode cc pc = .ok (.invokestatic index, 3)) (hf : cells ≤ R.cells ∧ slots ≤ R.slots)
    (kk : ∀ (r : Int64) (u' : S) (H1 : Heap) (locs1 : List Loc), K r u' → va_P D vwCl (wj u') H1 → va_D A (wj u') → va_S A H0 H1 locs1 → W p l e R s m args below meth c H1 locs1 cells slots Q (F0 m (pc + 3) ls (.long r :: rest))) : W p l e R s m args below meth c H locs cells slots Q (F0 m pc ls st0) := by
  subst hst
  have hF := hc.2.2.2 A H0 H locs hD hS hA
  refine va_calll (va_runS (As := As) (rest := rest) S0 hM cw (q_pre hK hc hP hD _) rfl hn hl rfl (lv_room hr) hdg hf) hS (fun q _ h => hF q h) hF (fun r u' t H1 locs1 ht hvm hk hB hz hk1 hS1 => ?_)
  obtain ⟨hP1, hD1⟩ := hB
  rw [ht] at hP1
  obtain ⟨g1, g2⟩ := hc.2.2.1 A H H1 u' hP hD hk1 hF hP1 hD1
  exact kk r u' H1 locs1 hk g1 g2 hS1
/-- a nest mate's static -/
theorem q_cNi (S0 : CallFix p m c cc nL s args Ts own) (hK : qK D kc s) {K : Int32 → S → Prop} (hM : MetI l y wsy rm D kc cs u As H.size K) (cw : va_CN R s args own index y host bytes maxL ret wsy rm 0 0 n ∧ (Cond.static y).before args s = true ∧ True) (hc : qCut D ws (cs u) cs wj) (hP : va_P D vwCl ws H) (hD : va_D A ws) (hS : va_S A H0 H locs) (hA : ∀ q, H0.size ≤ q → A q) (hn : As.length = n) (hl : ls.size = nL) (hst : st0 = As.reverse ++ rest) (hr : (rest.map fun v => v.category).sum ≤ 8) (hdg : decode cc pc = .ok (.invokestatic index, 3)) (hf : cells ≤ R.cells ∧ slots ≤ R.slots)
    (kk : ∀ (r : Int32) (u' : S) (H1 : Heap) (locs1 : List Loc), K r u' → va_P D vwCl (wj u') H1 → va_D A (wj u') → va_S A H0 H1 locs1 → W p l e R s m args below meth c H1 locs1 cells slots Q (F0 m (pc + 3) ls (.int r :: rest))) : W p l e R s m args below meth c H locs cells slots Q (F0 m pc ls st0) := by
  subst hst
  have hF := hc.2.2.2 A H0 H locs hD hS hA
  refine va_calli (va_runSN (As := As) (rest := rest) S0 hM cw (q_pre hK hc hP hD _) rfl hn hl rfl (lv_room hr) hdg hf) hS (fun q _ h => hF q h) hF (fun r u' t H1 locs1 ht hvm hk hB hz hk1 hS1 => ?_)
  obtain ⟨hP1, hD1⟩ := hB
  rw [ht] at hP1
  obtain ⟨g1, g2⟩ := hc.2.2.1 A H H1 u' hP hD hk1 hF hP1 hD1
  exact kk r u' H1 locs1 hk g1 g2 hS1
end QC
theorem q_to {D : va_G} {ws ws' : va_W} {H : Heap} (h : va_P D vwCl ws H) (e : ws = ws') : va_P D vwCl ws' H := e ▸ h
theorem q_toD {A : Nat → Prop} {ws ws' : va_W} (h : va_D A ws) (e : ws = ws') : va_D A ws' := e ▸ h
