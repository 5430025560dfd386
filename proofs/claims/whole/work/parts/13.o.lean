/-! CONSTRUCTORS of the class and of the reference: rows -/
theorem q_appP {D : va_G} {w1 w2 : va_W} {H : Heap} (h1 : va_P D vwCl w1 H) (h2 : va_P D vwCl w2 H) : va_P D vwCl (w1 ++ w2) H := by
  intro k q hk
  by_cases h : k < w1.length
  · rw [List.getElem?_append_left h] at hk; exact h1 k q hk
  · rw [List.getElem?_append_right (by omega)] at hk; exact h2 _ q hk
theorem q_lP {D : va_G} {w1 w2 : va_W} {H : Heap} (h : va_P D vwCl (w1 ++ w2) H) : va_P D vwCl w1 H := fun k q hk => h k q (by
  rw [List.getElem?_append_left (List.getElem?_eq_some_iff.mp hk).1]; exact hk)
theorem q_rP {D : va_G} {w1 w2 : va_W} {H : Heap} (h : va_P D vwCl (w1 ++ w2) H) : va_P D vwCl w2 H := fun k q hk => h (w1.length + k) q (by
  rw [List.getElem?_append_right (by omega), show w1.length + k - w1.length = k by omega]; exact hk)
theorem q_appD {A : Nat → Prop} {w1 w2 : va_W} (h1 : va_D A w1) (h2 : va_D A w2) (ha : ∀ (i j : Nat) (p q : Nat × va_E), w1[i]? = some p → w2[j]? = some q → p.1 ≠ q.1) : va_D A (w1 ++ w2) := by
  refine ⟨fun i j p q hi hj e => ?_, fun k q hk => ?_⟩
  · by_cases h : i < w1.length
    · rw [List.getElem?_append_left h] at hi
      by_cases g : j < w1.length
      · rw [List.getElem?_append_left g] at hj; exact h1.1 i j p q hi hj e
      · rw [List.getElem?_append_right (by omega)] at hj; exact absurd e (ha _ _ p q hi hj)
    · rw [List.getElem?_append_right (by omega)] at hi
      by_cases g : j < w1.length
      · rw [List.getElem?_append_left g] at hj; exact absurd e.symm (ha _ _ q p hj hi)
      · rw [List.getElem?_append_right (by omega)] at hj
        have := h2.1 _ _ p q hi hj e
        omega
  · by_cases h : k < w1.length
    · rw [List.getElem?_append_left h] at hk; exact h1.2 k q hk
    · rw [List.getElem?_append_right (by omega)] at hk; exact h2.2 _ q hk
theorem q_lD {A : Nat → Prop} {w1 w2 : va_W} (h : va_D A (w1 ++ w2)) : va_D A w1 := ⟨fun i j p q hi hj e => h.1 i j p q (by rw [List.getElem?_append_left (List.getElem?_eq_some_iff.mp hi).1]; exact hi) (by rw [List.getElem?_append_left (List.getElem?_eq_some_iff.mp hj).1]; exact hj) e, fun k q hk => h.2 k q (by rw [List.getElem?_append_left (List.getElem?_eq_some_iff.mp hk).1]; exact hk)⟩
theorem q_rAt {w1 w2 : va_W} {k : Nat} {q : Nat × va_E} (hk : w2[k]? = some q) : (w1 ++ w2)[w1.length + k]? = some q := by
  rw [List.getElem?_append_right (by omega), show w1.length + k - w1.length = k by omega]; exact hk
theorem q_rD {A : Nat → Prop} {w1 w2 : va_W} (h : va_D A (w1 ++ w2)) : va_D A w2 := ⟨fun i j p q hi hj e => by
  have := h.1 _ _ p q (q_rAt hi) (q_rAt hj) e
  omega, fun k q hk => h.2 _ q (q_rAt hk)⟩
theorem q_apart {A : Nat → Prop} {w1 w2 : va_W} (h : va_D A (w1 ++ w2)) {i j : Nat} {p q : Nat × va_E} (hi : w1[i]? = some p) (hj : w2[j]? = some q) : p.1 ≠ q.1 := fun e => by
  have hl := (List.getElem?_eq_some_iff.mp hi).1
  have := h.1 i (w1.length + j) p q (by rw [List.getElem?_append_left hl]; exact hi) (q_rAt hj) e
  omega
theorem q_swD {A : Nat → Prop} {w1 w2 : va_W} (h : va_D A (w1 ++ w2)) : va_D A (w2 ++ w1) := q_appD (q_rD h) (q_lD h) (fun i j p q hi hj e => q_apart h hj hi e.symm)
theorem q_swP {D : va_G} {w1 w2 : va_W} {H : Heap} (h : va_P D vwCl (w1 ++ w2) H) : va_P D vwCl (w2 ++ w1) H := q_appP (q_rP h) (q_lP h)
/-- the cells wc behind ws were cut out and came back as w1 -/
theorem q_jr {D : va_G} {ws wc w1 : va_W} {A0 : Nat → Prop} {H H1 : Heap} (hP : va_P D vwCl (ws ++ wc) H) (hD : va_D A0 (ws ++ wc)) (hk : ∀ q : Nat, q < H.size → ¬ va_A wc H.size q → H1[q]? = H[q]?) (hF : ∀ q, va_A wc H.size q → A0 q) (hP1 : va_P D vwCl w1 H1) (hD1 : va_D (va_A wc H.size) w1) : va_P D vwCl (ws ++ w1) H1 ∧ va_D A0 (ws ++ w1) := by
  have hPl := q_lP hP
  have ap : ∀ (k : Nat) (q : Nat × va_E), ws[k]? = some q → ¬ va_A wc H.size q.1 := fun k q hq h => by
    rcases h with ⟨k2, e, h⟩ | h
    · exact q_apart hD hq h rfl
    · exact absurd (hPl k q hq).lt (Nat.not_lt.mpr h)
  refine ⟨q_appP (hPl.kept (fun k q hq => hk q.1 (hPl k q hq).lt (ap k q hq))) hP1, q_appD (q_lD hD) (hD1.weaken (fun _ q _ h => hF q.1 h)) (fun i j p q hi hj e => ?_)⟩
  exact ap i p hi (by rw [e]; exact hD1.2 j q hj)
theorem q_frR {ws wc : va_W} {A0 : Nat → Prop} {H0 H : Heap} {locs : List Loc} (hD : va_D A0 (ws ++ wc)) (hS : va_S A0 H0 H locs) (hA : ∀ q, H0.size ≤ q → A0 q) : ∀ q, va_A wc H.size q → A0 q := fun q h => by
  rcases h with ⟨k, e, h⟩ | h
  · exact (q_rD hD).2 k (q, e) h
  · exact hA q (Nat.le_trans hS.1 h)
theorem cut_r {S : Type} {D : va_G} (ws wc : va_W) (w1 : S → va_W) : qCut D (ws ++ wc) wc w1 (fun u => ws ++ w1 u) :=
  ⟨fun _ h => q_rP h, fun _ h => q_rD h, fun _ _ _ _ hP hD hk hF hP1 hD1 => q_jr hP hD hk hF hP1 hD1, fun _ _ _ _ hD hS hA => q_frR hD hS hA⟩
theorem cut_l {S : Type} {D : va_G} (ws wc : va_W) (w1 : S → va_W) : qCut D (wc ++ ws) wc w1 (fun u => w1 u ++ ws) :=
  ⟨fun _ h => q_lP h, fun _ h => q_lD h, fun _ _ _ _ hP hD hk hF hP1 hD1 => by
    obtain ⟨g1, g2⟩ := q_jr (q_swP hP) (q_swD hD) hk hF hP1 hD1
    exact ⟨q_swP g1, q_swD g2⟩, fun _ _ _ _ hD hS hA => q_frR (q_swD hD) hS hA⟩
theorem q_arrP {D : va_G} {ws : va_W} {H : Heap} {k b n : Nat} {cA : ClassId} {f g : Nat → Option Nat} (hP : va_P D vwCl ws H) (hk : ws[k]? = some (b, .inl (cA, n, .inr (.inr (.inr (.inr f)))))) (h : ∀ j, j < n → f j = g j) : va_P D vwCl (ws.set k (b, .inl (cA, n, .inr (.inr (.inr (.inr g)))))) H := by
  intro i q hq
  by_cases e : k = i
  · subst e
    have hl := (List.getElem?_eq_some_iff.mp hk).1
    rw [List.getElem?_set_self hl] at hq
    cases hq
    have h0 : H[b]? = some (vp_cell cA (n, .inr (.inr (.inr (.inr f))))) := hP k _ hk
    show H[b]? = some (vp_cell cA (n, .inr (.inr (.inr (.inr g)))))
    rw [h0]
    have : (fun j : Fin n => va_rf (f j.val)) = (fun j : Fin n => va_rf (g j.val)) := funext (fun j => by rw [h j.val j.isLt])
    show some (arrV cA n (fun j => va_rf (f j))) = some (arrV cA n (fun j => va_rf (g j)))
    unfold arrV
    rw [this]
  · rw [List.getElem?_set_ne e] at hq
    exact hP i q hq
theorem q_setD {A : Nat → Prop} {ws : va_W} {k b : Nat} {e e' : va_E} (hD : va_D A ws) (hk : ws[k]? = some (b, e)) : va_D A (ws.set k (b, e')) := by
  have hl := (List.getElem?_eq_some_iff.mp hk).1
  have key : ∀ (i : Nat) (q : Nat × va_E), (ws.set k (b, e'))[i]? = some q → ∃ q' : Nat × va_E, ws[i]? = some q' ∧ q'.1 = q.1 := fun i q hq => by
    by_cases h : k = i
    · subst h
      rw [List.getElem?_set_self hl] at hq
      cases hq
      exact ⟨_, hk, rfl⟩
    · rw [List.getElem?_set_ne h] at hq
      exact ⟨q, hq, rfl⟩
  refine ⟨fun i j p q hi hj h => ?_, fun i q hi => ?_⟩
  · obtain ⟨p', a1, a2⟩ := key i p hi
    obtain ⟨q', b1, b2⟩ := key j q hj
    exact hD.1 i j p' q' a1 b1 (by rw [a2, b2]; exact h)
  · obtain ⟨q', a1, a2⟩ := key i q hi
    rw [← a2]
    exact hD.2 i q' a1
section QI
variable {p : Program} {l : Launch} {e : Env} {R : Room} {s : State} {m : MethodId} {args : Array Value} {below : List Frame} {meth : Method} {c : Code} {H : Heap} {locs : List Loc} {cells slots : Nat} {Q : State → Prop}
variable {cc : ByteArray} {pc : Nat} {ls : Array Slot} {rest : List Value} {b : Nat} {nL maxL index mc ms : Nat} {y : MethodName} {bytes : ByteArray} {wsy Ts : List Cond} {rm : Room} {own host : String} {D : va_G} {kc : Nat → ClassId} {e0 : va_E} {ws : va_W} {A : Nat → Prop} {H0 : Heap} {α : Type} {G : α → Prop} {w1 : α → va_W}
/-- a constructor of a nest mate -/
theorem q_cIN (S0 : CallFix p m c cc nL s args Ts own) (hK : qK D kc s) (hM : MetC l y wsy rm D kc [(b, e0)] [.ref b] H.size mc ms (fun A H => ∃ a : α, G a ∧ va_P D vwCl (w1 a) H ∧ va_D A (w1 a))) (cw : va_CN R s args own index y host bytes maxL none wsy rm mc ms 0 ∧ y.name = "<init>" ∧ (Cond.instanceMethod y).before args s = true) (hP : va_P D vwCl (ws ++ [(b, e0)]) H) (hD : va_D A (ws ++ [(b, e0)])) (hS : va_S A H0 H locs) (hA : ∀ q, H0.size ≤ q → A q) (hl : ls.size = nL) (hr : (rest.map fun v => v.category).sum ≤ 8) (hdg : decode cc pc = .ok (.invokespecial index, 3)) (hf : cells + mc ≤ R.cells ∧ slots + ms ≤ R.slots)
    (kk : ∀ (a : α) (H1 : Heap) (locs1 : List Loc), G a → va_P D vwCl (ws ++ w1 a) H1 → va_D A (ws ++ w1 a) → va_S A H0 H1 locs1 → W p l e R s m args below meth c H1 locs1 (cells + mc) (slots + ms) Q (F0 m (pc + 3) ls rest)) : W p l e R s m args below meth c H locs cells slots Q (F0 m pc ls (.ref b :: rest)) := by
  have hF := q_frR hD hS hA
  refine va_callv (va_runIN (As := []) (rest := rest) S0 hM cw ⟨qPc.blind, fun U hU hW => ⟨rfl, by rw [hU], by rw [hU]; exact q_rP hP, qK.warm hW hK, (q_rD hD).weaken (fun _ _ _ _ => trivial)⟩⟩ rfl rfl hl rfl (lv_room hr) hdg hf) hS (fun q _ h => hF q h) hF (fun u t H1 locs1 ht hvm hk hB hz hk1 hS1 => ?_)
  obtain ⟨a, ha, hP1, hD1⟩ := hB
  rw [ht] at hP1
  obtain ⟨g1, g2⟩ := q_jr hP hD hk1 hF hP1 hD1
  exact kk a H1 locs1 ha g1 g2 hS1
/-- a constructor, by its own link -/
theorem q_cI (S0 : CallFix p m c cc nL s args Ts own) (hK : qK D kc s) (hM : MetC l y wsy rm D kc [(b, e0)] [.ref b] H.size mc ms (fun A H => ∃ a : α, G a ∧ va_P D vwCl (w1 a) H ∧ va_D A (w1 a))) (cw : CallB R s args own index y bytes maxL none wsy rm mc ms 0 ∧ y.name = "<init>" ∧ (Cond.instanceMethod y).before args s = true) (hP : va_P D vwCl (ws ++ [(b, e0)]) H) (hD : va_D A (ws ++ [(b, e0)])) (hS : va_S A H0 H locs) (hA : ∀ q, H0.size ≤ q → A q) (hl : ls.size = nL) (hr : (rest.map fun v => v.category).sum ≤ 8) (hdg : decode cc pc = .ok (.invokespecial index, 3)) (hf : cells + mc ≤ R.cells ∧ slots + ms ≤ R.slots)
    (kk : ∀ (a : α) (H1 : Heap) (locs1 : List Loc), G a → va_P D vwCl (ws ++ w1 a) H1 → va_D A (ws ++ w1 a) → va_S A H0 H1 locs1 → W p l e R s m args below meth c H1 locs1 (cells + mc) (slots + ms) Q (F0 m (pc + 3) ls rest)) : W p l e R s m args below meth c H locs cells slots Q (F0 m pc ls (.ref b :: rest)) := by
  have hF := q_frR hD hS hA
  refine va_callv (va_runI (As := []) (rest := rest) S0 hM cw ⟨qPc.blind, fun U hU hW => ⟨rfl, by rw [hU], by rw [hU]; exact q_rP hP, qK.warm hW hK, (q_rD hD).weaken (fun _ _ _ _ => trivial)⟩⟩ rfl rfl hl rfl (lv_room hr) hdg hf) hS (fun q _ h => hF q h) hF (fun u t H1 locs1 ht hvm hk hB hz hk1 hS1 => ?_)
  obtain ⟨a, ha, hP1, hD1⟩ := hB
  rw [ht] at hP1
  obtain ⟨g1, g2⟩ := q_jr hP hD hk1 hF hP1 hD1
  exact kk a H1 locs1 ha g1 g2 hS1
end QI
/-- the class's own constructor also asks for the arrays of its parts -/
def qPcO (D : va_G) (kc : Nat → ClassId) (ws : va_W) (sz : Nat) (U : State) : Prop := qPc D kc ws sz U ∧ va_AO RX2 U ∧ va_AO RX0 U
theorem qPcO.blind {D : va_G} {kc : Nat → ClassId} {ws : va_W} {sz : Nat} {av : List Value} : FrameBlind (va_Pc av (qPcO D kc ws sz)) := by
  intro a U g mk q
  obtain ⟨q0, ⟨q1, qP, qk, qD⟩, o2, o0⟩ := q
  exact ⟨q0, ⟨q1, qP, ⟨va_K.moved (u := U) (U := U.calling g mk a) (Vm.Alike.refl U.vm) qk.1, qN.same rfl qk.2⟩, qD⟩, va_AO.moved (u := U) (U := U.calling g mk a) (Vm.Alike.refl U.vm) o2, va_AO.moved (u := U) (U := U.calling g mk a) (Vm.Alike.refl U.vm) o0⟩
abbrev MetO (l : Launch) (y : MethodName) (ws : List Cond) (rm : Room) (D : va_G) (kc : Nat → ClassId) (w0 : va_W) (av : List Value) (sz mc ms : Nat) (Post : (Nat → Prop) → Heap → Prop) : Prop :=
  Met l y ws rm (va_Pc av (qPcO D kc w0 sz)) (va_Qv (S := Unit) (fun _ => True) (fun _ t => Post (va_A w0 sz) t.heap) (va_A w0 sz)) mc ms (va_A w0 sz)
theorem q_eo {l : Launch} {y : MethodName} {code : ByteArray} {maxL : Nat} {ws ws' : List Cond} {rm : Room} {D : va_G} {kc : Nat → ClassId} {w0 : va_W} {av : List Value} {sz mc ms : Nat} {Post : (Nat → Prop) → Heap → Prop} (hy : plainName y.cls = true) (hi : y.name = "<init>") (hw : ws = Cond.code y code maxL none :: ws') (hn : (lg_sl av).length ≤ maxL)
    (body : ∀ (p : Program) (e : Env) (s : State) (m : MethodId) (args : Array Value) (below : List Frame) (meth : Method) (c : Code) (Q : State → Prop) (A : Nat → Prop), p.tables.exec = Jvm.exec → c.code = code → c.maxLocals = maxL → (∀ w ∈ ws, w.before args s = true) → s.vm.findClass y.cls = some m.cls → qK D kc s → va_AO RX2 s → va_AO RX0 s → meth.name = "<init>" → (∀ q : Nat, s.heap.size ≤ q → A q) →
      (∀ (H : Heap) (locs : List Loc) (ls : Array Slot) (pc : Nat), Post A H → va_S A s.heap H locs → decode code pc = .ok (.return_, 1) → W p l e rm s m args below meth c H locs mc ms Q (F0 m pc ls [])) →
      ∀ ls : Array Slot, lv_has ls maxL (lv_args 0 av) → va_P D vwCl w0 s.heap → va_D A w0 → va_S A s.heap s.heap [] → W p l e rm s m args below meth c s.heap [] 0 0 Q (F0 m 0 ls [])) :
    MetO l y ws rm D kc w0 av sz mc ms Post := by
  refine Met.ofW (cc := code) (maxL := maxL) (ret := none) hy hw ?_
  intro p e s m args below meth c s₁ B hml hv
  obtain ⟨rfl, ⟨hsz, hP, hK, hD0⟩, hO2, hO0⟩ := hv
  have hx := B.exec
  have hb := B.bytes
  have hr := B.returns
  have hts := atoms_spec (ws := ws) B.pre
  have hown : s.vm.findClass y.cls = some m.cls := findClass_of_methodNamed B.named
  have hlocks := B.notSynchronized
  have hin : meth.name = "<init>" := (name_of_methodNamed B.named B.method).1.trans hi
  subst hsz
  have hD := hD0.self (sz := s.heap.size)
  have hl := lv_entry av (n := maxL) hn
  rw [lg_entry_eq]
  generalize (lg_sl av ++ List.replicate (maxL - (lg_sl av).length) Slot.unset).toArray = ls at hl ⊢
  refine body p e s m av.toArray below meth c _ (va_A w0 s.heap.size) hx hb hml hts hown hK hO2 hO0 hin (fun q h => Or.inr h) ?_ ls hl hP hD va_S.rf
  intro H locs ls pc hk hS hd
  exact W.vret hx hb hr (fun t ht hW => ⟨⟨(), rfl, trivial, by show Post _ t.heap; rw [ht]; exact hk⟩, hS.F ht⟩) hS.2.2 hd
section QIO
variable {p : Program} {l : Launch} {e : Env} {R : Room} {s : State} {m : MethodId} {args : Array Value} {below : List Frame} {meth : Method} {c : Code} {H : Heap} {locs : List Loc} {cells slots : Nat} {Q : State → Prop}
variable {cc : ByteArray} {pc : Nat} {ls : Array Slot} {rest : List Value} {b : Nat} {nL maxL index mc ms : Nat} {y : MethodName} {bytes : ByteArray} {wsy Ts : List Cond} {rm : Room} {own host : String} {D : va_G} {kc : Nat → ClassId} {e0 : va_E} {ws : va_W} {A : Nat → Prop} {H0 : Heap} {α : Type} {G : α → Prop} {w1 : α → va_W}
theorem q_cIO (S0 : CallFix p m c cc nL s args Ts own) (hK : qK D kc s) (hO2 : va_AO RX2 s) (hO0 : va_AO RX0 s) (hM : MetO l y wsy rm D kc [(b, e0)] [.ref b] H.size mc ms (fun A H => ∃ a : α, G a ∧ va_P D vwCl (w1 a) H ∧ va_D A (w1 a))) (cw : CallB R s args own index y bytes maxL none wsy rm mc ms 0 ∧ y.name = "<init>" ∧ (Cond.instanceMethod y).before args s = true) (hP : va_P D vwCl (ws ++ [(b, e0)]) H) (hD : va_D A (ws ++ [(b, e0)])) (hS : va_S A H0 H locs) (hA : ∀ q, H0.size ≤ q → A q) (hl : ls.size = nL) (hr : (rest.map fun v => v.category).sum ≤ 8) (hdg : decode cc pc = .ok (.invokespecial index, 3)) (hf : cells + mc ≤ R.cells ∧ slots + ms ≤ R.slots)
    (kk : ∀ (a : α) (H1 : Heap) (locs1 : List Loc), G a → va_P D vwCl (ws ++ w1 a) H1 → va_D A (ws ++ w1 a) → va_S A H0 H1 locs1 → W p l e R s m args below meth c H1 locs1 (cells + mc) (slots + ms) Q (F0 m (pc + 3) ls rest)) : W p l e R s m args below meth c H locs cells slots Q (F0 m pc ls (.ref b :: rest)) := by
  have hF := q_frR hD hS hA
  refine va_callv (va_runI (As := []) (rest := rest) S0 hM cw ⟨qPcO.blind, fun U hU hW => ⟨rfl, ⟨by rw [hU], by rw [hU]; exact q_rP hP, qK.warm hW hK, (q_rD hD).weaken (fun _ _ _ _ => trivial)⟩, va_AO.moved hW.alike hO2, va_AO.moved hW.alike hO0⟩⟩ rfl rfl hl rfl (lv_room hr) hdg hf) hS (fun q _ h => hF q h) hF (fun u t H1 locs1 ht hvm hk hB hz hk1 hS1 => ?_)
  obtain ⟨a, ha, hP1, hD1⟩ := hB
  rw [ht] at hP1
  obtain ⟨g1, g2⟩ := q_jr hP hD hk1 hF hP1 hD1
  exact kk a H1 locs1 ha g1 g2 hS1
end QIO
theorem df0 : ∀ j, j < 3 → defaultValue (tyX0 j) = vp_V [.int 0, .int 0, .null] j := fun j hj => by
  rcases (show j = 0 ∨ j = 1 ∨ j = 2 by omega) with rfl | rfl | rfl <;> rfl
theorem df1 : ∀ j, j < 9 → defaultValue (tyX1 j) = vp_V [.null, .int 0, .int 0, .int 0, .int 0, .int 0, .int 0, .int 0, .int 0] j := fun j hj => by
  rcases (show j = 0 ∨ j = 1 ∨ j = 2 ∨ j = 3 ∨ j = 4 ∨ j = 5 ∨ j = 6 ∨ j = 7 ∨ j = 8 by omega) with rfl | rfl | rfl | rfl | rfl | rfl | rfl | rfl | rfl <;> rfl
theorem df2 : ∀ j, j < 13 → defaultValue (tyX2 j) = vp_V [.int 0, .int 0, .int 0, .int 0, .int 0, .int 0, .null, .null, .null, .null, .null, .null, .null] j := fun j hj => by
  rcases (show j = 0 ∨ j = 1 ∨ j = 2 ∨ j = 3 ∨ j = 4 ∨ j = 5 ∨ j = 6 ∨ j = 7 ∨ j = 8 ∨ j = 9 ∨ j = 10 ∨ j = 11 ∨ j = 12 by omega) with rfl | rfl | rfl | rfl | rfl | rfl | rfl | rfl | rfl | rfl | rfl | rfl | rfl <;> rfl
theorem df3 : ∀ j, j < 10 → defaultValue (tyX3 j) = vp_V [.null, .null, .null, .null, .null, .null, .null, .int 0, .null, .null] j := fun j hj => by
  rcases (show j = 0 ∨ j = 1 ∨ j = 2 ∨ j = 3 ∨ j = 4 ∨ j = 5 ∨ j = 6 ∨ j = 7 ∨ j = 8 ∨ j = 9 by omega) with rfl | rfl | rfl | rfl | rfl | rfl | rfl | rfl | rfl | rfl <;> rfl
theorem df4 : ∀ j, j < 29 → defaultValue (tyX4 j) = vp_V [.null, .null, .null, .int 0, .null, .int 0, .int 0, .int 0, .int 0, .null, .int 0, .int 0, .int 0, .int 0, .int 0, .int 0, .int 0, .null, .int 0, .long 0, .long 0, .long 0, .null, .null, .null, .null, .null, .int 0, .null] j := fun j hj => by
  rcases (show j = 0 ∨ j = 1 ∨ j = 2 ∨ j = 3 ∨ j = 4 ∨ j = 5 ∨ j = 6 ∨ j = 7 ∨ j = 8 ∨ j = 9 ∨ j = 10 ∨ j = 11 ∨ j = 12 ∨ j = 13 ∨ j = 14 ∨ j = 15 ∨ j = 16 ∨ j = 17 ∨ j = 18 ∨ j = 19 ∨ j = 20 ∨ j = 21 ∨ j = 22 ∨ j = 23 ∨ j = 24 ∨ j = 25 ∨ j = 26 ∨ j = 27 ∨ j = 28 by omega) with rfl | rfl | rfl | rfl | rfl | rfl | rfl | rfl | rfl | rfl | rfl | rfl | rfl | rfl | rfl | rfl | rfl | rfl | rfl | rfl | rfl | rfl | rfl | rfl | rfl | rfl | rfl | rfl | rfl <;> rfl
def z20 : S2 := fun _ _ => 0
def shN0 : S2 := fun g i => if g = 0 ∧ i = 0 then -1 else 0
/-- the class's first state -/
def o00 : S3 := fun g => bif Nat.ble 7 g then shN0 else z20
def ml4 : S1 := upd (upd (upd (upd (fun _ => 0) (0 : Int32).toNatClampNeg (-4)) (1 : Int32).toNatClampNeg (-4)) (2 : Int32).toNatClampNeg (-4)) (3 : Int32).toNatClampNeg (-4)
theorem ml4_at : ∀ k, k < 4 → ml4 k = -4 := by decide +kernel
def m00 : S2 := fun c => bif Nat.beq c 9 then ml4 else (fun _ => 0)
def l00 : SL := fun _ => 0
