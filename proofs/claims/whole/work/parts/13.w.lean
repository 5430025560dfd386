/-! THE LAW: a call of its loop -/
def LA (s : State) : Nat → Prop := fun q => s.heap.size ≤ q
/-- what holds all along the law's walk -/
def LF (p : Program) (s : State) (m : MethodId) (meth : Method) (c : Code) (b L : Nat) (xs : Nat → Int32) (D : va_G) (kc : Nat → ClassId) (ad adV : Nat → Nat) (fm : Value) : Prop :=
  p.tables.exec = Jvm.exec ∧ c.code = code ∧ c.maxLocals = 4 ∧ s.vm.findClass RL = some m.cls ∧ (∀ w ∈ wsL_law, w.before #[Value.ref b] s = true) ∧ va_X b L xs s s.heap ∧ b < s.heap.size ∧ qK D kc s ∧ qX ad adV fm (LA s) s s.heap
/-- the law's walk, with all its cells made -/
abbrev LW (p : Program) (l : Launch) (e : Env) (s : State) (m : MethodId) (b : Nat) (below : List Frame) (meth : Method) (c : Code) (Q : State → Prop) (H : Heap) (locs : List Loc) (g : JFrame) : Prop := W p l e room_1 s m #[Value.ref b] below meth c H locs 69 1622 Q g
/-- J holds of class and reference, and what stands behind a call goes on -/
def LKJ (p : Program) (l : Launch) (e : Env) (s : State) (m : MethodId) (b : Nat) (below : List Frame) (meth : Method) (c : Code) (Q : State → Prop) (D : va_G) (kc : Nat → ClassId) (a : Nat → Nat → Nat) (b0 : Nat → Nat) (J : S3 → S2 → Prop) (ls : Array Slot) : Prop :=
  ∀ (o : S3) (mo : S2) (lo : SL) (H : Heap) (locs : List Loc), J o mo → va_P D vwCl (cLP kc a o ++ cM kc b0 mo lo) H → va_D (LA s) (cLP kc a o ++ cM kc b0 mo lo) → va_S (LA s) s.heap H locs → LW p l e s m b below meth c Q H locs (F0 m 1424 ls [])
/-- from the switch on, whatever stands on the stack -/
def LSW (p : Program) (l : Launch) (e : Env) (s : State) (m : MethodId) (b : Nat) (below : List Frame) (meth : Method) (c : Code) (Q : State → Prop) (D : va_G) (kc : Nat → ClassId) (a : Nat → Nat → Nat) (b0 : Nat → Nat) (L : Nat) (J : S3 → S2 → Prop) : Prop :=
  ∀ (x3 : Int32) (ls : Array Slot) (o : S3) (mo : S2) (lo : SL) (H : Heap) (locs : List Loc), vp_in (x3 + 1) L → vp_in (x3 + 2) L → vp_in (x3 + 3) L → vp_in (x3 + 4) L → lv_has ls 4 [(0, .ref b), (1, .ref (a 0 0)), (2, .ref (b0 0)), (3, .int x3)] → J o mo → va_P D vwCl (cLP kc a o ++ cM kc b0 mo lo) H → va_D (LA s) (cLP kc a o ++ cM kc b0 mo lo) → va_S (LA s) s.heap H locs → LKJ p l e s m b below meth c Q D kc a b0 J ls → ∀ v : Int32, LW p l e s m b below meth c Q H locs (F0 m 32 ls [.int v])
section LAW
variable {p : Program} {l : Launch} {e : Env} {s : State} {m : MethodId} {below : List Frame} {meth : Method} {c : Code} {b L : Nat} {xs : Nat → Int32} {D : va_G} {kc : Nat → ClassId} {ad adV : Nat → Nat} {fm : Value} {a : Nat → Nat → Nat} {b0 : Nat → Nat} {Q : State → Prop} {H : Heap} {locs : List Loc} {ls : Array Slot} {rest : List Value} {lv : List (Nat × Value)} {x3 : Int32}
/-- script[i + k] -/
theorem lx_arg (F : LF p s m meth c b L xs D kc ad adV fm) (hl : lv_has ls 4 [(0, .ref b), (1, .ref (a 0 0)), (2, .ref (b0 0)), (3, .int x3)]) (hS : va_S (LA s) s.heap H locs) {pc : Nat} {n : Int} {v : Int32} (d0 : decode code pc = .ok (.aload_n 0, 1)) (d1 : decode code (pc + 1) = .ok (.iload_n 3, 1)) (d2 : decode code (pc + 2) = .ok (.iconst n, 1)) (hv : Int32.ofInt n = v) (d3 : decode code (pc + 3) = .ok (.iadd, 1)) (d4 : decode code (pc + 4) = .ok (.iaload, 1)) (hi : vp_in (x3 + v) L)
    (k : LW p l e s m b below meth c Q H locs (F0 m (pc + 5) ls (.int (xs (x3 + v).toNatClampNeg) :: rest))) : LW p l e s m b below meth c Q H locs (F0 m pc ls rest) := by
  obtain ⟨hx, hb, hml, hown, hts, hX, hbl, hK, hQ⟩ := F
  refine lv_aload_n hx hb d0 rfl (lv_at hl 0 rfl) ?_
  refine lv_iload_n hx hb d1 rfl (lv_at hl 3 rfl) ?_
  refine lv_iconst (v := v) hx hb d2 hv ?_
  refine lv_iadd hx hb d3 ?_
  exact va_sld hx hb hX hbl (Nat.not_le.mpr hbl) hS hi d4 k
end LAW
