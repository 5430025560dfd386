theorem jn_elim {τ : Type} {J : τ} {B : τ → Prop} {goal : Prop} (h : jn J B) (k : ∀ J' : τ, J' = J → B J' → goal) : goal := k J rfl h
theorem q_nar {v : Int32} (h : v = 0 ∨ v = 1) : narrow .boolean (.int v) = .int v := by rcases h with rfl | rfl <;> rfl
theorem q_fit {v : Int32} (h : v = 0 ∨ v = 1) : fits .boolean (.int v) = true := by rcases h with rfl | rfl <;> rfl
theorem q_heap {D : va_G} {ws : va_W} {H H' : Heap} (h : va_P D vwCl ws H') (e : H = H') : va_P D vwCl ws H := e ▸ h
theorem q_heapS {A : Nat → Prop} {H0 H H' : Heap} {locs locs' : List Loc} (h : va_S A H0 H' locs') (e : H = H') (e2 : locs = locs') : va_S A H0 H locs := by subst e; subst e2; exact h
theorem q_start {p : Program} {l : Launch} {e : Env} {R : Room} {s : State} {m : MethodId} {args : Array Value} {below : List Frame} {meth : Method} {c : Code} {H : Heap} {locs : List Loc} {cells slots : Nat} {Q : State → Prop} {g : JFrame} (eH : H = s.heap) (eL : locs = []) (k : W p l e R s m args below meth c H locs cells slots Q g) : W p l e R s m args below meth c s.heap [] cells slots Q g := by subst eH; subst eL; exact k
