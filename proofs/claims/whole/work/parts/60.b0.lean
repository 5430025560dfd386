/-! PURE ROWS: how a walk (w_..) is shown. Branches, loops, places -/
theorem br_in {c A B : Prop} (h1 : c → A) (h2 : ¬ c → B) : br c A B := ⟨h1, h2⟩
theorem br_pos {c A B : Prop} (hc : c) (h : A) : br c A B := ⟨fun _ => h, fun n => absurd hc n⟩
theorem br_neg {c A B : Prop} (hc : ¬ c) (h : B) : br c A B := ⟨fun n => absurd n hc, fun _ => h⟩
/-- two roads to one place, told by an if -/
theorem br_ite {α : Type} {c : Prop} [Decidable c] {x y : α} {J : α → Prop} (h : J (if c then x else y)) : br c (J x) (J y) := ⟨fun hc => by rw [if_pos hc] at h; exact h, fun hc => by rw [if_neg hc] at h; exact h⟩
theorem lfp1_inv {A1 : Type} {F : (A1 → Prop) → A1 → Prop} (N : Nat) (I : Nat → A1 → Prop) (hx : ∀ a, I N a → ∀ G : A1 → Prop, F G a) (hs : ∀ k a, k < N → I k a → ∀ G : A1 → Prop, (∀ a', I (k + 1) a' → G a') → F G a) {k : Nat} {a : A1} (hk : k ≤ N) (h : I k a) : lfp1 F a := by
  intro G hG
  obtain ⟨d, hd⟩ : ∃ d, d = N - k := ⟨_, rfl⟩
  induction d generalizing k a with
  | zero => have e : k = N := by omega
            subst e; exact hG _ (hx _ h G)
  | succ d ih => exact hG _ (hs k a (by omega) h G (fun a' h' => ih (by omega) h' (by omega)))
theorem lfp2_inv {A1 A2 : Type} {F : (A1 → A2 → Prop) → A1 → A2 → Prop} (N : Nat) (I : Nat → A1 → A2 → Prop) (hx : ∀ a b, I N a b → ∀ G : A1 → A2 → Prop, F G a b) (hs : ∀ k a b, k < N → I k a b → ∀ G : A1 → A2 → Prop, (∀ a' b', I (k + 1) a' b' → G a' b') → F G a b) {k : Nat} {a : A1} {b : A2} (hk : k ≤ N) (h : I k a b) : lfp2 F a b := by
  intro G hG
  obtain ⟨d, hd⟩ : ∃ d, d = N - k := ⟨_, rfl⟩
  induction d generalizing k a b with
  | zero => have e : k = N := by omega
            subst e; exact hG _ _ (hx _ _ h G)
  | succ d ih => exact hG _ _ (hs k a b (by omega) h G (fun a' b' h' => ih (by omega) h' (by omega)))
theorem lfp3_inv {A1 A2 A3 : Type} {F : (A1 → A2 → A3 → Prop) → A1 → A2 → A3 → Prop} (N : Nat) (I : Nat → A1 → A2 → A3 → Prop) (hx : ∀ a b c, I N a b c → ∀ G : A1 → A2 → A3 → Prop, F G a b c) (hs : ∀ k a b c, k < N → I k a b c → ∀ G : A1 → A2 → A3 → Prop, (∀ a' b' c', I (k + 1) a' b' c' → G a' b' c') → F G a b c) {k : Nat} {a : A1} {b : A2} {c : A3} (hk : k ≤ N) (h : I k a b c) : lfp3 F a b c := by
  intro G hG
  obtain ⟨d, hd⟩ : ∃ d, d = N - k := ⟨_, rfl⟩
  induction d generalizing k a b c with
  | zero => have e : k = N := by omega
            subst e; exact hG _ _ _ (hx _ _ _ h G)
  | succ d ih => exact hG _ _ _ (hs k a b c (by omega) h G (fun a' b' c' h' => ih (by omega) h' (by omega)))
theorem lfp4_inv {A1 A2 A3 A4 : Type} {F : (A1 → A2 → A3 → A4 → Prop) → A1 → A2 → A3 → A4 → Prop} (N : Nat) (I : Nat → A1 → A2 → A3 → A4 → Prop) (hx : ∀ a b c d, I N a b c d → ∀ G : A1 → A2 → A3 → A4 → Prop, F G a b c d) (hs : ∀ k a b c d, k < N → I k a b c d → ∀ G : A1 → A2 → A3 → A4 → Prop, (∀ a' b' c' d', I (k + 1) a' b' c' d' → G a' b' c' d') → F G a b c d) {k : Nat} {a : A1} {b : A2} {c : A3} {d : A4} (hk : k ≤ N) (h : I k a b c d) : lfp4 F a b c d := by
  intro G hG
  obtain ⟨z, hz⟩ : ∃ z, z = N - k := ⟨_, rfl⟩
  induction z generalizing k a b c d with
  | zero => have e : k = N := by omega
            subst e; exact hG _ _ _ _ (hx _ _ _ _ h G)
  | succ z ih => exact hG _ _ _ _ (hs k a b c d (by omega) h G (fun a' b' c' d' h' => ih (by omega) h' (by omega)))
theorem lfp5_inv {A1 A2 A3 A4 A5 : Type} {F : (A1 → A2 → A3 → A4 → A5 → Prop) → A1 → A2 → A3 → A4 → A5 → Prop} (N : Nat) (I : Nat → A1 → A2 → A3 → A4 → A5 → Prop) (hx : ∀ a b c d e, I N a b c d e → ∀ G : A1 → A2 → A3 → A4 → A5 → Prop, F G a b c d e) (hs : ∀ k a b c d e, k < N → I k a b c d e → ∀ G : A1 → A2 → A3 → A4 → A5 → Prop, (∀ a' b' c' d' e', I (k + 1) a' b' c' d' e' → G a' b' c' d' e') → F G a b c d e) {k : Nat} {a : A1} {b : A2} {c : A3} {d : A4} {e : A5} (hk : k ≤ N) (h : I k a b c d e) : lfp5 F a b c d e := by
  intro G hG
  obtain ⟨z, hz⟩ : ∃ z, z = N - k := ⟨_, rfl⟩
  induction z generalizing k a b c d e with
  | zero => have q : k = N := by omega
            subst q; exact hG _ _ _ _ _ (hx _ _ _ _ _ h G)
  | succ z ih => exact hG _ _ _ _ _ (hs k a b c d e (by omega) h G (fun a' b' c' d' e' h' => ih (by omega) h' (by omega)))
theorem lfp6_inv {A1 A2 A3 A4 A5 A6 : Type} {F : (A1 → A2 → A3 → A4 → A5 → A6 → Prop) → A1 → A2 → A3 → A4 → A5 → A6 → Prop} (N : Nat) (I : Nat → A1 → A2 → A3 → A4 → A5 → A6 → Prop) (hx : ∀ a b c d e f, I N a b c d e f → ∀ G : A1 → A2 → A3 → A4 → A5 → A6 → Prop, F G a b c d e f) (hs : ∀ k a b c d e f, k < N → I k a b c d e f → ∀ G : A1 → A2 → A3 → A4 → A5 → A6 → Prop, (∀ a' b' c' d' e' f', I (k + 1) a' b' c' d' e' f' → G a' b' c' d' e' f') → F G a b c d e f) {k : Nat} {a : A1} {b : A2} {c : A3} {d : A4} {e : A5} {f : A6} (hk : k ≤ N) (h : I k a b c d e f) : lfp6 F a b c d e f := by
  intro G hG
  obtain ⟨z, hz⟩ : ∃ z, z = N - k := ⟨_, rfl⟩
  induction z generalizing k a b c d e f with
  | zero => have q : k = N := by omega
            subst q; exact hG _ _ _ _ _ _ (hx _ _ _ _ _ _ h G)
  | succ z ih => exact hG _ _ _ _ _ _ (hs k a b c d e f (by omega) h G (fun a' b' c' d' e' f' h' => ih (by omega) h' (by omega)))
-- numbers
theorem z_cl {n : Nat} (h : n < 2147483648) : (nI n).toNatClampNeg = n := nI_clamp h
theorem z_in {n N : Nat} (h : n < N) (hN : N < 2147483648) : vp_in (nI n) N := vp_in_nI h hN
theorem z_add (a b : Nat) : nI a + nI b = nI (a + b) := nI_add a b
theorem z_mul (a b : Nat) : nI a * nI b = nI (a * b) := pk_mul a b
theorem z_lt (a b : Int32) : a < b ↔ a.toInt < b.toInt := Int32.lt_iff_toInt_lt
theorem z_le (a b : Int32) : a ≤ b ↔ a.toInt ≤ b.toInt := Int32.le_iff_toInt_le
theorem z_nlt {a b : Int32} : ¬ a < b ↔ b ≤ a := by rw [z_lt, z_le]; omega
theorem z_nle {a b : Int32} : ¬ a ≤ b ↔ b < a := by rw [z_lt, z_le]; omega
theorem z_eq {a b : Int32} : a = b ↔ a.toInt = b.toInt := ⟨fun h => by rw [h], fun h => Int32.toInt_inj.mp h⟩
theorem z_rng (x : Int32) : -2147483648 ≤ x.toInt ∧ x.toInt < 2147483648 := ⟨Int32.le_toInt x, Int32.toInt_lt x⟩
theorem z_tI {n : Nat} (h : n < 2147483648) : (nI n).toInt = (n : Int) := nI_toInt h
theorem z_tm1 : (-1 : Int32).toInt = -1 := by decide
theorem z_tm4 : (-4 : Int32).toInt = -4 := by decide
/-- a number between bounds is some nI -/
theorem z_of {x : Int32} {lo hi : Nat} (h1 : nI lo ≤ x) (h2 : x ≤ nI hi) (hh : hi < 2147483648) (hl : lo < 2147483648) : ∃ j : Nat, lo ≤ j ∧ j ≤ hi ∧ x = nI j := by
  rw [z_le, z_tI hl] at h1
  rw [z_le, z_tI hh] at h2
  refine ⟨x.toInt.toNat, by omega, by omega, ?_⟩
  rw [z_eq, z_tI (by omega)]
  omega
theorem z_upd_same (f : S1) (k : Nat) (x : Int32) : upd f k x k = x := pk_us
theorem z_upd_ne (f : S1) {k j : Nat} (x : Int32) (h : j ≠ k) : upd f k x j = f j := pk_un h
theorem z_upS {α : Type} (f : Nat → α) (k : Nat) (v : α) : va_up f k v k = v := by simp [va_up]
theorem z_upN {α : Type} (f : Nat → α) {k j : Nat} (v : α) (h : j ≠ k) : va_up f k v j = f j := by simp [va_up, h]
theorem z_upU {α : Type} (f : Nat → α) (k : Nat) (v w : α) : va_up (va_up f k v) k w = va_up f k w := bx_uu f k v w
/-- the first i of f, then g -/
def fil (f g : S1) (i : Nat) : S1 := fun k => if k < i then f k else g k
theorem fil_0 (f g : S1) : fil f g 0 = g := by funext k; simp [fil]
theorem fil_succ (f g : S1) (i : Nat) : upd (fil f g i) i (f i) = fil f g (i + 1) := by
  funext k
  by_cases h : k = i
  · subst h; rw [z_upd_same]; simp [fil]
  · rw [z_upd_ne _ _ h]; unfold fil; by_cases h2 : k < i
    · rw [if_pos h2, if_pos (by omega)]
    · rw [if_neg h2, if_neg (by omega)]
theorem fil_lo (f g : S1) {i k : Nat} (h : k < i) : fil f g i k = f k := by simp [fil, h]
theorem fil_hi (f g : S1) {i k : Nat} (h : i ≤ k) : fil f g i k = g k := by simp [fil, Nat.not_lt.mpr h]
theorem z_i64 {n : Nat} (h : n < 2147483648) : (nI n).toInt64 = lN n := nI_l h
theorem z_64le (a b : Int32) : a.toInt64 ≤ b.toInt64 ↔ a ≤ b := by rw [Int64.le_iff_toInt_le, z_le, Int32.toInt_toInt64, Int32.toInt_toInt64]
theorem z_64lt (a b : Int32) : a.toInt64 < b.toInt64 ↔ a < b := by rw [Int64.lt_iff_toInt_lt, z_lt, Int32.toInt_toInt64, Int32.toInt_toInt64]
/-- a test as a number -/
def zb (c : Prop) [Decidable c] : Int32 := if c then 1 else 0
theorem zb_01 (c : Prop) [Decidable c] : zb c = 0 ∨ zb c = 1 := by unfold zb; split <;> simp
theorem zb_0 {c : Prop} [Decidable c] : zb c = 0 ↔ ¬ c := by unfold zb; split <;> simp_all
theorem zb_n0 {c : Prop} [Decidable c] : ¬ zb c = 0 ↔ c := by rw [zb_0]; exact Decidable.not_not
