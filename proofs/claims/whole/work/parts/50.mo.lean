def w_X4_ask (p1 : Int32) (p2 : Int32) (mo : S2) (lo : SL) (K : Int32 → S2 → SL → Prop) : Prop := w_X4_isOne p1 mo lo (fun r3 mo1 lo2 => br (r3 = 0) (K (-1) mo1 lo2) (w_X4_isPart p2 (fun r6 => br (r6 = 0) (K (-1) mo1 lo2) (nm ((-4) : Int32) (fun x9 => lfp3 (fun G26 (i10 : Int32) (mo11 : S2) (lo12 : SL) => br (105 ≤ i10) (lfp4 (fun G50 (i14 : Int32) (i15 : Int32) (mo16 : S2) (lo17 : SL) => br (20 < i15) (lfp3 (fun G117 (i19 : Int32) (i20 : Int32) (i21 : Int32) => br (20 < i21) (br (i20 = (-4)) (K (-4) mo16 lo17) (br (p2 = 0) (K i20 mo16 lo17) (K i19 mo16 lo17))) (lfp2 (fun G130 (i25 : Int32) (i26 : Int32) => br (5 ≤ i26) (jn (fun (k28 : Int32) => jn (fun (k29 : Int32) => nm (i21 + 1 : Int32) (fun x30 => G117 k29 k28 x30)) (fun J205 => br (i19 ≤ i25) (J205 i19) (J205 i25))) (fun J191 => br (i19 ≤ i25) (J191 i20) (J191 i21))) (vp_in ((5 * i21) + i26) 105 ∧ (jn (fun (k34 : Int32) => nm (i26 + 1 : Int32) (fun x35 => G130 k34 x35)) (fun J170 => br ((mo16 8 ((5 * i21) + i26).toNatClampNeg) ≤ i25) (J170 i25) (vp_in ((5 * i21) + i26) 105 ∧ (J170 (mo16 8 ((5 * i21) + i26).toNatClampNeg))))))) 0 0)) i14 x9 0) (w_X4_isSoWith p1 (2 : Int32) i15 mo16 lo17 (fun r40 mo38 lo39 => jn (fun (i42 : Int32) (mo43 : S2) (lo44 : SL) => nm (i15 + 1 : Int32) (fun x45 => G50 i42 x45 mo43 lo44)) (fun J108 => br (r40 = 0) (J108 i14 mo38 lo39) (nm (i14 + 1 : Int32) (fun x47 => lfp3 (fun G74 (i48 : Int32) (mo49 : S2) (lo50 : SL) => br (20 < i48) (J108 x47 mo49 lo50) (vp_in i48 21 ∧ (vp_in ((5 * i48) + (mo49 7 i48.toNatClampNeg)) 105 ∧ (vp_in ((5 * i48) + (mo49 7 i48.toNatClampNeg)) 105 ∧ (nm ((va_up mo49 8 (upd (mo49 8) ((5 * i48) + (mo49 7 i48.toNatClampNeg)).toNatClampNeg ((mo49 8 ((5 * i48) + (mo49 7 i48.toNatClampNeg)).toNatClampNeg) + 1))) : S2) (fun mo55 => nm (i48 + 1 : Int32) (fun x56 => G74 x56 mo55 lo50))))))) 0 mo38 lo39)))))) 0 0 mo11 lo12) (vp_in i10 105 ∧ (nm ((va_up mo11 8 (upd (mo11 8) i10.toNatClampNeg 0)) : S2) (fun mo58 => nm (i10 + 1 : Int32) (fun x59 => G26 x59 mo58 lo12))))) 0 mo1 lo2)))))
abbrev rm_X4_ask : Room := { frames := 5, cells := 0, slots := 0, locals := 113 }
set_option maxHeartbeats 4000000 in
set_option maxRecDepth 100000 in
theorem c_X4_ask (l : Launch) (D : va_G) (kc : Nat → ClassId) (a : Nat → Nat) (p1 : Int32) (p2 : Int32) (mo : S2) (lo : SL) (sz : Nat) (K : Int32 → S2 → SL → Prop) (h : w_X4_ask p1 p2 mo lo K) : MetI l yX4_ask wsX4_ask rm_X4_ask D kc (fun u : S2 × SL => cM kc a u.1 u.2) (mo, lo) [.ref (a 0), .int p1, .int p2] sz (fun r u => K r u.1 u.2) := by
  refine q_ei (code := cX4_ask) (maxL := 8) (by decide) rfl (Nat.le_of_ble_eq_true rfl) ?_
  intro p e s m args below meth c Q A hx hb hml hts hown hK hA hret ls hl hP hD hS
  have hown : s.vm.findClass RX4 = some m.cls := hown
  have hl : lv_has ls 8 [(0, .ref (a 0)), (1, .int p1), (2, .int p2)] := hl
  have hP : va_P D vwCl (cM kc a mo lo) s.heap := hP
  have hD : va_D A (cM kc a mo lo) := hD
  have hS : va_S A s.heap s.heap [] := hS
  obtain ⟨H, eH⟩ : ∃ z, z = s.heap := ⟨_, rfl⟩
  obtain ⟨locs, eL⟩ : ∃ z : List Loc, z = [] := ⟨_, rfl⟩
  have hP := q_heap hP eH
  have hS := q_heapS hS eH eL
  refine q_start eH eL ?_
  clear eH eL
  have hi4 : ∀ w ∈ u_ws RX4 TX4 29, w ∈ wsX4_ask := by decide +kernel
  unfold w_X4_ask at h
  refine lv_aload_n hx hb dX4_ask_0 rfl (lv_at hl 0 rfl) ?_
  refine lv_iload_n hx hb dX4_ask_1 rfl (lv_at hl 1 rfl) ?_
  refine q_cVi (As := [.int p1]) (rest := []) ⟨hx, hb, hml, hown, hts⟩ hK (c_X4_isOne l D kc a p1 mo lo H.size _ h) (cwV 1 hts gX4_ask_X4_isOne rfl rfl rfl (by decide +kernel) ⟨Nat.le_of_ble_eq_true rfl, Nat.le_of_ble_eq_true rfl⟩) (cut_same (fun u : S2 × SL => cM kc a u.1 u.2) (mo, lo)) hP hD hS hA 4 0 rfl rfl rfl hl.1 rfl (Nat.le_of_ble_eq_true rfl) dX4_ask_2 ⟨Nat.zero_le _, Nat.zero_le _⟩ (fun r3 u4 H locs h hP hD hS => ?_)
  obtain ⟨mo1, lo2⟩ := u4
  have hP : va_P D vwCl (cM kc a mo1 lo2) H := hP
  have hD : va_D A (cM kc a mo1 lo2) := hD
  refine lv_if_eq (tgt := 15) hx hb dX4_ask_5 (by decide) (fun c5 => ?_) (fun c5 => ?_)
  · have h := br1 h c5
    refine lv_iconst (v := -1) hx hb dX4_ask_15 (by decide) ?_
    exact hret (-1) (mo1, lo2) H locs ls _ h hP hD hS dX4_ask_16
  · have h := br2 h c5
    refine lv_iload_n hx hb dX4_ask_8 rfl (lv_at hl 2 rfl) ?_
    refine q_cSi (As := [.int p2]) (rest := []) ⟨hx, hb, hml, hown, hts⟩ hK (c_X4_isPart l D kc p2 H.size _ h) (va_cwS 1 hts gX4_ask_X4_isPart rfl rfl rfl (by decide +kernel) ⟨Nat.le_of_ble_eq_true rfl, Nat.le_of_ble_eq_true rfl⟩) (cut_nil _) hP hD hS hA rfl hl.1 rfl (Nat.le_of_ble_eq_true rfl) dX4_ask_9 ⟨Nat.zero_le _, Nat.zero_le _⟩ (fun r6 _ H locs h hP hD hS => ?_)
    have hP : va_P D vwCl (cM kc a mo1 lo2) H := hP
    have hD : va_D A (cM kc a mo1 lo2) := hD
    refine lv_if_ne (tgt := 17) hx hb dX4_ask_12 (by decide) (fun c8 => ?_) (fun c8 => ?_)
    · have h := br2 h c8
      refine lv_iconst (v := 0) hx hb dX4_ask_17 (by decide) ?_
      refine lv_istore_n (lv' := [(3, .int 0), (0, .ref (a 0)), (1, .int p1), (2, .int p2)]) hx hb dX4_ask_18 rfl hl (by decide) rfl (fun ls hl => ?_)
      refine lv_bipush (v := -4) hx hb dX4_ask_19 (by decide) ?_
      refine lv_topi (fun x9 ex9 => ?_)
      have h := nm_out h x9 ex9
      refine lv_istore (lv' := [(4, .int x9), (3, .int 0), (0, .ref (a 0)), (1, .int p1), (2, .int p2)]) hx hb dX4_ask_21 hl (by decide) rfl (fun ls hl => ?_)
      refine lv_iconst (v := 0) hx hb dX4_ask_23 (by decide) ?_
      refine lv_istore (lv' := [(5, .int 0), (4, .int x9), (3, .int 0), (0, .ref (a 0)), (1, .int p1), (2, .int p2)]) hx hb dX4_ask_24 hl (by decide) rfl (fun ls hl => ?_)
      refine h (fun (i10 : Int32) (mo11 : S2) (lo12 : SL) => ∀ (ls : Array Slot) (H : Heap) (locs : List Loc), lv_has ls 8 [(0, .ref (a 0)), (1, .int p1), (2, .int p2), (3, .int 0), (4, .int x9), (5, .int i10)] → va_P D vwCl (cM kc a mo11 lo12) H → va_D A (cM kc a mo11 lo12) → va_S A s.heap H locs → W p l e rm_X4_ask s m args below meth c H locs 0 0 Q (F0 m 26 ls [])) ?_ ls H locs (lv_sub hl [3, 4, 5, 2, 1, 0] rfl) hP hD hS
      intro i10 mo11 lo12 h ls H locs hl hP hD hS
      refine lv_iload hx hb dX4_ask_26 (lv_at hl 5 rfl) ?_
      refine lv_bipush (v := 105) hx hb dX4_ask_28 (by decide) ?_
      refine lv_icmp_ge (tgt := 47) hx hb dX4_ask_30 (by decide) (fun c13 => ?_) (fun c13 => ?_)
      · have h := br1 h c13
        refine lv_iconst (v := 0) hx hb dX4_ask_47 (by decide) ?_
        refine lv_istore (lv' := [(5, .int 0), (0, .ref (a 0)), (1, .int p1), (2, .int p2), (3, .int 0), (4, .int x9)]) hx hb dX4_ask_48 hl (by decide) rfl (fun ls hl => ?_)
        refine h (fun (i14 : Int32) (i15 : Int32) (mo16 : S2) (lo17 : SL) => ∀ (ls : Array Slot) (H : Heap) (locs : List Loc), lv_has ls 8 [(0, .ref (a 0)), (1, .int p1), (2, .int p2), (3, .int i14), (4, .int x9), (5, .int i15)] → va_P D vwCl (cM kc a mo16 lo17) H → va_D A (cM kc a mo16 lo17) → va_S A s.heap H locs → W p l e rm_X4_ask s m args below meth c H locs 0 0 Q (F0 m 50 ls [])) ?_ ls H locs (lv_sub hl [1, 2, 3, 4, 5, 0] rfl) hP hD hS
        intro i14 i15 mo16 lo17 h ls H locs hl hP hD hS
        refine lv_iload hx hb dX4_ask_50 (lv_at hl 5 rfl) ?_
        refine lv_bipush (v := 20) hx hb dX4_ask_52 (by decide) ?_
        refine lv_icmp_gt (tgt := 114) hx hb dX4_ask_54 (by decide) (fun c18 => ?_) (fun c18 => ?_)
        · have h := br1 h c18
          refine lv_iconst (v := 0) hx hb dX4_ask_114 (by decide) ?_
          refine lv_istore (lv' := [(5, .int 0), (0, .ref (a 0)), (1, .int p1), (2, .int p2), (3, .int i14), (4, .int x9)]) hx hb dX4_ask_115 hl (by decide) rfl (fun ls hl => ?_)
          refine h (fun (i19 : Int32) (i20 : Int32) (i21 : Int32) => ∀ (ls : Array Slot), lv_has ls 8 [(0, .ref (a 0)), (2, .int p2), (3, .int i19), (4, .int i20), (5, .int i21)] → W p l e rm_X4_ask s m args below meth c H locs 0 0 Q (F0 m 117 ls [])) ?_ ls (lv_sub hl [1, 3, 4, 5, 0] rfl)
          intro i19 i20 i21 h ls hl
          refine lv_iload hx hb dX4_ask_117 (lv_at hl 4 rfl) ?_
          refine lv_bipush (v := 20) hx hb dX4_ask_119 (by decide) ?_
          refine lv_icmp_gt (tgt := 212) hx hb dX4_ask_121 (by decide) (fun c22 => ?_) (fun c22 => ?_)
          · have h := br1 h c22
            refine lv_iload hx hb dX4_ask_212 (lv_at hl 3 rfl) ?_
            refine lv_bipush (v := -4) hx hb dX4_ask_214 (by decide) ?_
            refine lv_icmp_ne (tgt := 224) hx hb dX4_ask_216 (by decide) (fun c23 => ?_) (fun c23 => ?_)
            · have h := br2 h c23
              refine lv_iload_n hx hb dX4_ask_224 rfl (lv_at hl 1 rfl) ?_
              refine lv_if_ne (tgt := 233) hx hb dX4_ask_225 (by decide) (fun c24 => ?_) (fun c24 => ?_)
              · have h := br2 h c24
                refine lv_iload_n hx hb dX4_ask_233 rfl (lv_at hl 2 rfl) ?_
                exact hret i19 (mo16, lo17) H locs ls _ h hP hD hS dX4_ask_234
              · have h := br1 h c24
                refine lv_iload hx hb dX4_ask_228 (lv_at hl 3 rfl) ?_
                refine lv_goto (tgt := 234) hx hb dX4_ask_230 (by decide) ?_
                exact hret i20 (mo16, lo17) H locs ls _ h hP hD hS dX4_ask_234
            · have h := br1 h c23
              refine lv_bipush (v := -4) hx hb dX4_ask_219 (by decide) ?_
              refine lv_goto (tgt := 234) hx hb dX4_ask_221 (by decide) ?_
              exact hret (-4) (mo16, lo17) H locs ls _ h hP hD hS dX4_ask_234
          · have h := br2 h c22
            refine lv_iconst (v := 0) hx hb dX4_ask_124 (by decide) ?_
            refine lv_istore (lv' := [(6, .int 0), (0, .ref (a 0)), (2, .int p2), (3, .int i19), (4, .int i20), (5, .int i21)]) hx hb dX4_ask_125 hl (by decide) rfl (fun ls hl => ?_)
            refine lv_iconst (v := 0) hx hb dX4_ask_127 (by decide) ?_
            refine lv_istore (lv' := [(7, .int 0), (6, .int 0), (0, .ref (a 0)), (2, .int p2), (3, .int i19), (4, .int i20), (5, .int i21)]) hx hb dX4_ask_128 hl (by decide) rfl (fun ls hl => ?_)
            refine h (fun (i25 : Int32) (i26 : Int32) => ∀ (ls : Array Slot), lv_has ls 8 [(0, .ref (a 0)), (2, .int p2), (3, .int i19), (4, .int i20), (5, .int i21), (6, .int i25), (7, .int i26)] → W p l e rm_X4_ask s m args below meth c H locs 0 0 Q (F0 m 130 ls [])) ?_ ls (lv_sub hl [2, 3, 4, 5, 6, 1, 0] rfl)
            intro i25 i26 h ls hl
            refine lv_iload hx hb dX4_ask_130 (lv_at hl 6 rfl) ?_
            refine lv_iconst (v := 5) hx hb dX4_ask_132 (by decide) ?_
            refine lv_icmp_ge (tgt := 178) hx hb dX4_ask_133 (by decide) (fun c27 => ?_) (fun c27 => ?_)
            · have h := br1 h c27
              refine lv_iload hx hb dX4_ask_178 (lv_at hl 5 rfl) ?_
              refine lv_iload_n hx hb dX4_ask_180 rfl (lv_at hl 2 rfl) ?_
              refine jn_elim h (fun J191 eJ191 h => ?_)
              have hJ_191 : ∀ (k28 : Int32) (ls : Array Slot), J191 k28 → lv_has ls 8 [(0, .ref (a 0)), (2, .int p2), (3, .int i19), (5, .int i21), (6, .int i25)] → W p l e rm_X4_ask s m args below meth c H locs 0 0 Q (F0 m 191 ls [.int k28]) := by
                intro k28 ls h hl
                subst eJ191
                refine lv_istore (lv' := [(4, .int k28), (0, .ref (a 0)), (2, .int p2), (3, .int i19), (5, .int i21), (6, .int i25)]) hx hb dX4_ask_191 hl (by decide) rfl (fun ls hl => ?_)
                refine lv_iload hx hb dX4_ask_193 (lv_at hl 5 rfl) ?_
                refine lv_iload_n hx hb dX4_ask_195 rfl (lv_at hl 3 rfl) ?_
                refine jn_elim h (fun J205 eJ205 h => ?_)
                have hJ_205 : ∀ (k29 : Int32) (ls : Array Slot), J205 k29 → lv_has ls 8 [(0, .ref (a 0)), (2, .int p2), (4, .int k28), (5, .int i21)] → W p l e rm_X4_ask s m args below meth c H locs 0 0 Q (F0 m 205 ls [.int k29]) := by
                  intro k29 ls h hl
                  subst eJ205
                  refine lv_istore_n (lv' := [(3, .int k29), (0, .ref (a 0)), (2, .int p2), (4, .int k28), (5, .int i21)]) hx hb dX4_ask_205 rfl hl (by decide) rfl (fun ls hl => ?_)
                  obtain ⟨x30, ex30⟩ : ∃ z : Int32, z = i21 + 1 := ⟨_, rfl⟩
                  have h := nm_out h x30 ex30
                  refine lv_iinc (v := x30) (lv' := [(5, .int x30), (3, .int k29), (0, .ref (a 0)), (2, .int p2), (4, .int k28)]) hx hb dX4_ask_206 hl (k := 4) rfl (by rw [ex30]; rfl) (by decide) rfl (fun ls hl => ?_)
                  refine lv_goto (tgt := 117) hx hb dX4_ask_209 (by decide) ?_
                  exact h ls (lv_sub hl [2, 3, 1, 4, 0] rfl)
                refine lv_icmp_ge (tgt := 204) hx hb dX4_ask_196 (by decide) (fun c31 => ?_) (fun c31 => ?_)
                · have h := br1 h c31
                  refine lv_iload_n hx hb dX4_ask_204 rfl (lv_at hl 3 rfl) ?_
                  exact hJ_205 i19 ls h (lv_sub hl [1, 2, 0, 4] rfl)
                · have h := br2 h c31
                  refine lv_iload hx hb dX4_ask_199 (lv_at hl 5 rfl) ?_
                  refine lv_goto (tgt := 205) hx hb dX4_ask_201 (by decide) ?_
                  exact hJ_205 i25 ls h (lv_sub hl [1, 2, 0, 4] rfl)
              refine lv_icmp_ge (tgt := 189) hx hb dX4_ask_181 (by decide) (fun c32 => ?_) (fun c32 => ?_)
              · have h := br1 h c32
                refine lv_iload hx hb dX4_ask_189 (lv_at hl 3 rfl) ?_
                exact hJ_191 i20 ls h (lv_sub hl [0, 1, 2, 4, 5] rfl)
              · have h := br2 h c32
                refine lv_iload hx hb dX4_ask_184 (lv_at hl 4 rfl) ?_
                refine lv_goto (tgt := 191) hx hb dX4_ask_186 (by decide) ?_
                exact hJ_191 i21 ls h (lv_sub hl [0, 1, 2, 4, 5] rfl)
            · have h := br2 h c27
              refine lv_aload_n hx hb dX4_ask_136 rfl (lv_at hl 0 rfl) ?_
              refine va_get (D := D) (ci := 4) (v := .ref (a 8)) (C := RX4) (T := TX4) (N := 29) hx hb hts hi4 hown hK.1 hP 0 rfl rfl 23 (by decide) (hts (.fieldLink RX4 32 "LastPennyModel" "ways" "[I") (by decide +kernel)) (fun _ h9 => h9) rfl dX4_ask_137 ?_
              refine lv_iconst (v := 5) hx hb dX4_ask_140 (by decide) ?_
              refine lv_iload hx hb dX4_ask_141 (lv_at hl 4 rfl) ?_
              refine lv_imul hx hb dX4_ask_143 ?_
              refine lv_iload hx hb dX4_ask_144 (lv_at hl 6 rfl) ?_
              refine lv_iadd hx hb dX4_ask_146 ?_
              obtain ⟨hi_33, h⟩ := h
              refine va_iald hx hb hK.1 hP 8 0 rfl rfl hi_33 dX4_ask_147 ?_
              refine lv_iload hx hb dX4_ask_148 (lv_at hl 5 rfl) ?_
              refine jn_elim h (fun J170 eJ170 h => ?_)
              have hJ_170 : ∀ (k34 : Int32) (ls : Array Slot), J170 k34 → lv_has ls 8 [(0, .ref (a 0)), (2, .int p2), (3, .int i19), (4, .int i20), (5, .int i21), (7, .int i26)] → W p l e rm_X4_ask s m args below meth c H locs 0 0 Q (F0 m 170 ls [.int k34]) := by
                intro k34 ls h hl
                subst eJ170
                refine lv_istore (lv' := [(6, .int k34), (0, .ref (a 0)), (2, .int p2), (3, .int i19), (4, .int i20), (5, .int i21), (7, .int i26)]) hx hb dX4_ask_170 hl (by decide) rfl (fun ls hl => ?_)
                obtain ⟨x35, ex35⟩ : ∃ z : Int32, z = i26 + 1 := ⟨_, rfl⟩
                have h := nm_out h x35 ex35
                refine lv_iinc (v := x35) (lv' := [(7, .int x35), (6, .int k34), (0, .ref (a 0)), (2, .int p2), (3, .int i19), (4, .int i20), (5, .int i21)]) hx hb dX4_ask_172 hl (k := 6) rfl (by rw [ex35]; rfl) (by decide) rfl (fun ls hl => ?_)
                refine lv_goto (tgt := 130) hx hb dX4_ask_175 (by decide) ?_
                exact h ls (lv_sub hl [2, 3, 4, 5, 6, 1, 0] rfl)
              refine lv_icmp_le (tgt := 168) hx hb dX4_ask_150 (by decide) (fun c36 => ?_) (fun c36 => ?_)
              · have h := br1 h c36
                refine lv_iload hx hb dX4_ask_168 (lv_at hl 5 rfl) ?_
                exact hJ_170 i25 ls h (lv_sub hl [0, 1, 2, 3, 4, 6] rfl)
              · have h := br2 h c36
                refine lv_aload_n hx hb dX4_ask_153 rfl (lv_at hl 0 rfl) ?_
                refine va_get (D := D) (ci := 4) (v := .ref (a 8)) (C := RX4) (T := TX4) (N := 29) hx hb hts hi4 hown hK.1 hP 0 rfl rfl 23 (by decide) (hts (.fieldLink RX4 32 "LastPennyModel" "ways" "[I") (by decide +kernel)) (fun _ h9 => h9) rfl dX4_ask_154 ?_
                refine lv_iconst (v := 5) hx hb dX4_ask_157 (by decide) ?_
                refine lv_iload hx hb dX4_ask_158 (lv_at hl 4 rfl) ?_
                refine lv_imul hx hb dX4_ask_160 ?_
                refine lv_iload hx hb dX4_ask_161 (lv_at hl 6 rfl) ?_
                refine lv_iadd hx hb dX4_ask_163 ?_
                obtain ⟨hi_37, h⟩ := h
                refine va_iald hx hb hK.1 hP 8 0 rfl rfl hi_37 dX4_ask_164 ?_
                refine lv_goto (tgt := 170) hx hb dX4_ask_165 (by decide) ?_
                exact hJ_170 (mo16 8 ((5 * i21) + i26).toNatClampNeg) ls h (lv_sub hl [0, 1, 2, 3, 4, 6] rfl)
        · have h := br2 h c18
          refine lv_aload_n hx hb dX4_ask_57 rfl (lv_at hl 0 rfl) ?_
          refine lv_iload_n hx hb dX4_ask_58 rfl (lv_at hl 1 rfl) ?_
          refine lv_iconst (v := 2) hx hb dX4_ask_59 (by decide) ?_
          refine lv_iload hx hb dX4_ask_60 (lv_at hl 5 rfl) ?_
          refine q_cVi (As := [.int p1, .int 2, .int i15]) (rest := []) ⟨hx, hb, hml, hown, hts⟩ hK (c_X4_isSoWith l D kc a p1 (2 : Int32) i15 mo16 lo17 H.size _ h) (cwV 3 hts gX4_ask_X4_isSoWith rfl rfl rfl (by decide +kernel) ⟨Nat.le_of_ble_eq_true rfl, Nat.le_of_ble_eq_true rfl⟩) (cut_same (fun u : S2 × SL => cM kc a u.1 u.2) (mo16, lo17)) hP hD hS hA 4 0 rfl rfl rfl hl.1 rfl (Nat.le_of_ble_eq_true rfl) dX4_ask_62 ⟨Nat.zero_le _, Nat.zero_le _⟩ (fun r40 u41 H locs h hP hD hS => ?_)
          obtain ⟨mo38, lo39⟩ := u41
          have hP : va_P D vwCl (cM kc a mo38 lo39) H := hP
          have hD : va_D A (cM kc a mo38 lo39) := hD
          refine jn_elim h (fun J108 eJ108 h => ?_)
          have hJ_108 : ∀ (i42 : Int32) (mo43 : S2) (lo44 : SL) (ls : Array Slot) (H : Heap) (locs : List Loc), J108 i42 mo43 lo44 → lv_has ls 8 [(0, .ref (a 0)), (1, .int p1), (2, .int p2), (3, .int i42), (4, .int x9), (5, .int i15)] → va_P D vwCl (cM kc a mo43 lo44) H → va_D A (cM kc a mo43 lo44) → va_S A s.heap H locs → W p l e rm_X4_ask s m args below meth c H locs 0 0 Q (F0 m 108 ls []) := by
            intro i42 mo43 lo44 ls H locs h hl hP hD hS
            subst eJ108
            obtain ⟨x45, ex45⟩ : ∃ z : Int32, z = i15 + 1 := ⟨_, rfl⟩
            have h := nm_out h x45 ex45
            refine lv_iinc (v := x45) (lv' := [(5, .int x45), (0, .ref (a 0)), (1, .int p1), (2, .int p2), (3, .int i42), (4, .int x9)]) hx hb dX4_ask_108 hl (k := 5) rfl (by rw [ex45]; rfl) (by decide) rfl (fun ls hl => ?_)
            refine lv_goto (tgt := 50) hx hb dX4_ask_111 (by decide) ?_
            exact h ls H locs (lv_sub hl [1, 2, 3, 4, 5, 0] rfl) hP hD hS
          refine lv_if_eq (tgt := 108) hx hb dX4_ask_65 (by decide) (fun c46 => ?_) (fun c46 => ?_)
          · have h := br1 h c46
            exact hJ_108 i14 mo38 lo39 ls H locs h (lv_sub hl [0, 1, 2, 3, 4, 5] rfl) hP hD hS
          · have h := br2 h c46
            obtain ⟨x47, ex47⟩ : ∃ z : Int32, z = i14 + 1 := ⟨_, rfl⟩
            have h := nm_out h x47 ex47
            refine lv_iinc (v := x47) (lv' := [(3, .int x47), (0, .ref (a 0)), (1, .int p1), (2, .int p2), (4, .int x9), (5, .int i15)]) hx hb dX4_ask_68 hl (k := 3) rfl (by rw [ex47]; rfl) (by decide) rfl (fun ls hl => ?_)
            refine lv_iconst (v := 0) hx hb dX4_ask_71 (by decide) ?_
            refine lv_istore (lv' := [(6, .int 0), (3, .int x47), (0, .ref (a 0)), (1, .int p1), (2, .int p2), (4, .int x9), (5, .int i15)]) hx hb dX4_ask_72 hl (by decide) rfl (fun ls hl => ?_)
            refine h (fun (i48 : Int32) (mo49 : S2) (lo50 : SL) => ∀ (ls : Array Slot) (H : Heap) (locs : List Loc), lv_has ls 8 [(0, .ref (a 0)), (1, .int p1), (2, .int p2), (3, .int x47), (4, .int x9), (5, .int i15), (6, .int i48)] → va_P D vwCl (cM kc a mo49 lo50) H → va_D A (cM kc a mo49 lo50) → va_S A s.heap H locs → W p l e rm_X4_ask s m args below meth c H locs 0 0 Q (F0 m 74 ls [])) ?_ ls H locs (lv_sub hl [2, 3, 4, 1, 5, 6, 0] rfl) hP hD hS
            intro i48 mo49 lo50 h ls H locs hl hP hD hS
            refine lv_iload hx hb dX4_ask_74 (lv_at hl 6 rfl) ?_
            refine lv_bipush (v := 20) hx hb dX4_ask_76 (by decide) ?_
            refine lv_icmp_gt (tgt := 108) hx hb dX4_ask_78 (by decide) (fun c51 => ?_) (fun c51 => ?_)
            · have h := br1 h c51
              exact hJ_108 x47 mo49 lo50 ls H locs h (lv_sub hl [0, 1, 2, 3, 4, 5] rfl) hP hD hS
            · have h := br2 h c51
              refine lv_aload_n hx hb dX4_ask_81 rfl (lv_at hl 0 rfl) ?_
              refine va_get (D := D) (ci := 4) (v := .ref (a 8)) (C := RX4) (T := TX4) (N := 29) hx hb hts hi4 hown hK.1 hP 0 rfl rfl 23 (by decide) (hts (.fieldLink RX4 32 "LastPennyModel" "ways" "[I") (by decide +kernel)) (fun _ h9 => h9) rfl dX4_ask_82 ?_
              refine lv_iconst (v := 5) hx hb dX4_ask_85 (by decide) ?_
              refine lv_iload hx hb dX4_ask_86 (lv_at hl 6 rfl) ?_
              refine lv_imul hx hb dX4_ask_88 ?_
              refine lv_aload_n hx hb dX4_ask_89 rfl (lv_at hl 0 rfl) ?_
              refine va_get (D := D) (ci := 4) (v := .ref (a 7)) (C := RX4) (T := TX4) (N := 29) hx hb hts hi4 hown hK.1 hP 0 rfl rfl 22 (by decide) (hts (.fieldLink RX4 29 "LastPennyModel" "held" "[I") (by decide +kernel)) (fun _ h9 => h9) rfl dX4_ask_90 ?_
              refine lv_iload hx hb dX4_ask_93 (lv_at hl 6 rfl) ?_
              obtain ⟨hi_52, h⟩ := h
              refine va_iald hx hb hK.1 hP 7 0 rfl rfl hi_52 dX4_ask_95 ?_
              refine lv_iadd hx hb dX4_ask_96 ?_
              refine lv_dup2_11 hx hb dX4_ask_97 rfl rfl ?_
              obtain ⟨hi_53, h⟩ := h
              refine va_iald hx hb hK.1 hP 8 0 rfl rfl hi_53 dX4_ask_98 ?_
              refine lv_iconst (v := 1) hx hb dX4_ask_99 (by decide) ?_
              refine lv_iadd hx hb dX4_ask_100 ?_
              obtain ⟨hi_54, h⟩ := h
              refine va_iast hx hb hK.1 hP hD hS 8 0 rfl rfl hi_54 dX4_ask_101 (fun H locs hP hD hS => ?_)
              obtain ⟨mo55, emo55⟩ : ∃ z, z = (va_up mo49 8 (upd (mo49 8) ((5 * i48) + (mo49 7 i48.toNatClampNeg)).toNatClampNeg ((mo49 8 ((5 * i48) + (mo49 7 i48.toNatClampNeg)).toNatClampNeg) + 1))) := ⟨_, rfl⟩
              have h := nm_out h mo55 emo55
              have hP : va_P D vwCl (cM kc a mo55 lo50) H := q_to hP (by subst emo55; rfl)
              have hD : va_D A (cM kc a mo55 lo50) := q_toD hD (by subst emo55; rfl)
              obtain ⟨x56, ex56⟩ : ∃ z : Int32, z = i48 + 1 := ⟨_, rfl⟩
              have h := nm_out h x56 ex56
              refine lv_iinc (v := x56) (lv' := [(6, .int x56), (0, .ref (a 0)), (1, .int p1), (2, .int p2), (3, .int x47), (4, .int x9), (5, .int i15)]) hx hb dX4_ask_102 hl (k := 6) rfl (by rw [ex56]; rfl) (by decide) rfl (fun ls hl => ?_)
              refine lv_goto (tgt := 74) hx hb dX4_ask_105 (by decide) ?_
              exact h ls H locs (lv_sub hl [1, 2, 3, 4, 5, 6, 0] rfl) hP hD hS
      · have h := br2 h c13
        refine lv_aload_n hx hb dX4_ask_33 rfl (lv_at hl 0 rfl) ?_
        refine va_get (D := D) (ci := 4) (v := .ref (a 8)) (C := RX4) (T := TX4) (N := 29) hx hb hts hi4 hown hK.1 hP 0 rfl rfl 23 (by decide) (hts (.fieldLink RX4 32 "LastPennyModel" "ways" "[I") (by decide +kernel)) (fun _ h9 => h9) rfl dX4_ask_34 ?_
        refine lv_iload hx hb dX4_ask_37 (lv_at hl 5 rfl) ?_
        refine lv_iconst (v := 0) hx hb dX4_ask_39 (by decide) ?_
        obtain ⟨hi_57, h⟩ := h
        refine va_iast hx hb hK.1 hP hD hS 8 0 rfl rfl hi_57 dX4_ask_40 (fun H locs hP hD hS => ?_)
        obtain ⟨mo58, emo58⟩ : ∃ z, z = (va_up mo11 8 (upd (mo11 8) i10.toNatClampNeg 0)) := ⟨_, rfl⟩
        have h := nm_out h mo58 emo58
        have hP : va_P D vwCl (cM kc a mo58 lo12) H := q_to hP (by subst emo58; rfl)
        have hD : va_D A (cM kc a mo58 lo12) := q_toD hD (by subst emo58; rfl)
        obtain ⟨x59, ex59⟩ : ∃ z : Int32, z = i10 + 1 := ⟨_, rfl⟩
        have h := nm_out h x59 ex59
        refine lv_iinc (v := x59) (lv' := [(5, .int x59), (0, .ref (a 0)), (1, .int p1), (2, .int p2), (3, .int 0), (4, .int x9)]) hx hb dX4_ask_41 hl (k := 5) rfl (by rw [ex59]; rfl) (by decide) rfl (fun ls hl => ?_)
        refine lv_goto (tgt := 26) hx hb dX4_ask_44 (by decide) ?_
        exact h ls H locs (lv_sub hl [1, 2, 3, 4, 5, 0] rfl) hP hD hS
    · have h := br1 h c8
      refine lv_iconst (v := -1) hx hb dX4_ask_15 (by decide) ?_
      exact hret (-1) (mo1, lo2) H locs ls _ h hP hD hS dX4_ask_16

def w_X4_drift (p1 : Int32) (p2 : Int32) (p3 : Int32) (mo : S2) (lo : SL) (K : Int32 → S2 → SL → Prop) : Prop := w_X4_in (p2.toInt64) (1 : Int64) (60 : Int64) (fun r1 => br (r1 = 0) (K (-1) mo lo) (w_X4_isPart p3 (fun r4 => br (r4 = 0) (K (-1) mo lo) (br ((mo 0 3) = 0) (K (-2) mo lo) (w_X4_starts mo lo (fun mo8 lo9 => lfp4 (fun G41 (i11 : Int32) (i12 : Int32) (mo13 : S2) (lo14 : SL) => br (p2 ≤ i12) (br (p3 = 0) (w_X4_allOf (1 : Int32) mo13 lo14 (fun r19 mo17 lo18 => K r19 mo17 lo18)) (K (mo13 2 (22 : Int32).toNatClampNeg) mo13 lo14)) (nm (((i11 * 1103515245) + 12345) : Int32) (fun x21 => nm ((va_up mo13 2 (upd (mo13 2) (21 : Int32).toNatClampNeg (((x21 >>> ((16 : Int32) &&& 31)) &&& 32767) - ((x21 >>> ((16 : Int32) &&& 31)) &&& 32767) / 10 * 10))) : S2) (fun mo22 => w_X4_quarterGoes mo22 lo14 (fun mo23 lo24 => nm (i12 + 1 : Int32) (fun x26 => G41 x21 x26 mo23 lo24)))))) p1 0 mo8 lo9))))))
abbrev rm_X4_drift : Room := { frames := 4, cells := 0, slots := 0, locals := 88 }
set_option maxHeartbeats 4000000 in
set_option maxRecDepth 100000 in
theorem c_X4_drift (l : Launch) (D : va_G) (kc : Nat → ClassId) (a : Nat → Nat) (p1 : Int32) (p2 : Int32) (p3 : Int32) (mo : S2) (lo : SL) (sz : Nat) (K : Int32 → S2 → SL → Prop) (h : w_X4_drift p1 p2 p3 mo lo K) : MetI l yX4_drift wsX4_drift rm_X4_drift D kc (fun u : S2 × SL => cM kc a u.1 u.2) (mo, lo) [.ref (a 0), .int p1, .int p2, .int p3] sz (fun r u => K r u.1 u.2) := by
  refine q_ei (code := cX4_drift) (maxL := 6) (by decide) rfl (Nat.le_of_ble_eq_true rfl) ?_
  intro p e s m args below meth c Q A hx hb hml hts hown hK hA hret ls hl hP hD hS
  have hown : s.vm.findClass RX4 = some m.cls := hown
  have hl : lv_has ls 6 [(0, .ref (a 0)), (1, .int p1), (2, .int p2), (3, .int p3)] := hl
  have hP : va_P D vwCl (cM kc a mo lo) s.heap := hP
  have hD : va_D A (cM kc a mo lo) := hD
  have hS : va_S A s.heap s.heap [] := hS
  obtain ⟨H, eH⟩ : ∃ z, z = s.heap := ⟨_, rfl⟩
  obtain ⟨locs, eL⟩ : ∃ z : List Loc, z = [] := ⟨_, rfl⟩
  have hP := q_heap hP eH
  have hS := q_heapS hS eH eL
  refine q_start eH eL ?_
  clear eH eL
  have hi4 : ∀ w ∈ u_ws RX4 TX4 29, w ∈ wsX4_drift := by decide +kernel
  unfold w_X4_drift at h
  refine lv_iload_n hx hb dX4_drift_0 rfl (lv_at hl 2 rfl) ?_
  refine lv_i2l hx hb dX4_drift_1 rfl ?_
  refine lv_lconst (v := 1) hx hb dX4_drift_2 (by decide) ?_
  refine lv_ldc2 (v := 60) hx hb hown (hts (.constantLong RX4 220 (60)) (by decide +kernel)) dX4_drift_3 ?_
  refine q_cSi (As := [.long (p2.toInt64), .long 1, .long 60]) (rest := []) ⟨hx, hb, hml, hown, hts⟩ hK (c_X4_in l D kc (p2.toInt64) (1 : Int64) (60 : Int64) H.size _ h) (va_cwS 3 hts gX4_drift_X4_in rfl rfl rfl (by decide +kernel) ⟨Nat.le_of_ble_eq_true rfl, Nat.le_of_ble_eq_true rfl⟩) (cut_nil _) hP hD hS hA rfl hl.1 rfl (Nat.le_of_ble_eq_true rfl) dX4_drift_6 ⟨Nat.zero_le _, Nat.zero_le _⟩ (fun r1 _ H locs h hP hD hS => ?_)
  have hP : va_P D vwCl (cM kc a mo lo) H := hP
  have hD : va_D A (cM kc a mo lo) := hD
  refine lv_if_eq (tgt := 19) hx hb dX4_drift_9 (by decide) (fun c3 => ?_) (fun c3 => ?_)
  · have h := br1 h c3
    refine lv_iconst (v := -1) hx hb dX4_drift_19 (by decide) ?_
    exact hret (-1) (mo, lo) H locs ls _ h hP hD hS dX4_drift_20
  · have h := br2 h c3
    refine lv_iload_n hx hb dX4_drift_12 rfl (lv_at hl 3 rfl) ?_
    refine q_cSi (As := [.int p3]) (rest := []) ⟨hx, hb, hml, hown, hts⟩ hK (c_X4_isPart l D kc p3 H.size _ h) (va_cwS 1 hts gX4_drift_X4_isPart rfl rfl rfl (by decide +kernel) ⟨Nat.le_of_ble_eq_true rfl, Nat.le_of_ble_eq_true rfl⟩) (cut_nil _) hP hD hS hA rfl hl.1 rfl (Nat.le_of_ble_eq_true rfl) dX4_drift_13 ⟨Nat.zero_le _, Nat.zero_le _⟩ (fun r4 _ H locs h hP hD hS => ?_)
    have hP : va_P D vwCl (cM kc a mo lo) H := hP
    have hD : va_D A (cM kc a mo lo) := hD
    refine lv_if_ne (tgt := 21) hx hb dX4_drift_16 (by decide) (fun c6 => ?_) (fun c6 => ?_)
    · have h := br2 h c6
      refine lv_aload_n hx hb dX4_drift_21 rfl (lv_at hl 0 rfl) ?_
      refine va_get (D := D) (ci := 4) (v := .int (mo 0 3)) (C := RX4) (T := TX4) (N := 29) hx hb hts hi4 hown hK.1 hP 0 rfl rfl 3 (by decide) (hts (.fieldLink RX4 67 "LastPennyModel" "people" "I") (by decide +kernel)) (fun _ h9 => h9) rfl dX4_drift_22 ?_
      refine lv_if_ne (tgt := 31) hx hb dX4_drift_25 (by decide) (fun c7 => ?_) (fun c7 => ?_)
      · have h := br2 h c7
        refine lv_iload_n hx hb dX4_drift_31 rfl (lv_at hl 1 rfl) ?_
        refine lv_istore (lv' := [(4, .int p1), (0, .ref (a 0)), (1, .int p1), (2, .int p2), (3, .int p3)]) hx hb dX4_drift_32 hl (by decide) rfl (fun ls hl => ?_)
        refine lv_aload_n hx hb dX4_drift_34 rfl (lv_at hl 1 rfl) ?_
        refine q_cVv (As := []) (rest := []) ⟨hx, hb, hml, hown, hts⟩ hK (c_X4_starts l D kc a mo lo H.size _ h) (cwV 0 hts gX4_drift_X4_starts rfl rfl rfl (by decide +kernel) ⟨Nat.le_of_ble_eq_true rfl, Nat.le_of_ble_eq_true rfl⟩) (cut_same (fun u : S2 × SL => cM kc a u.1 u.2) (mo, lo)) hP hD hS hA 4 0 rfl rfl rfl hl.1 rfl (Nat.le_of_ble_eq_true rfl) dX4_drift_35 ⟨Nat.zero_le _, Nat.zero_le _⟩ (fun u10 H locs h hP hD hS => ?_)
        obtain ⟨mo8, lo9⟩ := u10
        have hP : va_P D vwCl (cM kc a mo8 lo9) H := hP
        have hD : va_D A (cM kc a mo8 lo9) := hD
        refine lv_iconst (v := 0) hx hb dX4_drift_38 (by decide) ?_
        refine lv_istore (lv' := [(5, .int 0), (4, .int p1), (0, .ref (a 0)), (1, .int p1), (2, .int p2), (3, .int p3)]) hx hb dX4_drift_39 hl (by decide) rfl (fun ls hl => ?_)
        refine h (fun (i11 : Int32) (i12 : Int32) (mo13 : S2) (lo14 : SL) => ∀ (ls : Array Slot) (H : Heap) (locs : List Loc), lv_has ls 6 [(0, .ref (a 0)), (2, .int p2), (3, .int p3), (4, .int i11), (5, .int i12)] → va_P D vwCl (cM kc a mo13 lo14) H → va_D A (cM kc a mo13 lo14) → va_S A s.heap H locs → W p l e rm_X4_drift s m args below meth c H locs 0 0 Q (F0 m 41 ls [])) ?_ ls H locs (lv_sub hl [2, 4, 5, 1, 0] rfl) hP hD hS
        intro i11 i12 mo13 lo14 h ls H locs hl hP hD hS
        refine lv_iload hx hb dX4_drift_41 (lv_at hl 4 rfl) ?_
        refine lv_iload_n hx hb dX4_drift_43 rfl (lv_at hl 1 rfl) ?_
        refine lv_icmp_ge (tgt := 88) hx hb dX4_drift_44 (by decide) (fun c15 => ?_) (fun c15 => ?_)
        · have h := br1 h c15
          refine lv_iload_n hx hb dX4_drift_88 rfl (lv_at hl 2 rfl) ?_
          refine lv_if_ne (tgt := 100) hx hb dX4_drift_89 (by decide) (fun c16 => ?_) (fun c16 => ?_)
          · have h := br2 h c16
            refine lv_aload_n hx hb dX4_drift_100 rfl (lv_at hl 0 rfl) ?_
            refine va_get (D := D) (ci := 4) (v := .ref (a 2)) (C := RX4) (T := TX4) (N := 29) hx hb hts hi4 hown hK.1 hP 0 rfl rfl 1 (by decide) (hts (.fieldLink RX4 13 "LastPennyModel" "now" "[I") (by decide +kernel)) (fun _ h9 => h9) rfl dX4_drift_101 ?_
            refine lv_bipush (v := 22) hx hb dX4_drift_104 (by decide) ?_
            refine va_iald hx hb hK.1 hP 2 0 rfl rfl (by unfold vp_in; decide) dX4_drift_106 ?_
            exact hret (mo13 2 (22 : Int32).toNatClampNeg) (mo13, lo14) H locs ls _ h hP hD hS dX4_drift_107
          · have h := br1 h c16
            refine lv_aload_n hx hb dX4_drift_92 rfl (lv_at hl 0 rfl) ?_
            refine lv_iconst (v := 1) hx hb dX4_drift_93 (by decide) ?_
            refine q_cVi (As := [.int 1]) (rest := []) ⟨hx, hb, hml, hown, hts⟩ hK (c_X4_allOf l D kc a (1 : Int32) mo13 lo14 H.size _ h) (cwV 1 hts gX4_drift_X4_allOf rfl rfl rfl (by decide +kernel) ⟨Nat.le_of_ble_eq_true rfl, Nat.le_of_ble_eq_true rfl⟩) (cut_same (fun u : S2 × SL => cM kc a u.1 u.2) (mo13, lo14)) hP hD hS hA 4 0 rfl rfl rfl hl.1 rfl (Nat.le_of_ble_eq_true rfl) dX4_drift_94 ⟨Nat.zero_le _, Nat.zero_le _⟩ (fun r19 u20 H locs h hP hD hS => ?_)
            obtain ⟨mo17, lo18⟩ := u20
            have hP : va_P D vwCl (cM kc a mo17 lo18) H := hP
            have hD : va_D A (cM kc a mo17 lo18) := hD
            refine lv_goto (tgt := 107) hx hb dX4_drift_97 (by decide) ?_
            exact hret r19 (mo17, lo18) H locs ls _ h hP hD hS dX4_drift_107
        · have h := br2 h c15
          refine lv_iload hx hb dX4_drift_47 (lv_at hl 3 rfl) ?_
          refine lv_ldcw (v := 1103515245) hx hb hown (hts (.constant RX4 271 (1103515245)) (by decide +kernel)) dX4_drift_49 ?_
          refine lv_imul hx hb dX4_drift_52 ?_
          refine lv_sipush (v := 12345) hx hb dX4_drift_53 (by decide) ?_
          refine lv_iadd hx hb dX4_drift_56 ?_
          refine lv_topi (fun x21 ex21 => ?_)
          have h := nm_out h x21 ex21
          refine lv_istore (lv' := [(4, .int x21), (0, .ref (a 0)), (2, .int p2), (3, .int p3), (5, .int i12)]) hx hb dX4_drift_57 hl (by decide) rfl (fun ls hl => ?_)
          refine lv_aload_n hx hb dX4_drift_59 rfl (lv_at hl 1 rfl) ?_
          refine va_get (D := D) (ci := 4) (v := .ref (a 2)) (C := RX4) (T := TX4) (N := 29) hx hb hts hi4 hown hK.1 hP 0 rfl rfl 1 (by decide) (hts (.fieldLink RX4 13 "LastPennyModel" "now" "[I") (by decide +kernel)) (fun _ h9 => h9) rfl dX4_drift_60 ?_
          refine lv_bipush (v := 21) hx hb dX4_drift_63 (by decide) ?_
          refine lv_iload hx hb dX4_drift_65 (lv_at hl 0 rfl) ?_
          refine lv_bipush (v := 16) hx hb dX4_drift_67 (by decide) ?_
          refine lv_ishr hx hb dX4_drift_69 ?_
          refine lv_sipush (v := 32767) hx hb dX4_drift_70 (by decide) ?_
          refine lv_iand hx hb dX4_drift_73 ?_
          refine lv_bipush (v := 10) hx hb dX4_drift_74 (by decide) ?_
          refine lv_irem hx hb dX4_drift_76 (by decide) ?_
          refine va_iast hx hb hK.1 hP hD hS 2 0 rfl rfl (by unfold vp_in; decide) dX4_drift_77 (fun H locs hP hD hS => ?_)
          obtain ⟨mo22, emo22⟩ : ∃ z, z = (va_up mo13 2 (upd (mo13 2) (21 : Int32).toNatClampNeg (((x21 >>> ((16 : Int32) &&& 31)) &&& 32767) - ((x21 >>> ((16 : Int32) &&& 31)) &&& 32767) / 10 * 10))) := ⟨_, rfl⟩
          have h := nm_out h mo22 emo22
          have hP : va_P D vwCl (cM kc a mo22 lo14) H := q_to hP (by subst emo22; rfl)
          have hD : va_D A (cM kc a mo22 lo14) := q_toD hD (by subst emo22; rfl)
          refine lv_aload_n hx hb dX4_drift_78 rfl (lv_at hl 1 rfl) ?_
          refine q_cVv (As := []) (rest := []) ⟨hx, hb, hml, hown, hts⟩ hK (c_X4_quarterGoes l D kc a mo22 lo14 H.size _ h) (cwV 0 hts gX4_drift_X4_quarterGoes rfl rfl rfl (by decide +kernel) ⟨Nat.le_of_ble_eq_true rfl, Nat.le_of_ble_eq_true rfl⟩) (cut_same (fun u : S2 × SL => cM kc a u.1 u.2) (mo22, lo14)) hP hD hS hA 4 0 rfl rfl rfl hl.1 rfl (Nat.le_of_ble_eq_true rfl) dX4_drift_79 ⟨Nat.zero_le _, Nat.zero_le _⟩ (fun u25 H locs h hP hD hS => ?_)
          obtain ⟨mo23, lo24⟩ := u25
          have hP : va_P D vwCl (cM kc a mo23 lo24) H := hP
          have hD : va_D A (cM kc a mo23 lo24) := hD
          obtain ⟨x26, ex26⟩ : ∃ z : Int32, z = i12 + 1 := ⟨_, rfl⟩
          have h := nm_out h x26 ex26
          refine lv_iinc (v := x26) (lv' := [(5, .int x26), (4, .int x21), (0, .ref (a 0)), (2, .int p2), (3, .int p3)]) hx hb dX4_drift_82 hl (k := 4) rfl (by rw [ex26]; rfl) (by decide) rfl (fun ls hl => ?_)
          refine lv_goto (tgt := 41) hx hb dX4_drift_85 (by decide) ?_
          exact h ls H locs (lv_sub hl [2, 3, 4, 1, 0] rfl) hP hD hS
      · have h := br1 h c7
        refine lv_bipush (v := -2) hx hb dX4_drift_28 (by decide) ?_
        exact hret (-2) (mo, lo) H locs ls _ h hP hD hS dX4_drift_30
    · have h := br1 h c6
      refine lv_iconst (v := -1) hx hb dX4_drift_19 (by decide) ?_
      exact hret (-1) (mo, lo) H locs ls _ h hP hD hS dX4_drift_20

def w_X4_copies (p1 : Int32) (p2 : Int32) (mo : S2) (lo : SL) (K : S2 → SL → Prop) : Prop := lfp3 (fun G2 (i1 : Int32) (mo2 : S2) (lo3 : SL) => br (57 ≤ i1) (K mo2 lo3) (vp_in (p2 + i1) 171 ∧ (vp_in (p1 + i1) 171 ∧ (nm ((va_up mo2 1 (upd (mo2 1) (p1 + i1).toNatClampNeg (mo2 1 (p2 + i1).toNatClampNeg))) : S2) (fun mo7 => nm (i1 + 1 : Int32) (fun x8 => G2 x8 mo7 lo3)))))) 0 mo lo
abbrev rm_X4_copies : Room := { frames := 0, cells := 0, slots := 0, locals := 0 }
set_option maxHeartbeats 4000000 in
set_option maxRecDepth 100000 in
theorem c_X4_copies (l : Launch) (D : va_G) (kc : Nat → ClassId) (a : Nat → Nat) (p1 : Int32) (p2 : Int32) (mo : S2) (lo : SL) (sz : Nat) (K : S2 → SL → Prop) (h : w_X4_copies p1 p2 mo lo K) : MetV l yX4_copies wsX4_copies rm_X4_copies D kc (fun u : S2 × SL => cM kc a u.1 u.2) (mo, lo) [.ref (a 0), .int p1, .int p2] sz (fun u => K u.1 u.2) := by
  refine q_ev (code := cX4_copies) (maxL := 4) (by decide) rfl (Nat.le_of_ble_eq_true rfl) ?_
  intro p e s m args below meth c Q A hx hb hml hts hown hK hA hret ls hl hP hD hS
  have hown : s.vm.findClass RX4 = some m.cls := hown
  have hl : lv_has ls 4 [(0, .ref (a 0)), (1, .int p1), (2, .int p2)] := hl
  have hP : va_P D vwCl (cM kc a mo lo) s.heap := hP
  have hD : va_D A (cM kc a mo lo) := hD
  have hS : va_S A s.heap s.heap [] := hS
  obtain ⟨H, eH⟩ : ∃ z, z = s.heap := ⟨_, rfl⟩
  obtain ⟨locs, eL⟩ : ∃ z : List Loc, z = [] := ⟨_, rfl⟩
  have hP := q_heap hP eH
  have hS := q_heapS hS eH eL
  refine q_start eH eL ?_
  clear eH eL
  have hi4 : ∀ w ∈ u_ws RX4 TX4 29, w ∈ wsX4_copies := by decide +kernel
  unfold w_X4_copies at h
  refine lv_iconst (v := 0) hx hb dX4_copies_0 (by decide) ?_
  refine lv_istore_n (lv' := [(3, .int 0), (0, .ref (a 0)), (1, .int p1), (2, .int p2)]) hx hb dX4_copies_1 rfl hl (by decide) rfl (fun ls hl => ?_)
  refine h (fun (i1 : Int32) (mo2 : S2) (lo3 : SL) => ∀ (ls : Array Slot) (H : Heap) (locs : List Loc), lv_has ls 4 [(0, .ref (a 0)), (1, .int p1), (2, .int p2), (3, .int i1)] → va_P D vwCl (cM kc a mo2 lo3) H → va_D A (cM kc a mo2 lo3) → va_S A s.heap H locs → W p l e rm_X4_copies s m args below meth c H locs 0 0 Q (F0 m 2 ls [])) ?_ ls H locs (lv_sub hl [1, 2, 3, 0] rfl) hP hD hS
  intro i1 mo2 lo3 h ls H locs hl hP hD hS
  refine lv_iload_n hx hb dX4_copies_2 rfl (lv_at hl 3 rfl) ?_
  refine lv_bipush (v := 57) hx hb dX4_copies_3 (by decide) ?_
  refine lv_icmp_ge (tgt := 30) hx hb dX4_copies_5 (by decide) (fun c4 => ?_) (fun c4 => ?_)
  · have h := br1 h c4
    exact hret (mo2, lo3) H locs ls _ h hP hD hS dX4_copies_30
  · have h := br2 h c4
    refine lv_aload_n hx hb dX4_copies_8 rfl (lv_at hl 0 rfl) ?_
    refine va_get (D := D) (ci := 4) (v := .ref (a 1)) (C := RX4) (T := TX4) (N := 29) hx hb hts hi4 hown hK.1 hP 0 rfl rfl 0 (by decide) (hts (.fieldLink RX4 7 "LastPennyModel" "st" "[I") (by decide +kernel)) (fun _ h9 => h9) rfl dX4_copies_9 ?_
    refine lv_iload_n hx hb dX4_copies_12 rfl (lv_at hl 1 rfl) ?_
    refine lv_iload_n hx hb dX4_copies_13 rfl (lv_at hl 3 rfl) ?_
    refine lv_iadd hx hb dX4_copies_14 ?_
    refine lv_aload_n hx hb dX4_copies_15 rfl (lv_at hl 0 rfl) ?_
    refine va_get (D := D) (ci := 4) (v := .ref (a 1)) (C := RX4) (T := TX4) (N := 29) hx hb hts hi4 hown hK.1 hP 0 rfl rfl 0 (by decide) (hts (.fieldLink RX4 7 "LastPennyModel" "st" "[I") (by decide +kernel)) (fun _ h9 => h9) rfl dX4_copies_16 ?_
    refine lv_iload_n hx hb dX4_copies_19 rfl (lv_at hl 2 rfl) ?_
    refine lv_iload_n hx hb dX4_copies_20 rfl (lv_at hl 3 rfl) ?_
    refine lv_iadd hx hb dX4_copies_21 ?_
    obtain ⟨hi_5, h⟩ := h
    refine va_iald hx hb hK.1 hP 1 0 rfl rfl hi_5 dX4_copies_22 ?_
    obtain ⟨hi_6, h⟩ := h
    refine va_iast hx hb hK.1 hP hD hS 1 0 rfl rfl hi_6 dX4_copies_23 (fun H locs hP hD hS => ?_)
    obtain ⟨mo7, emo7⟩ : ∃ z, z = (va_up mo2 1 (upd (mo2 1) (p1 + i1).toNatClampNeg (mo2 1 (p2 + i1).toNatClampNeg))) := ⟨_, rfl⟩
    have h := nm_out h mo7 emo7
    have hP : va_P D vwCl (cM kc a mo7 lo3) H := q_to hP (by subst emo7; rfl)
    have hD : va_D A (cM kc a mo7 lo3) := q_toD hD (by subst emo7; rfl)
    obtain ⟨x8, ex8⟩ : ∃ z : Int32, z = i1 + 1 := ⟨_, rfl⟩
    have h := nm_out h x8 ex8
    refine lv_iinc (v := x8) (lv' := [(3, .int x8), (0, .ref (a 0)), (1, .int p1), (2, .int p2)]) hx hb dX4_copies_24 hl (k := 3) rfl (by rw [ex8]; rfl) (by decide) rfl (fun ls hl => ?_)
    refine lv_goto (tgt := 2) hx hb dX4_copies_27 (by decide) ?_
    exact h ls H locs (lv_sub hl [1, 2, 3, 0] rfl) hP hD hS

def w_X4_keep (p1 : Int32) (mo : S2) (lo : SL) (K : Int32 → S2 → SL → Prop) : Prop := w_X4_in (p1.toInt64) (0 : Int64) (1 : Int64) (fun r1 => br (r1 = 0) (K (-1) mo lo) (vp_in p1 2 ∧ (w_X4_flag (mo 3 p1.toNatClampNeg) (fun r5 => vp_in p1 2 ∧ (nm ((va_up mo 3 (upd (mo 3) p1.toNatClampNeg (vp_nar .boolean 1))) : S2) (fun mo8 => w_X4_copies (57 * (p1 + 1)) (0 : Int32) mo8 lo (fun mo9 lo10 => K r5 mo9 lo10)))))))
abbrev rm_X4_keep : Room := { frames := 1, cells := 0, slots := 0, locals := 25 }
set_option maxHeartbeats 4000000 in
set_option maxRecDepth 100000 in
theorem c_X4_keep (l : Launch) (D : va_G) (kc : Nat → ClassId) (a : Nat → Nat) (p1 : Int32) (mo : S2) (lo : SL) (sz : Nat) (K : Int32 → S2 → SL → Prop) (h : w_X4_keep p1 mo lo K) : MetI l yX4_keep wsX4_keep rm_X4_keep D kc (fun u : S2 × SL => cM kc a u.1 u.2) (mo, lo) [.ref (a 0), .int p1] sz (fun r u => K r u.1 u.2) := by
  refine q_ei (code := cX4_keep) (maxL := 3) (by decide) rfl (Nat.le_of_ble_eq_true rfl) ?_
  intro p e s m args below meth c Q A hx hb hml hts hown hK hA hret ls hl hP hD hS
  have hown : s.vm.findClass RX4 = some m.cls := hown
  have hl : lv_has ls 3 [(0, .ref (a 0)), (1, .int p1)] := hl
  have hP : va_P D vwCl (cM kc a mo lo) s.heap := hP
  have hD : va_D A (cM kc a mo lo) := hD
  have hS : va_S A s.heap s.heap [] := hS
  obtain ⟨H, eH⟩ : ∃ z, z = s.heap := ⟨_, rfl⟩
  obtain ⟨locs, eL⟩ : ∃ z : List Loc, z = [] := ⟨_, rfl⟩
  have hP := q_heap hP eH
  have hS := q_heapS hS eH eL
  refine q_start eH eL ?_
  clear eH eL
  have hi4 : ∀ w ∈ u_ws RX4 TX4 29, w ∈ wsX4_keep := by decide +kernel
  unfold w_X4_keep at h
  refine lv_iload_n hx hb dX4_keep_0 rfl (lv_at hl 1 rfl) ?_
  refine lv_i2l hx hb dX4_keep_1 rfl ?_
  refine lv_lconst (v := 0) hx hb dX4_keep_2 (by decide) ?_
  refine lv_lconst (v := 1) hx hb dX4_keep_3 (by decide) ?_
  refine q_cSi (As := [.long (p1.toInt64), .long 0, .long 1]) (rest := []) ⟨hx, hb, hml, hown, hts⟩ hK (c_X4_in l D kc (p1.toInt64) (0 : Int64) (1 : Int64) H.size _ h) (va_cwS 3 hts gX4_keep_X4_in rfl rfl rfl (by decide +kernel) ⟨Nat.le_of_ble_eq_true rfl, Nat.le_of_ble_eq_true rfl⟩) (cut_nil _) hP hD hS hA rfl hl.1 rfl (Nat.le_of_ble_eq_true rfl) dX4_keep_4 ⟨Nat.zero_le _, Nat.zero_le _⟩ (fun r1 _ H locs h hP hD hS => ?_)
  have hP : va_P D vwCl (cM kc a mo lo) H := hP
  have hD : va_D A (cM kc a mo lo) := hD
  refine lv_if_ne (tgt := 12) hx hb dX4_keep_7 (by decide) (fun c3 => ?_) (fun c3 => ?_)
  · have h := br2 h c3
    refine lv_aload_n hx hb dX4_keep_12 rfl (lv_at hl 0 rfl) ?_
    refine va_get (D := D) (ci := 4) (v := .ref (a 3)) (C := RX4) (T := TX4) (N := 29) hx hb hts hi4 hown hK.1 hP 0 rfl rfl 2 (by decide) (hts (.fieldLink RX4 16 "LastPennyModel" "isKept" "[Z") (by decide +kernel)) (fun _ h9 => h9) rfl dX4_keep_13 ?_
    refine lv_iload_n hx hb dX4_keep_16 rfl (lv_at hl 1 rfl) ?_
    obtain ⟨hi_4, h⟩ := h
    refine va_zald hx hb hK.1 hP 3 2 rfl rfl hi_4 dX4_keep_17 ?_
    refine q_cSi (As := [.int (mo 3 p1.toNatClampNeg)]) (rest := []) ⟨hx, hb, hml, hown, hts⟩ hK (c_X4_flag l D kc (mo 3 p1.toNatClampNeg) H.size _ h) (va_cwS 1 hts gX4_keep_X4_flag rfl rfl rfl (by decide +kernel) ⟨Nat.le_of_ble_eq_true rfl, Nat.le_of_ble_eq_true rfl⟩) (cut_nil _) hP hD hS hA rfl hl.1 rfl (Nat.le_of_ble_eq_true rfl) dX4_keep_18 ⟨Nat.zero_le _, Nat.zero_le _⟩ (fun r5 _ H locs h hP hD hS => ?_)
    have hP : va_P D vwCl (cM kc a mo lo) H := hP
    have hD : va_D A (cM kc a mo lo) := hD
    refine lv_istore_n (lv' := [(2, .int r5), (0, .ref (a 0)), (1, .int p1)]) hx hb dX4_keep_21 rfl hl (by decide) rfl (fun ls hl => ?_)
    refine lv_aload_n hx hb dX4_keep_22 rfl (lv_at hl 1 rfl) ?_
    refine va_get (D := D) (ci := 4) (v := .ref (a 3)) (C := RX4) (T := TX4) (N := 29) hx hb hts hi4 hown hK.1 hP 0 rfl rfl 2 (by decide) (hts (.fieldLink RX4 16 "LastPennyModel" "isKept" "[Z") (by decide +kernel)) (fun _ h9 => h9) rfl dX4_keep_23 ?_
    refine lv_iload_n hx hb dX4_keep_26 rfl (lv_at hl 2 rfl) ?_
    refine lv_iconst (v := 1) hx hb dX4_keep_27 (by decide) ?_
    obtain ⟨hi_7, h⟩ := h
    refine va_zast hx hb hK.1 hP hD hS 3 2 rfl rfl hi_7 dX4_keep_28 (fun H locs hP hD hS => ?_)
    obtain ⟨mo8, emo8⟩ : ∃ z, z = (va_up mo 3 (upd (mo 3) p1.toNatClampNeg (vp_nar .boolean 1))) := ⟨_, rfl⟩
    have h := nm_out h mo8 emo8
    have hP : va_P D vwCl (cM kc a mo8 lo) H := q_to hP (by subst emo8; rfl)
    have hD : va_D A (cM kc a mo8 lo) := q_toD hD (by subst emo8; rfl)
    refine lv_aload_n hx hb dX4_keep_29 rfl (lv_at hl 1 rfl) ?_
    refine lv_bipush (v := 57) hx hb dX4_keep_30 (by decide) ?_
    refine lv_iload_n hx hb dX4_keep_32 rfl (lv_at hl 2 rfl) ?_
    refine lv_iconst (v := 1) hx hb dX4_keep_33 (by decide) ?_
    refine lv_iadd hx hb dX4_keep_34 ?_
    refine lv_imul hx hb dX4_keep_35 ?_
    refine lv_iconst (v := 0) hx hb dX4_keep_36 (by decide) ?_
    refine q_cVv (As := [.int (57 * (p1 + 1)), .int 0]) (rest := []) ⟨hx, hb, hml, hown, hts⟩ hK (c_X4_copies l D kc a (57 * (p1 + 1)) (0 : Int32) mo8 lo H.size _ h) (cwV 2 hts gX4_keep_X4_copies rfl rfl rfl (by decide +kernel) ⟨Nat.le_of_ble_eq_true rfl, Nat.le_of_ble_eq_true rfl⟩) (cut_same (fun u : S2 × SL => cM kc a u.1 u.2) (mo8, lo)) hP hD hS hA 4 0 rfl rfl rfl hl.1 rfl (Nat.le_of_ble_eq_true rfl) dX4_keep_37 ⟨Nat.zero_le _, Nat.zero_le _⟩ (fun u11 H locs h hP hD hS => ?_)
    obtain ⟨mo9, lo10⟩ := u11
    have hP : va_P D vwCl (cM kc a mo9 lo10) H := hP
    have hD : va_D A (cM kc a mo9 lo10) := hD
    refine lv_iload_n hx hb dX4_keep_40 rfl (lv_at hl 0 rfl) ?_
    exact hret r5 (mo9, lo10) H locs ls _ h hP hD hS dX4_keep_41
  · have h := br1 h c3
    refine lv_iconst (v := -1) hx hb dX4_keep_10 (by decide) ?_
    exact hret (-1) (mo, lo) H locs ls _ h hP hD hS dX4_keep_11

def w_X4_back (p1 : Int32) (mo : S2) (lo : SL) (K : Int32 → S2 → SL → Prop) : Prop := w_X4_in (p1.toInt64) (0 : Int64) (1 : Int64) (fun r1 => br (r1 = 0) (K (-1) mo lo) (vp_in p1 2 ∧ (br ((mo 3 p1.toNatClampNeg) = 0) (K (-2) mo lo) (w_X4_copies (0 : Int32) (57 * (p1 + 1)) mo lo (fun mo6 lo7 => K (mo6 1 (20 : Int32).toNatClampNeg) mo6 lo7)))))
abbrev rm_X4_back : Room := { frames := 1, cells := 0, slots := 0, locals := 25 }
set_option maxHeartbeats 4000000 in
set_option maxRecDepth 100000 in
theorem c_X4_back (l : Launch) (D : va_G) (kc : Nat → ClassId) (a : Nat → Nat) (p1 : Int32) (mo : S2) (lo : SL) (sz : Nat) (K : Int32 → S2 → SL → Prop) (h : w_X4_back p1 mo lo K) : MetI l yX4_back wsX4_back rm_X4_back D kc (fun u : S2 × SL => cM kc a u.1 u.2) (mo, lo) [.ref (a 0), .int p1] sz (fun r u => K r u.1 u.2) := by
  refine q_ei (code := cX4_back) (maxL := 2) (by decide) rfl (Nat.le_of_ble_eq_true rfl) ?_
  intro p e s m args below meth c Q A hx hb hml hts hown hK hA hret ls hl hP hD hS
  have hown : s.vm.findClass RX4 = some m.cls := hown
  have hl : lv_has ls 2 [(0, .ref (a 0)), (1, .int p1)] := hl
  have hP : va_P D vwCl (cM kc a mo lo) s.heap := hP
  have hD : va_D A (cM kc a mo lo) := hD
  have hS : va_S A s.heap s.heap [] := hS
  obtain ⟨H, eH⟩ : ∃ z, z = s.heap := ⟨_, rfl⟩
  obtain ⟨locs, eL⟩ : ∃ z : List Loc, z = [] := ⟨_, rfl⟩
  have hP := q_heap hP eH
  have hS := q_heapS hS eH eL
  refine q_start eH eL ?_
  clear eH eL
  have hi4 : ∀ w ∈ u_ws RX4 TX4 29, w ∈ wsX4_back := by decide +kernel
  unfold w_X4_back at h
  refine lv_iload_n hx hb dX4_back_0 rfl (lv_at hl 1 rfl) ?_
  refine lv_i2l hx hb dX4_back_1 rfl ?_
  refine lv_lconst (v := 0) hx hb dX4_back_2 (by decide) ?_
  refine lv_lconst (v := 1) hx hb dX4_back_3 (by decide) ?_
  refine q_cSi (As := [.long (p1.toInt64), .long 0, .long 1]) (rest := []) ⟨hx, hb, hml, hown, hts⟩ hK (c_X4_in l D kc (p1.toInt64) (0 : Int64) (1 : Int64) H.size _ h) (va_cwS 3 hts gX4_back_X4_in rfl rfl rfl (by decide +kernel) ⟨Nat.le_of_ble_eq_true rfl, Nat.le_of_ble_eq_true rfl⟩) (cut_nil _) hP hD hS hA rfl hl.1 rfl (Nat.le_of_ble_eq_true rfl) dX4_back_4 ⟨Nat.zero_le _, Nat.zero_le _⟩ (fun r1 _ H locs h hP hD hS => ?_)
  have hP : va_P D vwCl (cM kc a mo lo) H := hP
  have hD : va_D A (cM kc a mo lo) := hD
  refine lv_if_ne (tgt := 12) hx hb dX4_back_7 (by decide) (fun c3 => ?_) (fun c3 => ?_)
  · have h := br2 h c3
    refine lv_aload_n hx hb dX4_back_12 rfl (lv_at hl 0 rfl) ?_
    refine va_get (D := D) (ci := 4) (v := .ref (a 3)) (C := RX4) (T := TX4) (N := 29) hx hb hts hi4 hown hK.1 hP 0 rfl rfl 2 (by decide) (hts (.fieldLink RX4 16 "LastPennyModel" "isKept" "[Z") (by decide +kernel)) (fun _ h9 => h9) rfl dX4_back_13 ?_
    refine lv_iload_n hx hb dX4_back_16 rfl (lv_at hl 1 rfl) ?_
    obtain ⟨hi_4, h⟩ := h
    refine va_zald hx hb hK.1 hP 3 2 rfl rfl hi_4 dX4_back_17 ?_
    refine lv_if_ne (tgt := 24) hx hb dX4_back_18 (by decide) (fun c5 => ?_) (fun c5 => ?_)
    · have h := br2 h c5
      refine lv_aload_n hx hb dX4_back_24 rfl (lv_at hl 0 rfl) ?_
      refine lv_iconst (v := 0) hx hb dX4_back_25 (by decide) ?_
      refine lv_bipush (v := 57) hx hb dX4_back_26 (by decide) ?_
      refine lv_iload_n hx hb dX4_back_28 rfl (lv_at hl 1 rfl) ?_
      refine lv_iconst (v := 1) hx hb dX4_back_29 (by decide) ?_
      refine lv_iadd hx hb dX4_back_30 ?_
      refine lv_imul hx hb dX4_back_31 ?_
      refine q_cVv (As := [.int 0, .int (57 * (p1 + 1))]) (rest := []) ⟨hx, hb, hml, hown, hts⟩ hK (c_X4_copies l D kc a (0 : Int32) (57 * (p1 + 1)) mo lo H.size _ h) (cwV 2 hts gX4_back_X4_copies rfl rfl rfl (by decide +kernel) ⟨Nat.le_of_ble_eq_true rfl, Nat.le_of_ble_eq_true rfl⟩) (cut_same (fun u : S2 × SL => cM kc a u.1 u.2) (mo, lo)) hP hD hS hA 4 0 rfl rfl rfl hl.1 rfl (Nat.le_of_ble_eq_true rfl) dX4_back_32 ⟨Nat.zero_le _, Nat.zero_le _⟩ (fun u8 H locs h hP hD hS => ?_)
      obtain ⟨mo6, lo7⟩ := u8
      have hP : va_P D vwCl (cM kc a mo6 lo7) H := hP
      have hD : va_D A (cM kc a mo6 lo7) := hD
      refine lv_aload_n hx hb dX4_back_35 rfl (lv_at hl 0 rfl) ?_
      refine va_get (D := D) (ci := 4) (v := .ref (a 1)) (C := RX4) (T := TX4) (N := 29) hx hb hts hi4 hown hK.1 hP 0 rfl rfl 0 (by decide) (hts (.fieldLink RX4 7 "LastPennyModel" "st" "[I") (by decide +kernel)) (fun _ h9 => h9) rfl dX4_back_36 ?_
      refine lv_bipush (v := 20) hx hb dX4_back_39 (by decide) ?_
      refine va_iald hx hb hK.1 hP 1 0 rfl rfl (by unfold vp_in; decide) dX4_back_41 ?_
      exact hret (mo6 1 (20 : Int32).toNatClampNeg) (mo6, lo7) H locs ls _ h hP hD hS dX4_back_42
    · have h := br1 h c5
      refine lv_bipush (v := -2) hx hb dX4_back_21 (by decide) ?_
      exact hret (-2) (mo, lo) H locs ls _ h hP hD hS dX4_back_23
  · have h := br1 h c3
    refine lv_iconst (v := -1) hx hb dX4_back_10 (by decide) ?_
    exact hret (-1) (mo, lo) H locs ls _ h hP hD hS dX4_back_11

def w_X4_isSheet (p0 : Int32) (p1 : Int32) (K : Int32 → Prop) : Prop := w_X4_in (p0.toInt64) (0 : Int64) (3 : Int64) (fun r1 => br (r1 = 0) (K 0) (w_X4_in (p1.toInt64) (0 : Int64) (2 : Int64) (fun r4 => br (r4 = 0) (K 0) (K 1))))
abbrev rm_X4_isSheet : Room := { frames := 1, cells := 0, slots := 0, locals := 25 }
set_option maxHeartbeats 4000000 in
set_option maxRecDepth 100000 in
theorem c_X4_isSheet (l : Launch) (D : va_G) (kc : Nat → ClassId) (p0 : Int32) (p1 : Int32) (sz : Nat) (K : Int32 → Prop) (h : w_X4_isSheet p0 p1 K) : MetI l yX4_isSheet wsX4_isSheet rm_X4_isSheet D kc (fun _ : Unit => []) () [.int p0, .int p1] sz (fun r _ => K r) := by
  refine q_ez (code := cX4_isSheet) (maxL := 2) (by decide) rfl (Nat.le_of_ble_eq_true rfl) ?_
  intro p e s m args below meth c Q A hx hb hml hts hown hK hA hret ls hl hP hD hS
  have hown : s.vm.findClass RX4 = some m.cls := hown
  have hl : lv_has ls 2 [(0, .int p0), (1, .int p1)] := hl
  have hP : va_P D vwCl [] s.heap := hP
  have hS : va_S A s.heap s.heap [] := hS
  obtain ⟨H, eH⟩ : ∃ z, z = s.heap := ⟨_, rfl⟩
  obtain ⟨locs, eL⟩ : ∃ z : List Loc, z = [] := ⟨_, rfl⟩
  have hP := q_heap hP eH
  have hS := q_heapS hS eH eL
  refine q_start eH eL ?_
  clear eH eL
  unfold w_X4_isSheet at h
  refine lv_iload_n hx hb dX4_isSheet_0 rfl (lv_at hl 0 rfl) ?_
  refine lv_i2l hx hb dX4_isSheet_1 rfl ?_
  refine lv_lconst (v := 0) hx hb dX4_isSheet_2 (by decide) ?_
  refine lv_ldc2 (v := 3) hx hb hown (hts (.constantLong RX4 201 (3)) (by decide +kernel)) dX4_isSheet_3 ?_
  refine q_cSi (As := [.long (p0.toInt64), .long 0, .long 3]) (rest := []) ⟨hx, hb, hml, hown, hts⟩ hK (c_X4_in l D kc (p0.toInt64) (0 : Int64) (3 : Int64) H.size _ h) (va_cwS 3 hts gX4_isSheet_X4_in rfl rfl rfl (by decide +kernel) ⟨Nat.le_of_ble_eq_true rfl, Nat.le_of_ble_eq_true rfl⟩) (cut_nil _) hP hD hS hA rfl hl.1 rfl (Nat.le_of_ble_eq_true rfl) dX4_isSheet_6 ⟨Nat.zero_le _, Nat.zero_le _⟩ (fun r1 _ H locs h hP hD hS => ?_)
  have hP : va_P D vwCl ([]) H := hP
  have hD : va_D A ([]) := hD
  refine lv_if_eq (tgt := 28) hx hb dX4_isSheet_9 (by decide) (fun c3 => ?_) (fun c3 => ?_)
  · have h := br1 h c3
    refine lv_iconst (v := 0) hx hb dX4_isSheet_28 (by decide) ?_
    exact hret 0 () H locs ls _ rfl h hP hD hS dX4_isSheet_29
  · have h := br2 h c3
    refine lv_iload_n hx hb dX4_isSheet_12 rfl (lv_at hl 1 rfl) ?_
    refine lv_i2l hx hb dX4_isSheet_13 rfl ?_
    refine lv_lconst (v := 0) hx hb dX4_isSheet_14 (by decide) ?_
    refine lv_ldc2 (v := 2) hx hb hown (hts (.constantLong RX4 276 (2)) (by decide +kernel)) dX4_isSheet_15 ?_
    refine q_cSi (As := [.long (p1.toInt64), .long 0, .long 2]) (rest := []) ⟨hx, hb, hml, hown, hts⟩ hK (c_X4_in l D kc (p1.toInt64) (0 : Int64) (2 : Int64) H.size _ h) (va_cwS 3 hts gX4_isSheet_X4_in rfl rfl rfl (by decide +kernel) ⟨Nat.le_of_ble_eq_true rfl, Nat.le_of_ble_eq_true rfl⟩) (cut_nil _) hP hD hS hA rfl hl.1 rfl (Nat.le_of_ble_eq_true rfl) dX4_isSheet_18 ⟨Nat.zero_le _, Nat.zero_le _⟩ (fun r4 _ H locs h hP hD hS => ?_)
    have hP : va_P D vwCl ([]) H := hP
    have hD : va_D A ([]) := hD
    refine lv_if_eq (tgt := 28) hx hb dX4_isSheet_21 (by decide) (fun c6 => ?_) (fun c6 => ?_)
    · have h := br1 h c6
      refine lv_iconst (v := 0) hx hb dX4_isSheet_28 (by decide) ?_
      exact hret 0 () H locs ls _ rfl h hP hD hS dX4_isSheet_29
    · have h := br2 h c6
      refine lv_iconst (v := 1) hx hb dX4_isSheet_24 (by decide) ?_
      refine lv_goto (tgt := 29) hx hb dX4_isSheet_25 (by decide) ?_
      exact hret 1 () H locs ls _ rfl h hP hD hS dX4_isSheet_29

def w_X4_sheet (p1 : Int32) (p2 : Int32) (p3 : Int32) (mo : S2) (lo : SL) (K : Int32 → S2 → SL → Prop) : Prop := w_X4_isSheet p1 p2 (fun r1 => br (r1 = 0) (K (-1) mo lo) (br (p3 ≤ 40) (br (0 ≤ p3) (vp_in p1 4 ∧ (nm ((va_up mo 9 (upd (mo 9) p1.toNatClampNeg p2)) : S2) (fun mo7 => vp_in p1 4 ∧ (nm ((va_up mo7 10 (upd (mo7 10) p1.toNatClampNeg p3)) : S2) (fun mo9 => lfp3 (fun G40 (i10 : Int32) (mo11 : S2) (lo12 : SL) => br (40 ≤ i10) (K 1 mo11 lo12) (vp_in ((40 * p1) + i10) 160 ∧ (nm ((va_up mo11 11 (upd (mo11 11) ((40 * p1) + i10).toNatClampNeg 0)) : S2) (fun mo15 => nm (i10 + 1 : Int32) (fun x16 => G40 x16 mo15 lo12))))) 0 mo9 lo))))) (K (-14) mo lo)) (K (-1) mo lo)))
abbrev rm_X4_sheet : Room := { frames := 2, cells := 0, slots := 0, locals := 46 }
set_option maxHeartbeats 4000000 in
set_option maxRecDepth 100000 in
theorem c_X4_sheet (l : Launch) (D : va_G) (kc : Nat → ClassId) (a : Nat → Nat) (p1 : Int32) (p2 : Int32) (p3 : Int32) (mo : S2) (lo : SL) (sz : Nat) (K : Int32 → S2 → SL → Prop) (h : w_X4_sheet p1 p2 p3 mo lo K) : MetI l yX4_sheet wsX4_sheet rm_X4_sheet D kc (fun u : S2 × SL => cM kc a u.1 u.2) (mo, lo) [.ref (a 0), .int p1, .int p2, .int p3] sz (fun r u => K r u.1 u.2) := by
  refine q_ei (code := cX4_sheet) (maxL := 5) (by decide) rfl (Nat.le_of_ble_eq_true rfl) ?_
  intro p e s m args below meth c Q A hx hb hml hts hown hK hA hret ls hl hP hD hS
  have hown : s.vm.findClass RX4 = some m.cls := hown
  have hl : lv_has ls 5 [(0, .ref (a 0)), (1, .int p1), (2, .int p2), (3, .int p3)] := hl
  have hP : va_P D vwCl (cM kc a mo lo) s.heap := hP
  have hD : va_D A (cM kc a mo lo) := hD
  have hS : va_S A s.heap s.heap [] := hS
  obtain ⟨H, eH⟩ : ∃ z, z = s.heap := ⟨_, rfl⟩
  obtain ⟨locs, eL⟩ : ∃ z : List Loc, z = [] := ⟨_, rfl⟩
  have hP := q_heap hP eH
  have hS := q_heapS hS eH eL
  refine q_start eH eL ?_
  clear eH eL
  have hi4 : ∀ w ∈ u_ws RX4 TX4 29, w ∈ wsX4_sheet := by decide +kernel
  unfold w_X4_sheet at h
  refine lv_iload_n hx hb dX4_sheet_0 rfl (lv_at hl 1 rfl) ?_
  refine lv_iload_n hx hb dX4_sheet_1 rfl (lv_at hl 2 rfl) ?_
  refine q_cSi (As := [.int p1, .int p2]) (rest := []) ⟨hx, hb, hml, hown, hts⟩ hK (c_X4_isSheet l D kc p1 p2 H.size _ h) (va_cwS 2 hts gX4_sheet_X4_isSheet rfl rfl rfl (by decide +kernel) ⟨Nat.le_of_ble_eq_true rfl, Nat.le_of_ble_eq_true rfl⟩) (cut_nil _) hP hD hS hA rfl hl.1 rfl (Nat.le_of_ble_eq_true rfl) dX4_sheet_2 ⟨Nat.zero_le _, Nat.zero_le _⟩ (fun r1 _ H locs h hP hD hS => ?_)
  have hP : va_P D vwCl (cM kc a mo lo) H := hP
  have hD : va_D A (cM kc a mo lo) := hD
  refine lv_if_eq (tgt := 14) hx hb dX4_sheet_5 (by decide) (fun c3 => ?_) (fun c3 => ?_)
  · have h := br1 h c3
    refine lv_iconst (v := -1) hx hb dX4_sheet_14 (by decide) ?_
    exact hret (-1) (mo, lo) H locs ls _ h hP hD hS dX4_sheet_15
  · have h := br2 h c3
    refine lv_iload_n hx hb dX4_sheet_8 rfl (lv_at hl 3 rfl) ?_
    refine lv_bipush (v := 40) hx hb dX4_sheet_9 (by decide) ?_
    refine lv_icmp_le (tgt := 16) hx hb dX4_sheet_11 (by decide) (fun c4 => ?_) (fun c4 => ?_)
    · have h := br1 h c4
      refine lv_iload_n hx hb dX4_sheet_16 rfl (lv_at hl 3 rfl) ?_
      refine lv_if_ge (tgt := 23) hx hb dX4_sheet_17 (by decide) (fun c5 => ?_) (fun c5 => ?_)
      · have h := br1 h c5
        refine lv_aload_n hx hb dX4_sheet_23 rfl (lv_at hl 0 rfl) ?_
        refine va_get (D := D) (ci := 4) (v := .ref (a 9)) (C := RX4) (T := TX4) (N := 29) hx hb hts hi4 hown hK.1 hP 0 rfl rfl 24 (by decide) (hts (.fieldLink RX4 35 "LastPennyModel" "lanes" "[I") (by decide +kernel)) (fun _ h9 => h9) rfl dX4_sheet_24 ?_
        refine lv_iload_n hx hb dX4_sheet_27 rfl (lv_at hl 1 rfl) ?_
        refine lv_iload_n hx hb dX4_sheet_28 rfl (lv_at hl 2 rfl) ?_
        obtain ⟨hi_6, h⟩ := h
        refine va_iast hx hb hK.1 hP hD hS 9 0 rfl rfl hi_6 dX4_sheet_29 (fun H locs hP hD hS => ?_)
        obtain ⟨mo7, emo7⟩ : ∃ z, z = (va_up mo 9 (upd (mo 9) p1.toNatClampNeg p2)) := ⟨_, rfl⟩
        have h := nm_out h mo7 emo7
        have hP : va_P D vwCl (cM kc a mo7 lo) H := q_to hP (by subst emo7; rfl)
        have hD : va_D A (cM kc a mo7 lo) := q_toD hD (by subst emo7; rfl)
        refine lv_aload_n hx hb dX4_sheet_30 rfl (lv_at hl 0 rfl) ?_
        refine va_get (D := D) (ci := 4) (v := .ref (a 10)) (C := RX4) (T := TX4) (N := 29) hx hb hts hi4 hown hK.1 hP 0 rfl rfl 25 (by decide) (hts (.fieldLink RX4 38 "LastPennyModel" "sizes" "[I") (by decide +kernel)) (fun _ h9 => h9) rfl dX4_sheet_31 ?_
        refine lv_iload_n hx hb dX4_sheet_34 rfl (lv_at hl 1 rfl) ?_
        refine lv_iload_n hx hb dX4_sheet_35 rfl (lv_at hl 3 rfl) ?_
        obtain ⟨hi_8, h⟩ := h
        refine va_iast hx hb hK.1 hP hD hS 10 0 rfl rfl hi_8 dX4_sheet_36 (fun H locs hP hD hS => ?_)
        obtain ⟨mo9, emo9⟩ : ∃ z, z = (va_up mo7 10 (upd (mo7 10) p1.toNatClampNeg p3)) := ⟨_, rfl⟩
        have h := nm_out h mo9 emo9
        have hP : va_P D vwCl (cM kc a mo9 lo) H := q_to hP (by subst emo9; rfl)
        have hD : va_D A (cM kc a mo9 lo) := q_toD hD (by subst emo9; rfl)
        refine lv_iconst (v := 0) hx hb dX4_sheet_37 (by decide) ?_
        refine lv_istore (lv' := [(4, .int 0), (0, .ref (a 0)), (1, .int p1), (2, .int p2), (3, .int p3)]) hx hb dX4_sheet_38 hl (by decide) rfl (fun ls hl => ?_)
        refine h (fun (i10 : Int32) (mo11 : S2) (lo12 : SL) => ∀ (ls : Array Slot) (H : Heap) (locs : List Loc), lv_has ls 5 [(0, .ref (a 0)), (1, .int p1), (4, .int i10)] → va_P D vwCl (cM kc a mo11 lo12) H → va_D A (cM kc a mo11 lo12) → va_S A s.heap H locs → W p l e rm_X4_sheet s m args below meth c H locs 0 0 Q (F0 m 40 ls [])) ?_ ls H locs (lv_sub hl [1, 2, 0] rfl) hP hD hS
        intro i10 mo11 lo12 h ls H locs hl hP hD hS
        refine lv_iload hx hb dX4_sheet_40 (lv_at hl 2 rfl) ?_
        refine lv_bipush (v := 40) hx hb dX4_sheet_42 (by decide) ?_
        refine lv_icmp_ge (tgt := 66) hx hb dX4_sheet_44 (by decide) (fun c13 => ?_) (fun c13 => ?_)
        · have h := br1 h c13
          refine lv_iconst (v := 1) hx hb dX4_sheet_66 (by decide) ?_
          exact hret 1 (mo11, lo12) H locs ls _ h hP hD hS dX4_sheet_67
        · have h := br2 h c13
          refine lv_aload_n hx hb dX4_sheet_47 rfl (lv_at hl 0 rfl) ?_
          refine va_get (D := D) (ci := 4) (v := .ref (a 11)) (C := RX4) (T := TX4) (N := 29) hx hb hts hi4 hown hK.1 hP 0 rfl rfl 26 (by decide) (hts (.fieldLink RX4 41 "LastPennyModel" "cells" "[I") (by decide +kernel)) (fun _ h9 => h9) rfl dX4_sheet_48 ?_
          refine lv_bipush (v := 40) hx hb dX4_sheet_51 (by decide) ?_
          refine lv_iload_n hx hb dX4_sheet_53 rfl (lv_at hl 1 rfl) ?_
          refine lv_imul hx hb dX4_sheet_54 ?_
          refine lv_iload hx hb dX4_sheet_55 (lv_at hl 2 rfl) ?_
          refine lv_iadd hx hb dX4_sheet_57 ?_
          refine lv_iconst (v := 0) hx hb dX4_sheet_58 (by decide) ?_
          obtain ⟨hi_14, h⟩ := h
          refine va_iast hx hb hK.1 hP hD hS 11 0 rfl rfl hi_14 dX4_sheet_59 (fun H locs hP hD hS => ?_)
          obtain ⟨mo15, emo15⟩ : ∃ z, z = (va_up mo11 11 (upd (mo11 11) ((40 * p1) + i10).toNatClampNeg 0)) := ⟨_, rfl⟩
          have h := nm_out h mo15 emo15
          have hP : va_P D vwCl (cM kc a mo15 lo12) H := q_to hP (by subst emo15; rfl)
          have hD : va_D A (cM kc a mo15 lo12) := q_toD hD (by subst emo15; rfl)
          obtain ⟨x16, ex16⟩ : ∃ z : Int32, z = i10 + 1 := ⟨_, rfl⟩
          have h := nm_out h x16 ex16
          refine lv_iinc (v := x16) (lv' := [(4, .int x16), (0, .ref (a 0)), (1, .int p1)]) hx hb dX4_sheet_60 hl (k := 2) rfl (by rw [ex16]; rfl) (by decide) rfl (fun ls hl => ?_)
          refine lv_goto (tgt := 40) hx hb dX4_sheet_63 (by decide) ?_
          exact h ls H locs (lv_sub hl [1, 2, 0] rfl) hP hD hS
      · have h := br2 h c5
        refine lv_bipush (v := -14) hx hb dX4_sheet_20 (by decide) ?_
        exact hret (-14) (mo, lo) H locs ls _ h hP hD hS dX4_sheet_22
    · have h := br2 h c4
      refine lv_iconst (v := -1) hx hb dX4_sheet_14 (by decide) ?_
      exact hret (-1) (mo, lo) H locs ls _ h hP hD hS dX4_sheet_15

