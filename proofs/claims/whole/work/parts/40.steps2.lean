theorem ye_Ru_nearest : ye y_Ru_nearest R_Ru 0 := by unfold ye; decide +kernel
abbrev rm_Ru_nearest : Room := { frames := 5, cells := 0, slots := 0, locals := 118 }
set_option maxHeartbeats 4000000 in
set_option maxRecDepth 100000 in
theorem c_Ru_nearest (l : Launch) (D : va_G) (t : vt) (ts : Nat → Nat) (r pa pb : Nat) (up : Bool) (sd sc wh go : Int) (h1 g1 h2 g2 : Int) (hsc : -1125899906842624 < sc ∧ sc < 1125899906842624) (hwh : -1125899906842624 < wh ∧ wh < 1125899906842624) (hgo : -1125899906842624 < go ∧ go < 1125899906842624) (hsd : -1 ≤ sd ∧ sd ≤ 1) (sz : Nat) : Met l y_Ru_nearest (.code y_Ru_nearest b_Ru_nearest 8 (some .long) :: tb_ws) rm_Ru_nearest (MP D t ts [.ref r] [(r, .inr (1, [.int (iI (zB up)), .int (iI sd), .long (lI sc), .long (lI wh), .long (lI go), .ref pa, .ref pb])), (pa, .inr (3, [.long (lI h1), .long (lI g1)])), (pb, .inr (3, [.long (lI h2), .long (lI g2)]))] sz) (va_Ql (fun zr u => zr = lI ((fun u : Int × Nat × Nat × Int × Int × Int × Int => u.1) u) ∧ ((fun u : Int × Nat × Nat × Int × Int × Int × Int => u.1 = nesZ up sd sc wh go ∧ ((u.2.1 = pa ∧ u.2.2.1 = pb) ∨ (u.2.1 = pb ∧ u.2.2.1 = pa)))) u) (MB D (va_A [(r, .inr (1, [.int (iI (zB up)), .int (iI sd), .long (lI sc), .long (lI wh), .long (lI go), .ref pa, .ref pb])), (pa, .inr (3, [.long (lI h1), .long (lI g1)])), (pb, .inr (3, [.long (lI h2), .long (lI g2)]))] sz) (fun u : Int × Nat × Nat × Int × Int × Int × Int => [(r, .inr (1, [.int (iI (zB up)), .int (iI sd), .long (lI sc), .long (lI wh), .long (lI go), .ref u.2.1, .ref u.2.2.1])), (u.2.1, .inr (3, [.long (lI u.2.2.2.1), .long (lI u.2.2.2.2.1)])), (u.2.2.1, .inr (3, [.long (lI u.2.2.2.2.2.1), .long (lI u.2.2.2.2.2.2)]))])) (va_A [(r, .inr (1, [.int (iI (zB up)), .int (iI sd), .long (lI sc), .long (lI wh), .long (lI go), .ref pa, .ref pb])), (pa, .inr (3, [.long (lI h1), .long (lI g1)])), (pb, .inr (3, [.long (lI h2), .long (lI g2)]))] sz)) 0 0 (va_A [(r, .inr (1, [.int (iI (zB up)), .int (iI sd), .long (lI sc), .long (lI wh), .long (lI go), .ref pa, .ref pb])), (pa, .inr (3, [.long (lI h1), .long (lI g1)])), (pb, .inr (3, [.long (lI h2), .long (lI g2)]))] sz) := by
  refine m_l (by decide +kernel) (Nat.le_of_ble_eq_true rfl) ?_
  intro zp ze zs zm zb zt zc zQ A ls hC hA hP hK hD hE hS hl ret
  have hl : lv_has ls 8 [(0, .ref r)] := hl
  have retv : ∀ (u : Int × Nat × Nat × Int × Int × Int × Int) (H : Heap) (locs : List Loc) (pc : Nat) (ls : Array Slot) (zv : Int), decode b_Ru_nearest pc = .ok (.lreturn, 1) → (zv = u.1 ∧ (u.1 = nesZ up sd sc wh go ∧ ((u.2.1 = pa ∧ u.2.2.1 = pb) ∨ (u.2.1 = pb ∧ u.2.2.1 = pa)))) → va_P D classes ([(r, .inr (1, [.int (iI (zB up)), .int (iI sd), .long (lI sc), .long (lI wh), .long (lI go), .ref u.2.1, .ref u.2.2.1])), (u.2.1, .inr (3, [.long (lI u.2.2.2.1), .long (lI u.2.2.2.2.1)])), (u.2.2.1, .inr (3, [.long (lI u.2.2.2.2.2.1), .long (lI u.2.2.2.2.2.2)]))]) H → va_D A ([(r, .inr (1, [.int (iI (zB up)), .int (iI sd), .long (lI sc), .long (lI wh), .long (lI go), .ref u.2.1, .ref u.2.2.1])), (u.2.1, .inr (3, [.long (lI u.2.2.2.1), .long (lI u.2.2.2.2.1)])), (u.2.2.1, .inr (3, [.long (lI u.2.2.2.2.2.1), .long (lI u.2.2.2.2.2.2)]))]) → va_S A zs.heap H locs → W zp l ze rm_Ru_nearest zs zm [.ref r].toArray zb zt zc H locs 0 0 zQ (F0 zm pc ls [.long (lI zv)]) := fun u H locs pc ls v d h hP hD hS => by rw [h.1]; exact ret u H locs pc ls d h.2 hP hD hS
  refine z_ldc2 hC k_407 d_Ru_nearest_0 ?_
  refine lv_lstore_n (lv' := [(1, .long (lI (-40000000000000))), (0, .ref r)]) hC.1 hC.2.1 d_Ru_nearest_3 rfl hl (by decide) rfl (fun ls hl => ?_)
  refine z_ldc2 hC k_408 d_Ru_nearest_4 ?_
  refine lv_lstore_n (lv' := [(3, .long (lI 40000000000000)), (1, .long (lI (-40000000000000))), (0, .ref r)]) hC.1 hC.2.1 d_Ru_nearest_7 rfl hl (by decide) rfl (fun ls hl => ?_)
  refine z_iconst hC d_Ru_nearest_8 ?_
  refine lv_istore (lv' := [(5, .int (iI 0)), (3, .long (lI 40000000000000)), (1, .long (lI (-40000000000000))), (0, .ref r)]) hC.1 hC.2.1 d_Ru_nearest_9 hl (by decide) rfl (fun ls hl => ?_)
  have L11 : ∀ (fu : Nat) (xa : Nat) (xb : Nat) (k1 : Int) (k2 : Int) (k3 : Int) (k4 : Int) (a : Int) (b : Int) (k : Int) (H : Heap) (locs : List Loc) (ls : Array Slot), 64 - k + 1 ≤ (fu : Int) → (0 ≤ k ∧ k ≤ 64) → ((-40000000000000 ≤ a ∧ a ≤ 40000000000000) ∧ (-40000000000000 ≤ b ∧ b ≤ 40000000000000)) → (nesZ up sd sc wh go = nrN (fun m => twZ up sd sc wh go (2 * m - 1)) (64 - k).toNat a b) → (((xa = pa ∧ xb = pb) ∨ (xa = pb ∧ xb = pa))) → va_P D classes [(r, .inr (1, [.int (iI (zB up)), .int (iI sd), .long (lI sc), .long (lI wh), .long (lI go), .ref xa, .ref xb])), (xa, .inr (3, [.long (lI k1), .long (lI k2)])), (xb, .inr (3, [.long (lI k3), .long (lI k4)]))] H → va_D A [(r, .inr (1, [.int (iI (zB up)), .int (iI sd), .long (lI sc), .long (lI wh), .long (lI go), .ref xa, .ref xb])), (xa, .inr (3, [.long (lI k1), .long (lI k2)])), (xb, .inr (3, [.long (lI k3), .long (lI k4)]))] → va_S A zs.heap H locs → lv_has ls 8 [(5, .int (iI k)), (3, .long (lI b)), (1, .long (lI a)), (0, .ref r)] → W zp l ze rm_Ru_nearest zs zm [.ref r].toArray zb zt zc H locs 0 0 zQ (F0 zm 11 ls []) := by
    intro fu
    induction fu with
    | zero =>
      intro xa xb k1 k2 k3 k4 a b k H locs ls hm11 hk hab en ex hP hD hS hl
      exact absurd hm11 (by omega)
    | succ fu ih11 =>
      intro xa xb k1 k2 k3 k4 a b k H locs ls hm11 hk hab en ex hP hD hS hl
      refine lv_iload hC.1 hC.2.1 d_Ru_nearest_11 (lv_at hl 0 rfl) ?_
      refine z_bipush hC d_Ru_nearest_13 (by decide) ?_
      refine z_icmp_ge (tgt := 63) hC d_Ru_nearest_15 (by decide) (by omega) (by decide) (fun h15 => ?_) (fun h15 => ?_)
      · refine lv_lload_n hC.1 hC.2.1 d_Ru_nearest_63 rfl (lv_at hl 2 rfl) ?_
        have hP9 := hP.sub (ws' := [(r, .inr (1, [.int (iI (zB up)), .int (iI sd), .long (lI sc), .long (lI wh), .long (lI go), .ref xa, .ref xb])), (xa, .inr (3, [.long (lI k1), .long (lI k2)])), (xb, .inr (3, [.long (lI k3), .long (lI k4)]))]) [0, 1, 2] rfl
        have hD9 := hD.sub (ws' := [(r, .inr (1, [.int (iI (zB up)), .int (iI sd), .long (lI sc), .long (lI wh), .long (lI go), .ref xa, .ref xb])), (xa, .inr (3, [.long (lI k1), .long (lI k2)])), (xb, .inr (3, [.long (lI k3), .long (lI k4)]))]) [0, 1, 2] (by decide) rfl
        exact retv (a, xa, xb, k1, k2, k3, k4) _ _ 64 _ _ d_Ru_nearest_64 ⟨rfl, (by show a = _; rw [en]; exact (nrN_end _ (by omega)).symm), ex⟩ hP9 hD9 hS
      · refine lv_lload_n hC.1 hC.2.1 d_Ru_nearest_18 rfl (lv_at hl 1 rfl) ?_
        refine lv_lload_n hC.1 hC.2.1 d_Ru_nearest_19 rfl (lv_at hl 2 rfl) ?_
        refine z_lsub hC d_Ru_nearest_20 ?_
        refine z_topl (z := -a + b) (by omega) ?_
        refine z_lconst (v := 1) hC d_Ru_nearest_21 (by decide) ?_
        refine z_lcmp_le (tgt := 63) hC d_Ru_nearest_22 d_Ru_nearest_23 (by decide) (by omega) (by decide) (fun h22 => ?_) (fun h22 => ?_)
        · refine lv_lload_n hC.1 hC.2.1 d_Ru_nearest_63 rfl (lv_at hl 2 rfl) ?_
          have hP9 := hP.sub (ws' := [(r, .inr (1, [.int (iI (zB up)), .int (iI sd), .long (lI sc), .long (lI wh), .long (lI go), .ref xa, .ref xb])), (xa, .inr (3, [.long (lI k1), .long (lI k2)])), (xb, .inr (3, [.long (lI k3), .long (lI k4)]))]) [0, 1, 2] rfl
          have hD9 := hD.sub (ws' := [(r, .inr (1, [.int (iI (zB up)), .int (iI sd), .long (lI sc), .long (lI wh), .long (lI go), .ref xa, .ref xb])), (xa, .inr (3, [.long (lI k1), .long (lI k2)])), (xb, .inr (3, [.long (lI k3), .long (lI k4)]))]) [0, 1, 2] (by decide) rfl
          exact retv (a, xa, xb, k1, k2, k3, k4) _ _ 64 _ _ d_Ru_nearest_64 ⟨rfl, (by show a = _; rw [en]; exact (nrN_end _ (by omega)).symm), ex⟩ hP9 hD9 hS
        · refine lv_lload_n hC.1 hC.2.1 d_Ru_nearest_26 rfl (lv_at hl 2 rfl) ?_
          refine lv_lload_n hC.1 hC.2.1 d_Ru_nearest_27 rfl (lv_at hl 1 rfl) ?_
          refine z_ladd hC d_Ru_nearest_28 ?_
          refine z_iconst hC d_Ru_nearest_29 ?_
          refine z_lshr (z := ((a + b) / 2)) hC (l_shr1 (by omega)) d_Ru_nearest_30 ?_
          refine lv_lstore (lv' := [(6, .long (lI (((a + b) / 2)))), (5, .int (iI k)), (3, .long (lI b)), (1, .long (lI a)), (0, .ref r)]) hC.1 hC.2.1 d_Ru_nearest_31 hl (by decide) rfl (fun ls hl => ?_)
          refine lv_aload_n hC.1 hC.2.1 d_Ru_nearest_33 rfl (lv_at hl 4 rfl) ?_
          refine z_ldc2 hC k_401 d_Ru_nearest_34 ?_
          refine lv_lload hC.1 hC.2.1 d_Ru_nearest_37 (lv_at hl 0 rfl) ?_
          refine z_lmul hC d_Ru_nearest_39 ?_
          refine z_topl (z := 2 * ((a + b) / 2)) (by omega) ?_
          refine z_lconst (v := 1) hC d_Ru_nearest_40 (by decide) ?_
          refine z_lsub hC d_Ru_nearest_41 ?_
          refine z_topl (z := 2 * ((a + b) / 2) - 1) (by omega) ?_
          refine z_mVi (As := [.long (lI (2 * ((a + b) / 2) - 1))]) (rest := []) (wr := []) hC (c_Ru_twiceReaches l D t ts r xa xb up sd sc wh go k1 k2 k3 k4 (by omega) (by omega) (by omega) (2 * ((a + b) / 2) - 1) (by omega) (by omega) _) (cw_V hC k_409 k_411 kp_19 k_3 k_412 ye_Ru_twiceReaches (by decide)) hP hD hK hE hS hA [0, 1, 2] [] (by decide) rfl rfl (by decide) (by decide) 0 (ci := 1) rfl rfl rfl rfl hl.1 rfl (Nat.le_of_ble_eq_true rfl) ⟨Nat.le_of_ble_eq_true rfl, Nat.le_of_ble_eq_true rfl⟩ d_Ru_nearest_42 (fun u1 H locs eu1 hP hD hS => ?_)
          obtain ⟨u1r, u1a, u1b, u11, u12, u13, u14⟩ := u1
          obtain ⟨eu1r, eu1x⟩ := eu1
          dsimp only at eu1r eu1x hP hD ⊢
          have hP : va_P D classes [(r, .inr (1, [.int (iI (zB up)), .int (iI sd), .long (lI sc), .long (lI wh), .long (lI go), .ref u1a, .ref u1b])), (u1a, .inr (3, [.long (lI u11), .long (lI u12)])), (u1b, .inr (3, [.long (lI u13), .long (lI u14)]))] H := hP
          have hD : va_D A [(r, .inr (1, [.int (iI (zB up)), .int (iI sd), .long (lI sc), .long (lI wh), .long (lI go), .ref u1a, .ref u1b])), (u1a, .inr (3, [.long (lI u11), .long (lI u12)])), (u1b, .inr (3, [.long (lI u13), .long (lI u14)]))] := hD
          refine z_if_eqB (tgt := 54) hC d_Ru_nearest_45 (by decide) (fun h45 => ?_) (fun h45 => ?_)
          · refine lv_lload hC.1 hC.2.1 d_Ru_nearest_54 (lv_at hl 0 rfl) ?_
            refine lv_lstore_n (lv' := [(3, .long (lI (((a + b) / 2)))), (6, .long (lI (((a + b) / 2)))), (5, .int (iI k)), (1, .long (lI a)), (0, .ref r)]) hC.1 hC.2.1 d_Ru_nearest_56 rfl hl (by decide) rfl (fun ls hl => ?_)
            refine lv_iinc (v := iI (k + 1)) (lv' := [(5, .int (iI (k + 1))), (3, .long (lI (((a + b) / 2)))), (6, .long (lI (((a + b) / 2)))), (1, .long (lI a)), (0, .ref r)]) hC.1 hC.2.1 d_Ru_nearest_57 hl (k := 2) rfl (z_inc (by omega)) (by decide) rfl (fun ls hl => ?_)
            refine z_goto (tgt := 11) hC d_Ru_nearest_60 (by decide) ?_
            exact ih11 u1a u1b u11 u12 u13 u14 a (((a + b) / 2)) (k + 1) _ _ _ (by omega) (by omega) (by omega) (by rw [en, nrN_s _ (by omega), if_neg (by omega)]; rw [eu1r] at h45; rw [if_neg (by rw [h45]; decide), show 64 - k - 1 = 64 - (k + 1) by omega]) (by omega) (hP.sub (ws' := [(r, .inr (1, [.int (iI (zB up)), .int (iI sd), .long (lI sc), .long (lI wh), .long (lI go), .ref u1a, .ref u1b])), (u1a, .inr (3, [.long (lI u11), .long (lI u12)])), (u1b, .inr (3, [.long (lI u13), .long (lI u14)]))]) [0, 1, 2] rfl) (hD.sub (ws' := [(r, .inr (1, [.int (iI (zB up)), .int (iI sd), .long (lI sc), .long (lI wh), .long (lI go), .ref u1a, .ref u1b])), (u1a, .inr (3, [.long (lI u11), .long (lI u12)])), (u1b, .inr (3, [.long (lI u13), .long (lI u14)]))]) [0, 1, 2] (by decide) rfl) hS (lv_sub hl [0, 1, 3, 4] rfl)
          · refine lv_lload hC.1 hC.2.1 d_Ru_nearest_48 (lv_at hl 0 rfl) ?_
            refine lv_lstore_n (lv' := [(1, .long (lI (((a + b) / 2)))), (6, .long (lI (((a + b) / 2)))), (5, .int (iI k)), (3, .long (lI b)), (0, .ref r)]) hC.1 hC.2.1 d_Ru_nearest_50 rfl hl (by decide) rfl (fun ls hl => ?_)
            refine z_goto (tgt := 57) hC d_Ru_nearest_51 (by decide) ?_
            refine lv_iinc (v := iI (k + 1)) (lv' := [(5, .int (iI (k + 1))), (1, .long (lI (((a + b) / 2)))), (6, .long (lI (((a + b) / 2)))), (3, .long (lI b)), (0, .ref r)]) hC.1 hC.2.1 d_Ru_nearest_57 hl (k := 2) rfl (z_inc (by omega)) (by decide) rfl (fun ls hl => ?_)
            refine z_goto (tgt := 11) hC d_Ru_nearest_60 (by decide) ?_
            exact ih11 u1a u1b u11 u12 u13 u14 (((a + b) / 2)) b (k + 1) _ _ _ (by omega) (by omega) (by omega) (by rw [en, nrN_s _ (by omega), if_neg (by omega)]; rw [eu1r] at h45; rw [if_pos (by exact h45), show 64 - k - 1 = 64 - (k + 1) by omega]) (by omega) (hP.sub (ws' := [(r, .inr (1, [.int (iI (zB up)), .int (iI sd), .long (lI sc), .long (lI wh), .long (lI go), .ref u1a, .ref u1b])), (u1a, .inr (3, [.long (lI u11), .long (lI u12)])), (u1b, .inr (3, [.long (lI u13), .long (lI u14)]))]) [0, 1, 2] rfl) (hD.sub (ws' := [(r, .inr (1, [.int (iI (zB up)), .int (iI sd), .long (lI sc), .long (lI wh), .long (lI go), .ref u1a, .ref u1b])), (u1a, .inr (3, [.long (lI u11), .long (lI u12)])), (u1b, .inr (3, [.long (lI u13), .long (lI u14)]))]) [0, 1, 2] (by decide) rfl) hS (lv_sub hl [0, 3, 1, 4] rfl)
  exact L11 (64 - 0 + 1 : Int).toNat pa pb h1 g1 h2 g2 (-40000000000000) 40000000000000 0 _ _ _ (by omega) (by omega) (by omega) (by rfl) (by simp) (hP.sub (ws' := [(r, .inr (1, [.int (iI (zB up)), .int (iI sd), .long (lI sc), .long (lI wh), .long (lI go), .ref pa, .ref pb])), (pa, .inr (3, [.long (lI h1), .long (lI g1)])), (pb, .inr (3, [.long (lI h2), .long (lI g2)]))]) [0, 1, 2] rfl) (hD.sub (ws' := [(r, .inr (1, [.int (iI (zB up)), .int (iI sd), .long (lI sc), .long (lI wh), .long (lI go), .ref pa, .ref pb])), (pa, .inr (3, [.long (lI h1), .long (lI g1)])), (pb, .inr (3, [.long (lI h2), .long (lI g2)]))]) [0, 1, 2] (by decide) rfl) hS (lv_sub hl [0, 1, 2, 3] rfl)
theorem ye_Ru_layRight : ye y_Ru_layRight R_Ru 3 := by unfold ye; decide +kernel
abbrev rm_Ru_layRight : Room := { frames := 0, cells := 0, slots := 0, locals := 0 }
set_option maxHeartbeats 4000000 in
set_option maxRecDepth 100000 in
theorem c_Ru_layRight (l : Launch) (D : va_G) (t : vt) (ts : Nat → Nat) (r pa pb : Nat) (up : Bool) (sd sc wh go : Int) (qn : Nat) (F : Int → Int) (p len : Int) (hp : 0 ≤ p ∧ p + 3 < 4800) (hl0 : 1 ≤ len ∧ len ≤ 10000000) (w1 w2 : Int) (hF : bF F) (hM : ∀ i, 0 ≤ i → i ≤ 3 → -1000000 ≤ F (p + i) ∧ F (p + i) ≤ 1000000) (e1 : w1 = 2 * F p - F (p + 1)) (e2 : w2 = F (p + 1) - F (p + 2) - F (p + 3)) (sz : Nat) : Met l y_Ru_layRight (.code y_Ru_layRight b_Ru_layRight 5 none :: tb_ws) rm_Ru_layRight (MP D t ts [.ref r, .ref qn, .int (iI p), .long (lI len)] [(r, .inr (1, [.int (iI (zB up)), .int (iI sd), .long (lI sc), .long (lI wh), .long (lI go), .ref pa, .ref pb])), (qn, eI t.1 4800 F)] sz) (va_Qv (fun _ : Unit => True) (MB D (va_A [(r, .inr (1, [.int (iI (zB up)), .int (iI sd), .long (lI sc), .long (lI wh), .long (lI go), .ref pa, .ref pb])), (qn, eI t.1 4800 F)] sz) (fun _ : Unit => [(r, .inr (1, [.int (iI 0), .int (iI sd), .long (lI len), .long (lI w1), .long (lI w2), .ref pa, .ref pb])), (qn, eI t.1 4800 F)])) (va_A [(r, .inr (1, [.int (iI (zB up)), .int (iI sd), .long (lI sc), .long (lI wh), .long (lI go), .ref pa, .ref pb])), (qn, eI t.1 4800 F)] sz)) 0 0 (va_A [(r, .inr (1, [.int (iI (zB up)), .int (iI sd), .long (lI sc), .long (lI wh), .long (lI go), .ref pa, .ref pb])), (qn, eI t.1 4800 F)] sz) := by
  refine m_v (by decide +kernel) (Nat.le_of_ble_eq_true rfl) ?_
  intro zp ze zs zm zb zt zc zQ A ls hC hA hP hK hD hE hS hl ret
  have hl : lv_has ls 5 [(0, .ref r), (1, .ref qn), (2, .int (iI p)), (3, .long (lI len))] := hl
  have m0 := hM 0 (by omega) (by omega)
  rw [show p + 0 = p by omega] at m0
  have m1 := hM 1 (by omega) (by omega)
  have m2 := hM 2 (by omega) (by omega)
  have m3 := hM 3 (by omega) (by omega)
  refine lv_aload_n hC.1 hC.2.1 d_Ru_layRight_0 rfl (lv_at hl 0 rfl) ?_
  refine z_iconst hC d_Ru_layRight_1 ?_
  refine z_put (ci := 1) (C := R_Ru) (T := F_Ru) (N := 7) (v := .int (iI 0)) (ws' := [(r, .inr (1, [.int (iI 0), .int (iI sd), .long (lI sc), .long (lI wh), .long (lI go), .ref pa, .ref pb])), (qn, eI t.1 4800 F)]) hC in_Ru t_Ru t_Ru_ok n_Ru hK hP hD hS 0 rfl rfl 0 (by decide) k_54 rfl (by decide) (by decide) (Nat.le_of_ble_eq_true rfl) rfl d_Ru_layRight_2 (fun H locs hP hD hS => ?_)
  refine lv_aload_n hC.1 hC.2.1 d_Ru_layRight_5 rfl (lv_at hl 0 rfl) ?_
  refine lv_lload_n hC.1 hC.2.1 d_Ru_layRight_6 rfl (lv_at hl 3 rfl) ?_
  refine z_put (ci := 1) (C := R_Ru) (T := F_Ru) (N := 7) (v := .long (lI len)) (ws' := [(r, .inr (1, [.int (iI 0), .int (iI sd), .long (lI len), .long (lI wh), .long (lI go), .ref pa, .ref pb])), (qn, eI t.1 4800 F)]) hC in_Ru t_Ru t_Ru_ok n_Ru hK hP hD hS 0 rfl rfl 2 (by decide) k_56 rfl rfl rfl (Nat.le_of_ble_eq_true rfl) rfl d_Ru_layRight_7 (fun H locs hP hD hS => ?_)
  refine lv_aload_n hC.1 hC.2.1 d_Ru_layRight_10 rfl (lv_at hl 0 rfl) ?_
  refine z_iconst hC d_Ru_layRight_11 ?_
  refine lv_aload_n hC.1 hC.2.1 d_Ru_layRight_12 rfl (lv_at hl 1 rfl) ?_
  refine lv_iload_n hC.1 hC.2.1 d_Ru_layRight_13 rfl (lv_at hl 2 rfl) ?_
  refine z_iald hC hK hP 1 rfl (by omega) d_Ru_layRight_14 ?_
  refine z_imul hC d_Ru_layRight_15 ?_
  refine z_topi (z := 2 * F p) (by omega) ?_
  refine lv_aload_n hC.1 hC.2.1 d_Ru_layRight_16 rfl (lv_at hl 1 rfl) ?_
  refine lv_iload_n hC.1 hC.2.1 d_Ru_layRight_17 rfl (lv_at hl 2 rfl) ?_
  refine z_iconst hC d_Ru_layRight_18 ?_
  refine z_iadd hC d_Ru_layRight_19 ?_
  refine z_iald hC hK hP 1 rfl (by omega) d_Ru_layRight_20 ?_
  refine z_isub hC d_Ru_layRight_21 ?_
  refine z_topi (z := -F (p + 1) + 2 * F p) (by omega) ?_
  refine z_i2l hC d_Ru_layRight_22 (by have := hF p; have := hF (p + 1); omega) ?_
  refine z_topl (z := w1) (by omega) ?_
  refine z_put (ci := 1) (C := R_Ru) (T := F_Ru) (N := 7) (v := .long (lI w1)) (ws' := [(r, .inr (1, [.int (iI 0), .int (iI sd), .long (lI len), .long (lI w1), .long (lI go), .ref pa, .ref pb])), (qn, eI t.1 4800 F)]) hC in_Ru t_Ru t_Ru_ok n_Ru hK hP hD hS 0 rfl rfl 3 (by decide) k_57 rfl rfl rfl (Nat.le_of_ble_eq_true rfl) rfl d_Ru_layRight_23 (fun H locs hP hD hS => ?_)
  refine lv_aload_n hC.1 hC.2.1 d_Ru_layRight_26 rfl (lv_at hl 0 rfl) ?_
  refine lv_aload_n hC.1 hC.2.1 d_Ru_layRight_27 rfl (lv_at hl 1 rfl) ?_
  refine lv_iload_n hC.1 hC.2.1 d_Ru_layRight_28 rfl (lv_at hl 2 rfl) ?_
  refine z_iconst hC d_Ru_layRight_29 ?_
  refine z_iadd hC d_Ru_layRight_30 ?_
  refine z_iald hC hK hP 1 rfl (by omega) d_Ru_layRight_31 ?_
  refine lv_aload_n hC.1 hC.2.1 d_Ru_layRight_32 rfl (lv_at hl 1 rfl) ?_
  refine lv_iload_n hC.1 hC.2.1 d_Ru_layRight_33 rfl (lv_at hl 2 rfl) ?_
  refine z_iconst hC d_Ru_layRight_34 ?_
  refine z_iadd hC d_Ru_layRight_35 ?_
  refine z_iald hC hK hP 1 rfl (by omega) d_Ru_layRight_36 ?_
  refine z_isub hC d_Ru_layRight_37 ?_
  refine z_topi (z := F (p + 1) - F (p + 2)) (by omega) ?_
  refine lv_aload_n hC.1 hC.2.1 d_Ru_layRight_38 rfl (lv_at hl 1 rfl) ?_
  refine lv_iload_n hC.1 hC.2.1 d_Ru_layRight_39 rfl (lv_at hl 2 rfl) ?_
  refine z_iconst hC d_Ru_layRight_40 ?_
  refine z_iadd hC d_Ru_layRight_41 ?_
  refine z_iald hC hK hP 1 rfl (by omega) d_Ru_layRight_42 ?_
  refine z_isub hC d_Ru_layRight_43 ?_
  refine z_topi (z := F (p + 1) - F (p + 2) - F (p + 3)) (by omega) ?_
  refine z_i2l hC d_Ru_layRight_44 (by have := hF (p + 1); have := hF (p + 2); have := hF (p + 3); omega) ?_
  refine z_topl (z := w2) (by omega) ?_
  refine z_put (ci := 1) (C := R_Ru) (T := F_Ru) (N := 7) (v := .long (lI w2)) (ws' := [(r, .inr (1, [.int (iI 0), .int (iI sd), .long (lI len), .long (lI w1), .long (lI w2), .ref pa, .ref pb])), (qn, eI t.1 4800 F)]) hC in_Ru t_Ru t_Ru_ok n_Ru hK hP hD hS 0 rfl rfl 4 (by decide) k_58 rfl rfl rfl (Nat.le_of_ble_eq_true rfl) rfl d_Ru_layRight_45 (fun H locs hP hD hS => ?_)
  have hP9 := hP.sub (ws' := [(r, .inr (1, [.int (iI 0), .int (iI sd), .long (lI len), .long (lI w1), .long (lI w2), .ref pa, .ref pb])), (qn, eI t.1 4800 F)]) [0, 1] rfl
  have hD9 := hD.sub (ws' := [(r, .inr (1, [.int (iI 0), .int (iI sd), .long (lI len), .long (lI w1), .long (lI w2), .ref pa, .ref pb])), (qn, eI t.1 4800 F)]) [0, 1] (by decide) rfl
  exact ret () _ _ 48 _ d_Ru_layRight_48 trivial hP9 hD9 hS
theorem ye_Ru_layUp : ye y_Ru_layUp R_Ru 3 := by unfold ye; decide +kernel
abbrev rm_Ru_layUp : Room := { frames := 1, cells := 0, slots := 0, locals := 23 }
set_option maxHeartbeats 4000000 in
set_option maxRecDepth 100000 in
theorem c_Ru_layUp (l : Launch) (D : va_G) (t : vt) (ts : Nat → Nat) (r pa pb : Nat) (up : Bool) (sd sc wh go : Int) (qn : Nat) (F : Int → Int) (p len : Int) (hp : 0 ≤ p ∧ p + 3 < 4800) (hl0 : 1 ≤ len ∧ len ≤ 10000000) (w1 w2 s1 l2 x y : Int) (hF : bF F) (hM : ∀ i, 0 ≤ i → i ≤ 3 → -1000000 ≤ F (p + i) ∧ F (p + i) ≤ 1000000) (ex : x = F (p + 2) - F (p + 3)) (ey : y = F (p + 1)) (es : s1 = sgn (hZ 0 F p)) (el : l2 = len * len) (e1 : w1 = 3 * (x * x + y * y) - (2 * (x * y) + y * y)) (e2 : w2 = 2 * (2 * (x * y) + y * y) - (x * x + y * y)) (sz : Nat) : Met l y_Ru_layUp (.code y_Ru_layUp b_Ru_layUp 13 none :: tb_ws) rm_Ru_layUp (MP D t ts [.ref r, .ref qn, .int (iI p), .long (lI len)] [(r, .inr (1, [.int (iI (zB up)), .int (iI sd), .long (lI sc), .long (lI wh), .long (lI go), .ref pa, .ref pb])), (qn, eI t.1 4800 F)] sz) (va_Qv (fun _ : Unit => True) (MB D (va_A [(r, .inr (1, [.int (iI (zB up)), .int (iI sd), .long (lI sc), .long (lI wh), .long (lI go), .ref pa, .ref pb])), (qn, eI t.1 4800 F)] sz) (fun _ : Unit => [(r, .inr (1, [.int (iI 1), .int (iI s1), .long (lI l2), .long (lI w1), .long (lI w2), .ref pa, .ref pb])), (qn, eI t.1 4800 F)])) (va_A [(r, .inr (1, [.int (iI (zB up)), .int (iI sd), .long (lI sc), .long (lI wh), .long (lI go), .ref pa, .ref pb])), (qn, eI t.1 4800 F)] sz)) 0 0 (va_A [(r, .inr (1, [.int (iI (zB up)), .int (iI sd), .long (lI sc), .long (lI wh), .long (lI go), .ref pa, .ref pb])), (qn, eI t.1 4800 F)] sz) := by
  refine m_v (by decide +kernel) (Nat.le_of_ble_eq_true rfl) ?_
  intro zp ze zs zm zb zt zc zQ A ls hC hA hP hK hD hE hS hl ret
  have hl : lv_has ls 13 [(0, .ref r), (1, .ref qn), (2, .int (iI p)), (3, .long (lI len))] := hl
  have m0 := hM 0 (by omega) (by omega)
  rw [show p + 0 = p by omega] at m0
  have m1 := hM 1 (by omega) (by omega)
  have m2 := hM 2 (by omega) (by omega)
  have m3 := hM 3 (by omega) (by omega)
  have hh := hZ_in hF 0 p
  refine lv_aload_n hC.1 hC.2.1 d_Ru_layUp_0 rfl (lv_at hl 0 rfl) ?_
  refine z_iconst hC d_Ru_layUp_1 ?_
  refine z_put (ci := 1) (C := R_Ru) (T := F_Ru) (N := 7) (v := .int (iI 1)) (ws' := [(r, .inr (1, [.int (iI 1), .int (iI sd), .long (lI sc), .long (lI wh), .long (lI go), .ref pa, .ref pb])), (qn, eI t.1 4800 F)]) hC in_Ru t_Ru t_Ru_ok n_Ru hK hP hD hS 0 rfl rfl 0 (by decide) k_54 rfl (by decide) (by decide) (Nat.le_of_ble_eq_true rfl) rfl d_Ru_layUp_2 (fun H locs hP hD hS => ?_)
  refine lv_aload_n hC.1 hC.2.1 d_Ru_layUp_5 rfl (lv_at hl 0 rfl) ?_
  refine z_iconst hC d_Ru_layUp_6 ?_
  refine lv_aload_n hC.1 hC.2.1 d_Ru_layUp_7 rfl (lv_at hl 1 rfl) ?_
  refine lv_iload_n hC.1 hC.2.1 d_Ru_layUp_8 rfl (lv_at hl 2 rfl) ?_
  refine z_roSl (As := [.int (iI 0), .ref qn, .int (iI p)]) (rest := [.ref r]) hC (c_Po_height l D t ts 0 qn 4800 F p (by omega) (by decide) (by omega) hF) (cw_S hC k_397 k_157 k_8 k_158 ye_Po_height (by decide)) hP hK hE hS [1] rfl rfl hl.1 rfl (Nat.le_of_ble_eq_true rfl) ⟨Nat.le_of_ble_eq_true rfl, Nat.le_of_ble_eq_true rfl⟩ d_Ru_layUp_9 ?_
  refine z_roSi (As := [.long (lI (hZ 0 F p))]) (rest := [.ref r]) hC (c_JL_signum l D t ts (hZ 0 F p) (by have := hZ_in hF 0 p; omega) (by have := hZ_in hF 0 p; omega)) (cw_S hC k_398 k_399 k_12 k_400 ye_JL_signum (by decide)) hP hK hE hS [] rfl rfl hl.1 rfl (Nat.le_of_ble_eq_true rfl) ⟨Nat.le_of_ble_eq_true rfl, Nat.le_of_ble_eq_true rfl⟩ d_Ru_layUp_12 ?_
  refine z_topi (z := s1) (by omega) ?_
  refine z_put (ci := 1) (C := R_Ru) (T := F_Ru) (N := 7) (v := .int (iI s1)) (ws' := [(r, .inr (1, [.int (iI 1), .int (iI s1), .long (lI sc), .long (lI wh), .long (lI go), .ref pa, .ref pb])), (qn, eI t.1 4800 F)]) hC in_Ru t_Ru t_Ru_ok n_Ru hK hP hD hS 0 rfl rfl 1 (by decide) k_55 rfl rfl rfl (Nat.le_of_ble_eq_true rfl) rfl d_Ru_layUp_15 (fun H locs hP hD hS => ?_)
  refine lv_aload_n hC.1 hC.2.1 d_Ru_layUp_18 rfl (lv_at hl 0 rfl) ?_
  refine lv_lload_n hC.1 hC.2.1 d_Ru_layUp_19 rfl (lv_at hl 3 rfl) ?_
  refine lv_lload_n hC.1 hC.2.1 d_Ru_layUp_20 rfl (lv_at hl 3 rfl) ?_
  refine z_lmul hC d_Ru_layUp_21 ?_
  refine z_topl (z := l2) (by omega) ?_
  refine z_put (ci := 1) (C := R_Ru) (T := F_Ru) (N := 7) (v := .long (lI l2)) (ws' := [(r, .inr (1, [.int (iI 1), .int (iI s1), .long (lI l2), .long (lI wh), .long (lI go), .ref pa, .ref pb])), (qn, eI t.1 4800 F)]) hC in_Ru t_Ru t_Ru_ok n_Ru hK hP hD hS 0 rfl rfl 2 (by decide) k_56 rfl rfl rfl (Nat.le_of_ble_eq_true rfl) rfl d_Ru_layUp_22 (fun H locs hP hD hS => ?_)
  refine lv_aload_n hC.1 hC.2.1 d_Ru_layUp_25 rfl (lv_at hl 1 rfl) ?_
  refine lv_iload_n hC.1 hC.2.1 d_Ru_layUp_26 rfl (lv_at hl 2 rfl) ?_
  refine z_iconst hC d_Ru_layUp_27 ?_
  refine z_iadd hC d_Ru_layUp_28 ?_
  refine z_iald hC hK hP 1 rfl (by omega) d_Ru_layUp_29 ?_
  refine lv_aload_n hC.1 hC.2.1 d_Ru_layUp_30 rfl (lv_at hl 1 rfl) ?_
  refine lv_iload_n hC.1 hC.2.1 d_Ru_layUp_31 rfl (lv_at hl 2 rfl) ?_
  refine z_iconst hC d_Ru_layUp_32 ?_
  refine z_iadd hC d_Ru_layUp_33 ?_
  refine z_iald hC hK hP 1 rfl (by omega) d_Ru_layUp_34 ?_
  refine z_isub hC d_Ru_layUp_35 ?_
  refine z_topi (z := F (p + 2) - F (p + 3)) (by omega) ?_
  refine z_i2l hC d_Ru_layUp_36 (by have := hF (p + 2); have := hF (p + 3); omega) ?_
  refine z_topl (z := x) (by omega) ?_
  refine lv_lstore (lv' := [(5, .long (lI x)), (0, .ref r), (1, .ref qn), (2, .int (iI p)), (3, .long (lI len))]) hC.1 hC.2.1 d_Ru_layUp_37 hl (by decide) rfl (fun ls hl => ?_)
  refine lv_aload_n hC.1 hC.2.1 d_Ru_layUp_39 rfl (lv_at hl 2 rfl) ?_
  refine lv_iload_n hC.1 hC.2.1 d_Ru_layUp_40 rfl (lv_at hl 3 rfl) ?_
  refine z_iconst hC d_Ru_layUp_41 ?_
  refine z_iadd hC d_Ru_layUp_42 ?_
  refine z_iald hC hK hP 1 rfl (by omega) d_Ru_layUp_43 ?_
  refine z_i2l hC d_Ru_layUp_44 (by have := hF (p + 1); omega) ?_
  refine z_topl (z := y) (by omega) ?_
  refine lv_lstore (lv' := [(7, .long (lI y)), (5, .long (lI x)), (0, .ref r), (1, .ref qn), (2, .int (iI p)), (3, .long (lI len))]) hC.1 hC.2.1 d_Ru_layUp_45 hl (by decide) rfl (fun ls hl => ?_)
  refine lv_lload hC.1 hC.2.1 d_Ru_layUp_47 (lv_at hl 1 rfl) ?_
  refine lv_lload hC.1 hC.2.1 d_Ru_layUp_49 (lv_at hl 1 rfl) ?_
  refine z_lmul hC d_Ru_layUp_51 ?_
  refine lv_lload hC.1 hC.2.1 d_Ru_layUp_52 (lv_at hl 0 rfl) ?_
  refine lv_lload hC.1 hC.2.1 d_Ru_layUp_54 (lv_at hl 0 rfl) ?_
  refine z_lmul hC d_Ru_layUp_56 ?_
  refine z_ladd hC d_Ru_layUp_57 ?_
  refine z_topl (z := (x * x) + (y * y)) (by omega) ?_
  refine lv_lstore (lv' := [(9, .long (lI ((x * x) + (y * y)))), (7, .long (lI y)), (5, .long (lI x)), (0, .ref r), (1, .ref qn), (2, .int (iI p)), (3, .long (lI len))]) hC.1 hC.2.1 d_Ru_layUp_58 hl (by decide) rfl (fun ls hl => ?_)
  refine z_ldc2 hC k_401 d_Ru_layUp_60 ?_
  refine lv_lload hC.1 hC.2.1 d_Ru_layUp_63 (lv_at hl 2 rfl) ?_
  refine z_lmul hC d_Ru_layUp_65 ?_
  refine lv_lload hC.1 hC.2.1 d_Ru_layUp_66 (lv_at hl 1 rfl) ?_
  refine z_lmul hC d_Ru_layUp_68 ?_
  refine z_topl (z := 2 * (x * y)) (Int.mul_assoc _ _ _) ?_
  refine lv_lload hC.1 hC.2.1 d_Ru_layUp_69 (lv_at hl 1 rfl) ?_
  refine lv_lload hC.1 hC.2.1 d_Ru_layUp_71 (lv_at hl 1 rfl) ?_
  refine z_lmul hC d_Ru_layUp_73 ?_
  refine z_ladd hC d_Ru_layUp_74 ?_
  refine z_topl (z := 2 * (x * y) + (y * y)) (by omega) ?_
  refine lv_lstore (lv' := [(11, .long (lI (2 * (x * y) + (y * y)))), (9, .long (lI ((x * x) + (y * y)))), (7, .long (lI y)), (5, .long (lI x)), (0, .ref r), (1, .ref qn), (2, .int (iI p)), (3, .long (lI len))]) hC.1 hC.2.1 d_Ru_layUp_75 hl (by decide) rfl (fun ls hl => ?_)
  refine lv_aload_n hC.1 hC.2.1 d_Ru_layUp_77 rfl (lv_at hl 4 rfl) ?_
  refine z_ldc2 hC k_402 d_Ru_layUp_78 ?_
  refine lv_lload hC.1 hC.2.1 d_Ru_layUp_81 (lv_at hl 1 rfl) ?_
  refine z_lmul hC d_Ru_layUp_83 ?_
  refine z_topl (z := 3 * (x * x) + 3 * (y * y)) (by omega) ?_
  refine lv_lload hC.1 hC.2.1 d_Ru_layUp_84 (lv_at hl 0 rfl) ?_
  refine z_lsub hC d_Ru_layUp_86 ?_
  refine z_topl (z := 3 * (x * x) - 2 * (x * y) + 2 * (y * y)) (by omega) ?_
  refine z_topl (z := w1) (by omega) ?_
  refine z_put (ci := 1) (C := R_Ru) (T := F_Ru) (N := 7) (v := .long (lI w1)) (ws' := [(r, .inr (1, [.int (iI 1), .int (iI s1), .long (lI l2), .long (lI w1), .long (lI go), .ref pa, .ref pb])), (qn, eI t.1 4800 F)]) hC in_Ru t_Ru t_Ru_ok n_Ru hK hP hD hS 0 rfl rfl 3 (by decide) k_57 rfl rfl rfl (Nat.le_of_ble_eq_true rfl) rfl d_Ru_layUp_87 (fun H locs hP hD hS => ?_)
  refine lv_aload_n hC.1 hC.2.1 d_Ru_layUp_90 rfl (lv_at hl 4 rfl) ?_
  refine z_ldc2 hC k_401 d_Ru_layUp_91 ?_
  refine lv_lload hC.1 hC.2.1 d_Ru_layUp_94 (lv_at hl 0 rfl) ?_
  refine z_lmul hC d_Ru_layUp_96 ?_
  refine z_topl (z := 4 * (x * y) + 2 * (y * y)) (by omega) ?_
  refine lv_lload hC.1 hC.2.1 d_Ru_layUp_97 (lv_at hl 1 rfl) ?_
  refine z_lsub hC d_Ru_layUp_99 ?_
  refine z_topl (z := -(x * x) + 4 * (x * y) + (y * y)) (by omega) ?_
  refine z_topl (z := w2) (by omega) ?_
  refine z_put (ci := 1) (C := R_Ru) (T := F_Ru) (N := 7) (v := .long (lI w2)) (ws' := [(r, .inr (1, [.int (iI 1), .int (iI s1), .long (lI l2), .long (lI w1), .long (lI w2), .ref pa, .ref pb])), (qn, eI t.1 4800 F)]) hC in_Ru t_Ru t_Ru_ok n_Ru hK hP hD hS 0 rfl rfl 4 (by decide) k_58 rfl rfl rfl (Nat.le_of_ble_eq_true rfl) rfl d_Ru_layUp_100 (fun H locs hP hD hS => ?_)
  have hP9 := hP.sub (ws' := [(r, .inr (1, [.int (iI 1), .int (iI s1), .long (lI l2), .long (lI w1), .long (lI w2), .ref pa, .ref pb])), (qn, eI t.1 4800 F)]) [0, 1] rfl
  have hD9 := hD.sub (ws' := [(r, .inr (1, [.int (iI 1), .int (iI s1), .long (lI l2), .long (lI w1), .long (lI w2), .ref pa, .ref pb])), (qn, eI t.1 4800 F)]) [0, 1] (by decide) rfl
  exact ret () _ _ 103 _ d_Ru_layUp_103 trivial hP9 hD9 hS
