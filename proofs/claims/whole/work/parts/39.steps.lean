theorem ye_Ru_compareScaled : ye y_Ru_compareScaled R_Ru 2 := by unfold ye; decide +kernel
abbrev rm_Ru_compareScaled : Room := { frames := 3, cells := 0, slots := 0, locals := 71 }
set_option maxHeartbeats 4000000 in
set_option maxRecDepth 100000 in
theorem c_Ru_compareScaled (l : Launch) (D : va_G) (t : vt) (ts : Nat → Nat) (r pa pb : Nat) (up : Bool) (sd sc wh go : Int) (h1 g1 h2 g2 : Int) (hsc : -1125899906842624 < sc ∧ sc < 1125899906842624) (hwh : -1125899906842624 < wh ∧ wh < 1125899906842624) (hgo : -1125899906842624 < go ∧ go < 1125899906842624) (f o : Int) (hf : -1125899906842624 < f ∧ f < 1125899906842624) (ho : -1125899906842624 < o ∧ o < 1125899906842624) (sz : Nat) : Met l y_Ru_compareScaled (.code y_Ru_compareScaled b_Ru_compareScaled 5 (some .int) :: tb_ws) rm_Ru_compareScaled (MP D t ts [.ref r, .long (lI f), .long (lI o)] [(r, .inr (1, [.int (iI (zB up)), .int (iI sd), .long (lI sc), .long (lI wh), .long (lI go), .ref pa, .ref pb])), (pa, .inr (3, [.long (lI h1), .long (lI g1)])), (pb, .inr (3, [.long (lI h2), .long (lI g2)]))] sz) (va_Qi (fun zr u => zr = iI ((fun u : Int × Nat × Nat × Int × Int × Int × Int => u.1) u) ∧ ((fun u : Int × Nat × Nat × Int × Int × Int × Int => u.1 = gsN 1000 (sc * wh - f * o) (sc * go) ∧ ((u.2.1 = pa ∧ u.2.2.1 = pb) ∨ (u.2.1 = pb ∧ u.2.2.1 = pa)))) u) (MB D (va_A [(r, .inr (1, [.int (iI (zB up)), .int (iI sd), .long (lI sc), .long (lI wh), .long (lI go), .ref pa, .ref pb])), (pa, .inr (3, [.long (lI h1), .long (lI g1)])), (pb, .inr (3, [.long (lI h2), .long (lI g2)]))] sz) (fun u : Int × Nat × Nat × Int × Int × Int × Int => [(r, .inr (1, [.int (iI (zB up)), .int (iI sd), .long (lI sc), .long (lI wh), .long (lI go), .ref u.2.1, .ref u.2.2.1])), (u.2.1, .inr (3, [.long (lI u.2.2.2.1), .long (lI u.2.2.2.2.1)])), (u.2.2.1, .inr (3, [.long (lI u.2.2.2.2.2.1), .long (lI u.2.2.2.2.2.2)]))])) (va_A [(r, .inr (1, [.int (iI (zB up)), .int (iI sd), .long (lI sc), .long (lI wh), .long (lI go), .ref pa, .ref pb])), (pa, .inr (3, [.long (lI h1), .long (lI g1)])), (pb, .inr (3, [.long (lI h2), .long (lI g2)]))] sz)) 0 0 (va_A [(r, .inr (1, [.int (iI (zB up)), .int (iI sd), .long (lI sc), .long (lI wh), .long (lI go), .ref pa, .ref pb])), (pa, .inr (3, [.long (lI h1), .long (lI g1)])), (pb, .inr (3, [.long (lI h2), .long (lI g2)]))] sz) := by
  refine m_i (by decide +kernel) (Nat.le_of_ble_eq_true rfl) ?_
  intro zp ze zs zm zb zt zc zQ A ls hC hA hP hK hD hE hS hl ret
  have hl : lv_has ls 5 [(0, .ref r), (1, .long (lI f)), (3, .long (lI o))] := hl
  have retv : ∀ (u : Int × Nat × Nat × Int × Int × Int × Int) (H : Heap) (locs : List Loc) (pc : Nat) (ls : Array Slot) (zv : Int), decode b_Ru_compareScaled pc = .ok (.ireturn, 1) → (zv = u.1 ∧ (u.1 = gsN 1000 (sc * wh - f * o) (sc * go) ∧ ((u.2.1 = pa ∧ u.2.2.1 = pb) ∨ (u.2.1 = pb ∧ u.2.2.1 = pa)))) → va_P D classes ([(r, .inr (1, [.int (iI (zB up)), .int (iI sd), .long (lI sc), .long (lI wh), .long (lI go), .ref u.2.1, .ref u.2.2.1])), (u.2.1, .inr (3, [.long (lI u.2.2.2.1), .long (lI u.2.2.2.2.1)])), (u.2.2.1, .inr (3, [.long (lI u.2.2.2.2.2.1), .long (lI u.2.2.2.2.2.2)]))]) H → va_D A ([(r, .inr (1, [.int (iI (zB up)), .int (iI sd), .long (lI sc), .long (lI wh), .long (lI go), .ref u.2.1, .ref u.2.2.1])), (u.2.1, .inr (3, [.long (lI u.2.2.2.1), .long (lI u.2.2.2.2.1)])), (u.2.2.1, .inr (3, [.long (lI u.2.2.2.2.2.1), .long (lI u.2.2.2.2.2.2)]))]) → va_S A zs.heap H locs → W zp l ze rm_Ru_compareScaled zs zm [.ref r, .long (lI f), .long (lI o)].toArray zb zt zc H locs 0 0 zQ (F0 zm pc ls [.int (iI zv)]) := fun u H locs pc ls v d h hP hD hS => by rw [h.1]; exact ret u H locs pc ls d h.2 hP hD hS
  have q1 := mul_bd (a := sc) (b := wh) (A := 1125899906842624) (B := 1125899906842624) (by omega) (by omega)
  have q2 := mul_bd (a := f) (b := o) (A := 1125899906842624) (B := 1125899906842624) (by omega) (by omega)
  have q3 := mul_bd (a := sc) (b := go) (A := 1125899906842624) (B := 1125899906842624) (by omega) (by omega)
  refine lv_aload_n hC.1 hC.2.1 d_Ru_compareScaled_0 rfl (lv_at hl 0 rfl) ?_
  refine z_get (ci := 1) (C := R_Ru) (T := F_Ru) (N := 7) (v := .ref pa) hC in_Ru hK hP 0 rfl rfl 5 (by decide) k_59 rfl d_Ru_compareScaled_1 ?_
  refine z_mVv (As := []) (rest := []) (wr := [(r, .inr (1, [.int (iI (zB up)), .int (iI sd), .long (lI sc), .long (lI wh), .long (lI go), .ref pa, .ref pb])), (pb, .inr (3, [.long (lI h2), .long (lI g2)]))]) hC (c_Wi_clear l D t ts pa h1 g1 _) (cw_V hC k_417 k_418 k_419 k_4 k_420 ye_Wi_clear (by decide)) hP hD hK hE hS hA [1] [0, 2] (by decide) rfl rfl (by decide) (by decide) 1 (ci := 3) rfl rfl rfl rfl hl.1 rfl (Nat.le_of_ble_eq_true rfl) ⟨Nat.le_of_ble_eq_true rfl, Nat.le_of_ble_eq_true rfl⟩ d_Ru_compareScaled_4 (fun u1 H locs eu1 hP hD hS => ?_)
  have hP : va_P D classes [(r, .inr (1, [.int (iI (zB up)), .int (iI sd), .long (lI sc), .long (lI wh), .long (lI go), .ref pa, .ref pb])), (pb, .inr (3, [.long (lI h2), .long (lI g2)])), (pa, .inr (3, [.long (lI 0), .long (lI 0)]))] H := hP
  have hD : va_D A [(r, .inr (1, [.int (iI (zB up)), .int (iI sd), .long (lI sc), .long (lI wh), .long (lI go), .ref pa, .ref pb])), (pb, .inr (3, [.long (lI h2), .long (lI g2)])), (pa, .inr (3, [.long (lI 0), .long (lI 0)]))] := hD
  refine lv_aload_n hC.1 hC.2.1 d_Ru_compareScaled_7 rfl (lv_at hl 0 rfl) ?_
  refine z_get (ci := 1) (C := R_Ru) (T := F_Ru) (N := 7) (v := .ref pa) hC in_Ru hK hP 0 rfl rfl 5 (by decide) k_59 rfl d_Ru_compareScaled_8 ?_
  refine lv_aload_n hC.1 hC.2.1 d_Ru_compareScaled_11 rfl (lv_at hl 0 rfl) ?_
  refine z_get (ci := 1) (C := R_Ru) (T := F_Ru) (N := 7) (v := .long (lI sc)) hC in_Ru hK hP 0 rfl rfl 2 (by decide) k_56 rfl d_Ru_compareScaled_12 ?_
  refine lv_aload_n hC.1 hC.2.1 d_Ru_compareScaled_15 rfl (lv_at hl 0 rfl) ?_
  refine z_get (ci := 1) (C := R_Ru) (T := F_Ru) (N := 7) (v := .long (lI wh)) hC in_Ru hK hP 0 rfl rfl 3 (by decide) k_57 rfl d_Ru_compareScaled_16 ?_
  refine z_mVv (As := [.long (lI sc), .long (lI wh)]) (rest := []) (wr := [(r, .inr (1, [.int (iI (zB up)), .int (iI sd), .long (lI sc), .long (lI wh), .long (lI go), .ref pa, .ref pb])), (pb, .inr (3, [.long (lI h2), .long (lI g2)]))]) hC (c_Wi_addProduct l D t ts pa 0 sc wh ((sc * wh)) (by omega) (by omega) (by omega) _) (cw_V hC k_421 k_422 k_423 k_4 k_424 ye_Wi_addProduct (by decide)) hP hD hK hE hS hA [2] [0, 1] (by decide) rfl rfl (by decide) (by decide) 2 (ci := 3) rfl rfl rfl rfl hl.1 rfl (Nat.le_of_ble_eq_true rfl) ⟨Nat.le_of_ble_eq_true rfl, Nat.le_of_ble_eq_true rfl⟩ d_Ru_compareScaled_19 (fun u2 H locs eu2 hP hD hS => ?_)
  have hP : va_P D classes [(r, .inr (1, [.int (iI (zB up)), .int (iI sd), .long (lI sc), .long (lI wh), .long (lI go), .ref pa, .ref pb])), (pb, .inr (3, [.long (lI h2), .long (lI g2)])), (pa, .inr (3, [.long (lI ((((sc * wh)) / 4503599627370496))), .long (lI ((((sc * wh)) % 4503599627370496)))]))] H := hP
  have hD : va_D A [(r, .inr (1, [.int (iI (zB up)), .int (iI sd), .long (lI sc), .long (lI wh), .long (lI go), .ref pa, .ref pb])), (pb, .inr (3, [.long (lI h2), .long (lI g2)])), (pa, .inr (3, [.long (lI ((((sc * wh)) / 4503599627370496))), .long (lI ((((sc * wh)) % 4503599627370496)))]))] := hD
  refine lv_aload_n hC.1 hC.2.1 d_Ru_compareScaled_22 rfl (lv_at hl 0 rfl) ?_
  refine z_get (ci := 1) (C := R_Ru) (T := F_Ru) (N := 7) (v := .ref pa) hC in_Ru hK hP 0 rfl rfl 5 (by decide) k_59 rfl d_Ru_compareScaled_23 ?_
  refine lv_lload_n hC.1 hC.2.1 d_Ru_compareScaled_26 rfl (lv_at hl 1 rfl) ?_
  refine z_lneg hC d_Ru_compareScaled_27 ?_
  refine lv_lload_n hC.1 hC.2.1 d_Ru_compareScaled_28 rfl (lv_at hl 2 rfl) ?_
  refine z_mVv (As := [.long (lI (-f)), .long (lI o)]) (rest := []) (wr := [(r, .inr (1, [.int (iI (zB up)), .int (iI sd), .long (lI sc), .long (lI wh), .long (lI go), .ref pa, .ref pb])), (pb, .inr (3, [.long (lI h2), .long (lI g2)]))]) hC (c_Wi_addProduct l D t ts pa ((sc * wh)) (-f) o (-(f * o) + (sc * wh)) (by omega) (by omega) (by rw [Int.neg_mul]; omega) _) (cw_V hC k_421 k_422 k_423 k_4 k_424 ye_Wi_addProduct (by decide)) hP hD hK hE hS hA [2] [0, 1] (by decide) rfl rfl (by decide) (by decide) 2 (ci := 3) rfl rfl rfl rfl hl.1 rfl (Nat.le_of_ble_eq_true rfl) ⟨Nat.le_of_ble_eq_true rfl, Nat.le_of_ble_eq_true rfl⟩ d_Ru_compareScaled_29 (fun u3 H locs eu3 hP hD hS => ?_)
  have hP : va_P D classes [(r, .inr (1, [.int (iI (zB up)), .int (iI sd), .long (lI sc), .long (lI wh), .long (lI go), .ref pa, .ref pb])), (pb, .inr (3, [.long (lI h2), .long (lI g2)])), (pa, .inr (3, [.long (lI (((-(f * o) + (sc * wh)) / 4503599627370496))), .long (lI (((-(f * o) + (sc * wh)) % 4503599627370496)))]))] H := hP
  have hD : va_D A [(r, .inr (1, [.int (iI (zB up)), .int (iI sd), .long (lI sc), .long (lI wh), .long (lI go), .ref pa, .ref pb])), (pb, .inr (3, [.long (lI h2), .long (lI g2)])), (pa, .inr (3, [.long (lI (((-(f * o) + (sc * wh)) / 4503599627370496))), .long (lI (((-(f * o) + (sc * wh)) % 4503599627370496)))]))] := hD
  refine lv_aload_n hC.1 hC.2.1 d_Ru_compareScaled_32 rfl (lv_at hl 0 rfl) ?_
  refine z_get (ci := 1) (C := R_Ru) (T := F_Ru) (N := 7) (v := .ref pb) hC in_Ru hK hP 0 rfl rfl 6 (by decide) k_60 rfl d_Ru_compareScaled_33 ?_
  refine z_mVv (As := []) (rest := []) (wr := [(r, .inr (1, [.int (iI (zB up)), .int (iI sd), .long (lI sc), .long (lI wh), .long (lI go), .ref pa, .ref pb])), (pa, .inr (3, [.long (lI (((-(f * o) + (sc * wh)) / 4503599627370496))), .long (lI (((-(f * o) + (sc * wh)) % 4503599627370496)))]))]) hC (c_Wi_clear l D t ts pb h2 g2 _) (cw_V hC k_417 k_418 k_419 k_4 k_420 ye_Wi_clear (by decide)) hP hD hK hE hS hA [1] [0, 2] (by decide) rfl rfl (by decide) (by decide) 1 (ci := 3) rfl rfl rfl rfl hl.1 rfl (Nat.le_of_ble_eq_true rfl) ⟨Nat.le_of_ble_eq_true rfl, Nat.le_of_ble_eq_true rfl⟩ d_Ru_compareScaled_36 (fun u4 H locs eu4 hP hD hS => ?_)
  have hP : va_P D classes [(r, .inr (1, [.int (iI (zB up)), .int (iI sd), .long (lI sc), .long (lI wh), .long (lI go), .ref pa, .ref pb])), (pa, .inr (3, [.long (lI (((-(f * o) + (sc * wh)) / 4503599627370496))), .long (lI (((-(f * o) + (sc * wh)) % 4503599627370496)))])), (pb, .inr (3, [.long (lI 0), .long (lI 0)]))] H := hP
  have hD : va_D A [(r, .inr (1, [.int (iI (zB up)), .int (iI sd), .long (lI sc), .long (lI wh), .long (lI go), .ref pa, .ref pb])), (pa, .inr (3, [.long (lI (((-(f * o) + (sc * wh)) / 4503599627370496))), .long (lI (((-(f * o) + (sc * wh)) % 4503599627370496)))])), (pb, .inr (3, [.long (lI 0), .long (lI 0)]))] := hD
  refine lv_aload_n hC.1 hC.2.1 d_Ru_compareScaled_39 rfl (lv_at hl 0 rfl) ?_
  refine z_get (ci := 1) (C := R_Ru) (T := F_Ru) (N := 7) (v := .ref pb) hC in_Ru hK hP 0 rfl rfl 6 (by decide) k_60 rfl d_Ru_compareScaled_40 ?_
  refine lv_aload_n hC.1 hC.2.1 d_Ru_compareScaled_43 rfl (lv_at hl 0 rfl) ?_
  refine z_get (ci := 1) (C := R_Ru) (T := F_Ru) (N := 7) (v := .long (lI sc)) hC in_Ru hK hP 0 rfl rfl 2 (by decide) k_56 rfl d_Ru_compareScaled_44 ?_
  refine lv_aload_n hC.1 hC.2.1 d_Ru_compareScaled_47 rfl (lv_at hl 0 rfl) ?_
  refine z_get (ci := 1) (C := R_Ru) (T := F_Ru) (N := 7) (v := .long (lI go)) hC in_Ru hK hP 0 rfl rfl 4 (by decide) k_58 rfl d_Ru_compareScaled_48 ?_
  refine z_mVv (As := [.long (lI sc), .long (lI go)]) (rest := []) (wr := [(r, .inr (1, [.int (iI (zB up)), .int (iI sd), .long (lI sc), .long (lI wh), .long (lI go), .ref pa, .ref pb])), (pa, .inr (3, [.long (lI (((-(f * o) + (sc * wh)) / 4503599627370496))), .long (lI (((-(f * o) + (sc * wh)) % 4503599627370496)))]))]) hC (c_Wi_addProduct l D t ts pb 0 sc go ((sc * go)) (by omega) (by omega) (by omega) _) (cw_V hC k_421 k_422 k_423 k_4 k_424 ye_Wi_addProduct (by decide)) hP hD hK hE hS hA [2] [0, 1] (by decide) rfl rfl (by decide) (by decide) 2 (ci := 3) rfl rfl rfl rfl hl.1 rfl (Nat.le_of_ble_eq_true rfl) ⟨Nat.le_of_ble_eq_true rfl, Nat.le_of_ble_eq_true rfl⟩ d_Ru_compareScaled_51 (fun u5 H locs eu5 hP hD hS => ?_)
  have hP : va_P D classes [(r, .inr (1, [.int (iI (zB up)), .int (iI sd), .long (lI sc), .long (lI wh), .long (lI go), .ref pa, .ref pb])), (pa, .inr (3, [.long (lI (((-(f * o) + (sc * wh)) / 4503599627370496))), .long (lI (((-(f * o) + (sc * wh)) % 4503599627370496)))])), (pb, .inr (3, [.long (lI ((((sc * go)) / 4503599627370496))), .long (lI ((((sc * go)) % 4503599627370496)))]))] H := hP
  have hD : va_D A [(r, .inr (1, [.int (iI (zB up)), .int (iI sd), .long (lI sc), .long (lI wh), .long (lI go), .ref pa, .ref pb])), (pa, .inr (3, [.long (lI (((-(f * o) + (sc * wh)) / 4503599627370496))), .long (lI (((-(f * o) + (sc * wh)) % 4503599627370496)))])), (pb, .inr (3, [.long (lI ((((sc * go)) / 4503599627370496))), .long (lI ((((sc * go)) % 4503599627370496)))]))] := hD
  refine lv_aload_n hC.1 hC.2.1 d_Ru_compareScaled_54 rfl (lv_at hl 0 rfl) ?_
  refine z_mVi (As := []) (rest := []) (wr := []) hC (c_Ru_goldenSign l D t ts r pa pb up sd sc wh go (-(f * o) + (sc * wh)) ((sc * go)) (by omega) (by omega) _) (cw_V hC k_431 k_433 kp_22 k_3 k_434 ye_Ru_goldenSign (by decide)) hP hD hK hE hS hA [0, 1, 2] [] (by decide) rfl rfl (by decide) (by decide) 0 (ci := 1) rfl rfl rfl rfl hl.1 rfl (Nat.le_of_ble_eq_true rfl) ⟨Nat.le_of_ble_eq_true rfl, Nat.le_of_ble_eq_true rfl⟩ d_Ru_compareScaled_55 (fun u6 H locs eu6 hP hD hS => ?_)
  obtain ⟨u6r, u6a, u6b, u6P, u6Q⟩ := u6
  obtain ⟨eu6r, eu6x⟩ := eu6
  dsimp only at eu6r eu6x hP hD ⊢
  have hP : va_P D classes [(r, .inr (1, [.int (iI (zB up)), .int (iI sd), .long (lI sc), .long (lI wh), .long (lI go), .ref u6a, .ref u6b])), (u6a, .inr (3, [.long (lI ((u6P / 4503599627370496))), .long (lI ((u6P % 4503599627370496)))])), (u6b, .inr (3, [.long (lI ((u6Q / 4503599627370496))), .long (lI ((u6Q % 4503599627370496)))]))] H := hP
  have hD : va_D A [(r, .inr (1, [.int (iI (zB up)), .int (iI sd), .long (lI sc), .long (lI wh), .long (lI go), .ref u6a, .ref u6b])), (u6a, .inr (3, [.long (lI ((u6P / 4503599627370496))), .long (lI ((u6P % 4503599627370496)))])), (u6b, .inr (3, [.long (lI ((u6Q / 4503599627370496))), .long (lI ((u6Q % 4503599627370496)))]))] := hD
  have hP9 := hP.sub (ws' := [(r, .inr (1, [.int (iI (zB up)), .int (iI sd), .long (lI sc), .long (lI wh), .long (lI go), .ref u6a, .ref u6b])), (u6a, .inr (3, [.long (lI ((u6P / 4503599627370496))), .long (lI ((u6P % 4503599627370496)))])), (u6b, .inr (3, [.long (lI ((u6Q / 4503599627370496))), .long (lI ((u6Q % 4503599627370496)))]))]) [0, 1, 2] rfl
  have hD9 := hD.sub (ws' := [(r, .inr (1, [.int (iI (zB up)), .int (iI sd), .long (lI sc), .long (lI wh), .long (lI go), .ref u6a, .ref u6b])), (u6a, .inr (3, [.long (lI ((u6P / 4503599627370496))), .long (lI ((u6P % 4503599627370496)))])), (u6b, .inr (3, [.long (lI ((u6Q / 4503599627370496))), .long (lI ((u6Q % 4503599627370496)))]))]) [0, 1, 2] (by decide) rfl
  exact retv (u6r, u6a, u6b, (u6P / 4503599627370496), (u6P % 4503599627370496), (u6Q / 4503599627370496), (u6Q % 4503599627370496)) _ _ 58 _ _ d_Ru_compareScaled_58 ⟨rfl, (by have q := eu6r; rw [show -(f * o) + (sc * wh) = sc * wh - f * o by omega] at q; exact q), eu6x⟩ hP9 hD9 hS
theorem ye_Ru_twiceReaches : ye y_Ru_twiceReaches R_Ru 1 := by unfold ye; decide +kernel
abbrev rm_Ru_twiceReaches : Room := { frames := 4, cells := 0, slots := 0, locals := 95 }
set_option maxHeartbeats 4000000 in
set_option maxRecDepth 100000 in
theorem c_Ru_twiceReaches (l : Launch) (D : va_G) (t : vt) (ts : Nat → Nat) (r pa pb : Nat) (up : Bool) (sd sc wh go : Int) (h1 g1 h2 g2 : Int) (hsc : -1125899906842624 < sc ∧ sc < 1125899906842624) (hwh : -1125899906842624 < wh ∧ wh < 1125899906842624) (hgo : -1125899906842624 < go ∧ go < 1125899906842624) (o : Int) (ho : -1125899906842624 < o ∧ o < 1125899906842624) (hsd : -1 ≤ sd ∧ sd ≤ 1) (sz : Nat) : Met l y_Ru_twiceReaches (.code y_Ru_twiceReaches b_Ru_twiceReaches 4 (some .boolean) :: tb_ws) rm_Ru_twiceReaches (MP D t ts [.ref r, .long (lI o)] [(r, .inr (1, [.int (iI (zB up)), .int (iI sd), .long (lI sc), .long (lI wh), .long (lI go), .ref pa, .ref pb])), (pa, .inr (3, [.long (lI h1), .long (lI g1)])), (pb, .inr (3, [.long (lI h2), .long (lI g2)]))] sz) (va_Qi (fun zr u => zr = iI (zB ((fun u : Bool × Nat × Nat × Int × Int × Int × Int => u.1) u)) ∧ ((fun u : Bool × Nat × Nat × Int × Int × Int × Int => u.1 = twZ up sd sc wh go o ∧ ((u.2.1 = pa ∧ u.2.2.1 = pb) ∨ (u.2.1 = pb ∧ u.2.2.1 = pa)))) u) (MB D (va_A [(r, .inr (1, [.int (iI (zB up)), .int (iI sd), .long (lI sc), .long (lI wh), .long (lI go), .ref pa, .ref pb])), (pa, .inr (3, [.long (lI h1), .long (lI g1)])), (pb, .inr (3, [.long (lI h2), .long (lI g2)]))] sz) (fun u : Bool × Nat × Nat × Int × Int × Int × Int => [(r, .inr (1, [.int (iI (zB up)), .int (iI sd), .long (lI sc), .long (lI wh), .long (lI go), .ref u.2.1, .ref u.2.2.1])), (u.2.1, .inr (3, [.long (lI u.2.2.2.1), .long (lI u.2.2.2.2.1)])), (u.2.2.1, .inr (3, [.long (lI u.2.2.2.2.2.1), .long (lI u.2.2.2.2.2.2)]))])) (va_A [(r, .inr (1, [.int (iI (zB up)), .int (iI sd), .long (lI sc), .long (lI wh), .long (lI go), .ref pa, .ref pb])), (pa, .inr (3, [.long (lI h1), .long (lI g1)])), (pb, .inr (3, [.long (lI h2), .long (lI g2)]))] sz)) 0 0 (va_A [(r, .inr (1, [.int (iI (zB up)), .int (iI sd), .long (lI sc), .long (lI wh), .long (lI go), .ref pa, .ref pb])), (pa, .inr (3, [.long (lI h1), .long (lI g1)])), (pb, .inr (3, [.long (lI h2), .long (lI g2)]))] sz) := by
  refine m_z (by decide +kernel) (Nat.le_of_ble_eq_true rfl) ?_
  intro zp ze zs zm zb zt zc zQ A ls hC hA hP hK hD hE hS hl ret
  have hl : lv_has ls 4 [(0, .ref r), (1, .long (lI o))] := hl
  have ret1 : ∀ (u : Bool × Nat × Nat × Int × Int × Int × Int) (H : Heap) (locs : List Loc) (pc : Nat) (ls : Array Slot), decode b_Ru_twiceReaches pc = .ok (.ireturn, 1) → (u.1 = true ∧ (u.1 = twZ up sd sc wh go o ∧ ((u.2.1 = pa ∧ u.2.2.1 = pb) ∨ (u.2.1 = pb ∧ u.2.2.1 = pa)))) → va_P D classes ([(r, .inr (1, [.int (iI (zB up)), .int (iI sd), .long (lI sc), .long (lI wh), .long (lI go), .ref u.2.1, .ref u.2.2.1])), (u.2.1, .inr (3, [.long (lI u.2.2.2.1), .long (lI u.2.2.2.2.1)])), (u.2.2.1, .inr (3, [.long (lI u.2.2.2.2.2.1), .long (lI u.2.2.2.2.2.2)]))]) H → va_D A ([(r, .inr (1, [.int (iI (zB up)), .int (iI sd), .long (lI sc), .long (lI wh), .long (lI go), .ref u.2.1, .ref u.2.2.1])), (u.2.1, .inr (3, [.long (lI u.2.2.2.1), .long (lI u.2.2.2.2.1)])), (u.2.2.1, .inr (3, [.long (lI u.2.2.2.2.2.1), .long (lI u.2.2.2.2.2.2)]))]) → va_S A zs.heap H locs → W zp l ze rm_Ru_twiceReaches zs zm [.ref r, .long (lI o)].toArray zb zt zc H locs 0 0 zQ (F0 zm pc ls [.int (iI 1)]) := fun u H locs pc ls d h hP hD hS => by have r := ret u H locs pc ls d h.2 hP hD hS; have hv := h.1; simp only [hv] at r; exact r
  have ret0 : ∀ (u : Bool × Nat × Nat × Int × Int × Int × Int) (H : Heap) (locs : List Loc) (pc : Nat) (ls : Array Slot), decode b_Ru_twiceReaches pc = .ok (.ireturn, 1) → (u.1 = false ∧ (u.1 = twZ up sd sc wh go o ∧ ((u.2.1 = pa ∧ u.2.2.1 = pb) ∨ (u.2.1 = pb ∧ u.2.2.1 = pa)))) → va_P D classes ([(r, .inr (1, [.int (iI (zB up)), .int (iI sd), .long (lI sc), .long (lI wh), .long (lI go), .ref u.2.1, .ref u.2.2.1])), (u.2.1, .inr (3, [.long (lI u.2.2.2.1), .long (lI u.2.2.2.2.1)])), (u.2.2.1, .inr (3, [.long (lI u.2.2.2.2.2.1), .long (lI u.2.2.2.2.2.2)]))]) H → va_D A ([(r, .inr (1, [.int (iI (zB up)), .int (iI sd), .long (lI sc), .long (lI wh), .long (lI go), .ref u.2.1, .ref u.2.2.1])), (u.2.1, .inr (3, [.long (lI u.2.2.2.1), .long (lI u.2.2.2.2.1)])), (u.2.2.1, .inr (3, [.long (lI u.2.2.2.2.2.1), .long (lI u.2.2.2.2.2.2)]))]) → va_S A zs.heap H locs → W zp l ze rm_Ru_twiceReaches zs zm [.ref r, .long (lI o)].toArray zb zt zc H locs 0 0 zQ (F0 zm pc ls [.int (iI 0)]) := fun u H locs pc ls d h hP hD hS => by have r := ret u H locs pc ls d h.2 hP hD hS; have hv := h.1; simp only [hv] at r; exact r
  refine lv_aload_n hC.1 hC.2.1 d_Ru_twiceReaches_0 rfl (lv_at hl 0 rfl) ?_
  refine z_get (ci := 1) (C := R_Ru) (T := F_Ru) (N := 7) (v := .int (iI (zB up))) hC in_Ru hK hP 0 rfl rfl 0 (by decide) k_54 rfl d_Ru_twiceReaches_1 ?_
  refine z_if_neB (tgt := 22) hC d_Ru_twiceReaches_4 (by decide) (fun h4 => ?_) (fun h4 => ?_)
  · refine lv_lload_n hC.1 hC.2.1 d_Ru_twiceReaches_22 rfl (lv_at hl 1 rfl) ?_
    refine z_lconst (v := 0) hC d_Ru_twiceReaches_23 (by decide) ?_
    refine z_lcmp_ge (tgt := 37) hC d_Ru_twiceReaches_24 d_Ru_twiceReaches_25 (by decide) (by omega) (by decide) (fun h24 => ?_) (fun h24 => ?_)
    · refine lv_lload_n hC.1 hC.2.1 d_Ru_twiceReaches_37 rfl (lv_at hl 1 rfl) ?_
      refine z_lconst (v := 0) hC d_Ru_twiceReaches_38 (by decide) ?_
      refine z_lcmp_le (tgt := 52) hC d_Ru_twiceReaches_39 d_Ru_twiceReaches_40 (by decide) (by omega) (by decide) (fun h39 => ?_) (fun h39 => ?_)
      · refine lv_aload_n hC.1 hC.2.1 d_Ru_twiceReaches_52 rfl (lv_at hl 0 rfl) ?_
        refine lv_lload_n hC.1 hC.2.1 d_Ru_twiceReaches_53 rfl (lv_at hl 1 rfl) ?_
        refine lv_lload_n hC.1 hC.2.1 d_Ru_twiceReaches_54 rfl (lv_at hl 1 rfl) ?_
        refine z_mVi (As := [.long (lI o), .long (lI o)]) (rest := []) (wr := []) hC (c_Ru_compareScaled l D t ts r pa pb up sd sc wh go h1 g1 h2 g2 (by omega) (by omega) (by omega) o o (by omega) (by omega) _) (cw_V hC k_413 k_415 kp_20 k_3 k_416 ye_Ru_compareScaled (by decide)) hP hD hK hE hS hA [0, 1, 2] [] (by decide) rfl rfl (by decide) (by decide) 0 (ci := 1) rfl rfl rfl rfl hl.1 rfl (Nat.le_of_ble_eq_true rfl) ⟨Nat.le_of_ble_eq_true rfl, Nat.le_of_ble_eq_true rfl⟩ d_Ru_twiceReaches_55 (fun u1 H locs eu1 hP hD hS => ?_)
        obtain ⟨u1r, u1a, u1b, u11, u12, u13, u14⟩ := u1
        obtain ⟨eu1r, eu1x⟩ := eu1
        dsimp only at eu1r eu1x hP hD ⊢
        have hP : va_P D classes [(r, .inr (1, [.int (iI (zB up)), .int (iI sd), .long (lI sc), .long (lI wh), .long (lI go), .ref u1a, .ref u1b])), (u1a, .inr (3, [.long (lI u11), .long (lI u12)])), (u1b, .inr (3, [.long (lI u13), .long (lI u14)]))] H := hP
        have hD : va_D A [(r, .inr (1, [.int (iI (zB up)), .int (iI sd), .long (lI sc), .long (lI wh), .long (lI go), .ref u1a, .ref u1b])), (u1a, .inr (3, [.long (lI u11), .long (lI u12)])), (u1b, .inr (3, [.long (lI u13), .long (lI u14)]))] := hD
        have hg : -1 ≤ u1r ∧ u1r ≤ 1 := by rw [eu1r]; exact gsN_in _ _ _
        refine lv_istore_n (lv' := [(3, .int (iI u1r)), (0, .ref r), (1, .long (lI o))]) hC.1 hC.2.1 d_Ru_twiceReaches_58 rfl hl (by decide) rfl (fun ls hl => ?_)
        refine lv_lload_n hC.1 hC.2.1 d_Ru_twiceReaches_59 rfl (lv_at hl 2 rfl) ?_
        refine z_lconst (v := 0) hC d_Ru_twiceReaches_60 (by decide) ?_
        refine z_lcmp_le (tgt := 77) hC d_Ru_twiceReaches_61 d_Ru_twiceReaches_62 (by decide) (by omega) (by decide) (fun h61 => ?_) (fun h61 => ?_)
        · refine lv_iload_n hC.1 hC.2.1 d_Ru_twiceReaches_77 rfl (lv_at hl 0 rfl) ?_
          refine z_if_gt (tgt := 85) hC d_Ru_twiceReaches_78 (by decide) (by omega) (fun h78 => ?_) (fun h78 => ?_)
          · refine z_iconst hC d_Ru_twiceReaches_85 ?_
            have hP9 := hP.sub (ws' := [(r, .inr (1, [.int (iI (zB up)), .int (iI sd), .long (lI sc), .long (lI wh), .long (lI go), .ref u1a, .ref u1b])), (u1a, .inr (3, [.long (lI u11), .long (lI u12)])), (u1b, .inr (3, [.long (lI u13), .long (lI u14)]))]) [0, 1, 2] rfl
            have hD9 := hD.sub (ws' := [(r, .inr (1, [.int (iI (zB up)), .int (iI sd), .long (lI sc), .long (lI wh), .long (lI go), .ref u1a, .ref u1b])), (u1a, .inr (3, [.long (lI u11), .long (lI u12)])), (u1b, .inr (3, [.long (lI u13), .long (lI u14)]))]) [0, 1, 2] (by decide) rfl
            exact ret0 (false, u1a, u1b, u11, u12, u13, u14) _ _ 86 _ d_Ru_twiceReaches_86 ⟨rfl, (by show false = _; symm; exact (by unfold twZ; rw [if_neg (by rw [h4]; decide), if_neg (by omega), if_neg (by omega), if_neg (by omega), ← eu1r]; simp; omega)), eu1x⟩ hP9 hD9 hS
          · refine z_iconst hC d_Ru_twiceReaches_81 ?_
            refine z_goto (tgt := 86) hC d_Ru_twiceReaches_82 (by decide) ?_
            have hP9 := hP.sub (ws' := [(r, .inr (1, [.int (iI (zB up)), .int (iI sd), .long (lI sc), .long (lI wh), .long (lI go), .ref u1a, .ref u1b])), (u1a, .inr (3, [.long (lI u11), .long (lI u12)])), (u1b, .inr (3, [.long (lI u13), .long (lI u14)]))]) [0, 1, 2] rfl
            have hD9 := hD.sub (ws' := [(r, .inr (1, [.int (iI (zB up)), .int (iI sd), .long (lI sc), .long (lI wh), .long (lI go), .ref u1a, .ref u1b])), (u1a, .inr (3, [.long (lI u11), .long (lI u12)])), (u1b, .inr (3, [.long (lI u13), .long (lI u14)]))]) [0, 1, 2] (by decide) rfl
            exact ret1 (true, u1a, u1b, u11, u12, u13, u14) _ _ 86 _ d_Ru_twiceReaches_86 ⟨rfl, (by show true = _; symm; exact (by unfold twZ; rw [if_neg (by rw [h4]; decide), if_neg (by omega), if_neg (by omega), if_neg (by omega), ← eu1r]; simp; omega)), eu1x⟩ hP9 hD9 hS
        · refine lv_iload_n hC.1 hC.2.1 d_Ru_twiceReaches_65 rfl (lv_at hl 0 rfl) ?_
          refine z_if_lt (tgt := 73) hC d_Ru_twiceReaches_66 (by decide) (by omega) (fun h66 => ?_) (fun h66 => ?_)
          · refine z_iconst hC d_Ru_twiceReaches_73 ?_
            refine z_goto (tgt := 86) hC d_Ru_twiceReaches_74 (by decide) ?_
            have hP9 := hP.sub (ws' := [(r, .inr (1, [.int (iI (zB up)), .int (iI sd), .long (lI sc), .long (lI wh), .long (lI go), .ref u1a, .ref u1b])), (u1a, .inr (3, [.long (lI u11), .long (lI u12)])), (u1b, .inr (3, [.long (lI u13), .long (lI u14)]))]) [0, 1, 2] rfl
            have hD9 := hD.sub (ws' := [(r, .inr (1, [.int (iI (zB up)), .int (iI sd), .long (lI sc), .long (lI wh), .long (lI go), .ref u1a, .ref u1b])), (u1a, .inr (3, [.long (lI u11), .long (lI u12)])), (u1b, .inr (3, [.long (lI u13), .long (lI u14)]))]) [0, 1, 2] (by decide) rfl
            exact ret0 (false, u1a, u1b, u11, u12, u13, u14) _ _ 86 _ d_Ru_twiceReaches_86 ⟨rfl, (by show false = _; symm; exact (by unfold twZ; rw [if_neg (by rw [h4]; decide), if_neg (by omega), if_neg (by omega), if_pos (by omega), ← eu1r]; simp; omega)), eu1x⟩ hP9 hD9 hS
          · refine z_iconst hC d_Ru_twiceReaches_69 ?_
            refine z_goto (tgt := 86) hC d_Ru_twiceReaches_70 (by decide) ?_
            have hP9 := hP.sub (ws' := [(r, .inr (1, [.int (iI (zB up)), .int (iI sd), .long (lI sc), .long (lI wh), .long (lI go), .ref u1a, .ref u1b])), (u1a, .inr (3, [.long (lI u11), .long (lI u12)])), (u1b, .inr (3, [.long (lI u13), .long (lI u14)]))]) [0, 1, 2] rfl
            have hD9 := hD.sub (ws' := [(r, .inr (1, [.int (iI (zB up)), .int (iI sd), .long (lI sc), .long (lI wh), .long (lI go), .ref u1a, .ref u1b])), (u1a, .inr (3, [.long (lI u11), .long (lI u12)])), (u1b, .inr (3, [.long (lI u13), .long (lI u14)]))]) [0, 1, 2] (by decide) rfl
            exact ret1 (true, u1a, u1b, u11, u12, u13, u14) _ _ 86 _ d_Ru_twiceReaches_86 ⟨rfl, (by show true = _; symm; exact (by unfold twZ; rw [if_neg (by rw [h4]; decide), if_neg (by omega), if_neg (by omega), if_pos (by omega), ← eu1r]; simp; omega)), eu1x⟩ hP9 hD9 hS
      · refine lv_aload_n hC.1 hC.2.1 d_Ru_twiceReaches_43 rfl (lv_at hl 0 rfl) ?_
        refine z_get (ci := 1) (C := R_Ru) (T := F_Ru) (N := 7) (v := .int (iI sd)) hC in_Ru hK hP 0 rfl rfl 1 (by decide) k_55 rfl d_Ru_twiceReaches_44 ?_
        refine z_if_gt (tgt := 52) hC d_Ru_twiceReaches_47 (by decide) (by omega) (fun h47 => ?_) (fun h47 => ?_)
        · refine lv_aload_n hC.1 hC.2.1 d_Ru_twiceReaches_52 rfl (lv_at hl 0 rfl) ?_
          refine lv_lload_n hC.1 hC.2.1 d_Ru_twiceReaches_53 rfl (lv_at hl 1 rfl) ?_
          refine lv_lload_n hC.1 hC.2.1 d_Ru_twiceReaches_54 rfl (lv_at hl 1 rfl) ?_
          refine z_mVi (As := [.long (lI o), .long (lI o)]) (rest := []) (wr := []) hC (c_Ru_compareScaled l D t ts r pa pb up sd sc wh go h1 g1 h2 g2 (by omega) (by omega) (by omega) o o (by omega) (by omega) _) (cw_V hC k_413 k_415 kp_20 k_3 k_416 ye_Ru_compareScaled (by decide)) hP hD hK hE hS hA [0, 1, 2] [] (by decide) rfl rfl (by decide) (by decide) 0 (ci := 1) rfl rfl rfl rfl hl.1 rfl (Nat.le_of_ble_eq_true rfl) ⟨Nat.le_of_ble_eq_true rfl, Nat.le_of_ble_eq_true rfl⟩ d_Ru_twiceReaches_55 (fun u2 H locs eu2 hP hD hS => ?_)
          obtain ⟨u2r, u2a, u2b, u21, u22, u23, u24⟩ := u2
          obtain ⟨eu2r, eu2x⟩ := eu2
          dsimp only at eu2r eu2x hP hD ⊢
          have hP : va_P D classes [(r, .inr (1, [.int (iI (zB up)), .int (iI sd), .long (lI sc), .long (lI wh), .long (lI go), .ref u2a, .ref u2b])), (u2a, .inr (3, [.long (lI u21), .long (lI u22)])), (u2b, .inr (3, [.long (lI u23), .long (lI u24)]))] H := hP
          have hD : va_D A [(r, .inr (1, [.int (iI (zB up)), .int (iI sd), .long (lI sc), .long (lI wh), .long (lI go), .ref u2a, .ref u2b])), (u2a, .inr (3, [.long (lI u21), .long (lI u22)])), (u2b, .inr (3, [.long (lI u23), .long (lI u24)]))] := hD
          have hg : -1 ≤ u2r ∧ u2r ≤ 1 := by rw [eu2r]; exact gsN_in _ _ _
          refine lv_istore_n (lv' := [(3, .int (iI u2r)), (0, .ref r), (1, .long (lI o))]) hC.1 hC.2.1 d_Ru_twiceReaches_58 rfl hl (by decide) rfl (fun ls hl => ?_)
          refine lv_lload_n hC.1 hC.2.1 d_Ru_twiceReaches_59 rfl (lv_at hl 2 rfl) ?_
          refine z_lconst (v := 0) hC d_Ru_twiceReaches_60 (by decide) ?_
          refine z_lcmp_le (tgt := 77) hC d_Ru_twiceReaches_61 d_Ru_twiceReaches_62 (by decide) (by omega) (by decide) (fun h61 => ?_) (fun h61 => ?_)
          · refine lv_iload_n hC.1 hC.2.1 d_Ru_twiceReaches_77 rfl (lv_at hl 0 rfl) ?_
            refine z_if_gt (tgt := 85) hC d_Ru_twiceReaches_78 (by decide) (by omega) (fun h78 => ?_) (fun h78 => ?_)
            · refine z_iconst hC d_Ru_twiceReaches_85 ?_
              have hP9 := hP.sub (ws' := [(r, .inr (1, [.int (iI (zB up)), .int (iI sd), .long (lI sc), .long (lI wh), .long (lI go), .ref u2a, .ref u2b])), (u2a, .inr (3, [.long (lI u21), .long (lI u22)])), (u2b, .inr (3, [.long (lI u23), .long (lI u24)]))]) [0, 1, 2] rfl
              have hD9 := hD.sub (ws' := [(r, .inr (1, [.int (iI (zB up)), .int (iI sd), .long (lI sc), .long (lI wh), .long (lI go), .ref u2a, .ref u2b])), (u2a, .inr (3, [.long (lI u21), .long (lI u22)])), (u2b, .inr (3, [.long (lI u23), .long (lI u24)]))]) [0, 1, 2] (by decide) rfl
              exact ret0 (false, u2a, u2b, u21, u22, u23, u24) _ _ 86 _ d_Ru_twiceReaches_86 ⟨rfl, (by show false = _; symm; exact (by unfold twZ; rw [if_neg (by rw [h4]; decide), if_neg (by omega), if_neg (by omega), if_neg (by omega), ← eu2r]; simp; omega)), eu2x⟩ hP9 hD9 hS
            · refine z_iconst hC d_Ru_twiceReaches_81 ?_
              refine z_goto (tgt := 86) hC d_Ru_twiceReaches_82 (by decide) ?_
              have hP9 := hP.sub (ws' := [(r, .inr (1, [.int (iI (zB up)), .int (iI sd), .long (lI sc), .long (lI wh), .long (lI go), .ref u2a, .ref u2b])), (u2a, .inr (3, [.long (lI u21), .long (lI u22)])), (u2b, .inr (3, [.long (lI u23), .long (lI u24)]))]) [0, 1, 2] rfl
              have hD9 := hD.sub (ws' := [(r, .inr (1, [.int (iI (zB up)), .int (iI sd), .long (lI sc), .long (lI wh), .long (lI go), .ref u2a, .ref u2b])), (u2a, .inr (3, [.long (lI u21), .long (lI u22)])), (u2b, .inr (3, [.long (lI u23), .long (lI u24)]))]) [0, 1, 2] (by decide) rfl
              exact ret1 (true, u2a, u2b, u21, u22, u23, u24) _ _ 86 _ d_Ru_twiceReaches_86 ⟨rfl, (by show true = _; symm; exact (by unfold twZ; rw [if_neg (by rw [h4]; decide), if_neg (by omega), if_neg (by omega), if_neg (by omega), ← eu2r]; simp; omega)), eu2x⟩ hP9 hD9 hS
          · refine lv_iload_n hC.1 hC.2.1 d_Ru_twiceReaches_65 rfl (lv_at hl 0 rfl) ?_
            refine z_if_lt (tgt := 73) hC d_Ru_twiceReaches_66 (by decide) (by omega) (fun h66 => ?_) (fun h66 => ?_)
            · refine z_iconst hC d_Ru_twiceReaches_73 ?_
              refine z_goto (tgt := 86) hC d_Ru_twiceReaches_74 (by decide) ?_
              have hP9 := hP.sub (ws' := [(r, .inr (1, [.int (iI (zB up)), .int (iI sd), .long (lI sc), .long (lI wh), .long (lI go), .ref u2a, .ref u2b])), (u2a, .inr (3, [.long (lI u21), .long (lI u22)])), (u2b, .inr (3, [.long (lI u23), .long (lI u24)]))]) [0, 1, 2] rfl
              have hD9 := hD.sub (ws' := [(r, .inr (1, [.int (iI (zB up)), .int (iI sd), .long (lI sc), .long (lI wh), .long (lI go), .ref u2a, .ref u2b])), (u2a, .inr (3, [.long (lI u21), .long (lI u22)])), (u2b, .inr (3, [.long (lI u23), .long (lI u24)]))]) [0, 1, 2] (by decide) rfl
              exact ret0 (false, u2a, u2b, u21, u22, u23, u24) _ _ 86 _ d_Ru_twiceReaches_86 ⟨rfl, (by show false = _; symm; exact (by unfold twZ; rw [if_neg (by rw [h4]; decide), if_neg (by omega), if_neg (by omega), if_pos (by omega), ← eu2r]; simp; omega)), eu2x⟩ hP9 hD9 hS
            · refine z_iconst hC d_Ru_twiceReaches_69 ?_
              refine z_goto (tgt := 86) hC d_Ru_twiceReaches_70 (by decide) ?_
              have hP9 := hP.sub (ws' := [(r, .inr (1, [.int (iI (zB up)), .int (iI sd), .long (lI sc), .long (lI wh), .long (lI go), .ref u2a, .ref u2b])), (u2a, .inr (3, [.long (lI u21), .long (lI u22)])), (u2b, .inr (3, [.long (lI u23), .long (lI u24)]))]) [0, 1, 2] rfl
              have hD9 := hD.sub (ws' := [(r, .inr (1, [.int (iI (zB up)), .int (iI sd), .long (lI sc), .long (lI wh), .long (lI go), .ref u2a, .ref u2b])), (u2a, .inr (3, [.long (lI u21), .long (lI u22)])), (u2b, .inr (3, [.long (lI u23), .long (lI u24)]))]) [0, 1, 2] (by decide) rfl
              exact ret1 (true, u2a, u2b, u21, u22, u23, u24) _ _ 86 _ d_Ru_twiceReaches_86 ⟨rfl, (by show true = _; symm; exact (by unfold twZ; rw [if_neg (by rw [h4]; decide), if_neg (by omega), if_neg (by omega), if_pos (by omega), ← eu2r]; simp; omega)), eu2x⟩ hP9 hD9 hS
        · refine z_iconst hC d_Ru_twiceReaches_50 ?_
          have hP9 := hP.sub (ws' := [(r, .inr (1, [.int (iI (zB up)), .int (iI sd), .long (lI sc), .long (lI wh), .long (lI go), .ref pa, .ref pb])), (pa, .inr (3, [.long (lI h1), .long (lI g1)])), (pb, .inr (3, [.long (lI h2), .long (lI g2)]))]) [0, 1, 2] rfl
          have hD9 := hD.sub (ws' := [(r, .inr (1, [.int (iI (zB up)), .int (iI sd), .long (lI sc), .long (lI wh), .long (lI go), .ref pa, .ref pb])), (pa, .inr (3, [.long (lI h1), .long (lI g1)])), (pb, .inr (3, [.long (lI h2), .long (lI g2)]))]) [0, 1, 2] (by decide) rfl
          exact ret0 (false, pa, pb, h1, g1, h2, g2) _ _ 51 _ d_Ru_twiceReaches_51 ⟨rfl, (by show false = _; symm; exact (by unfold twZ; rw [if_neg (by rw [h4]; decide), if_neg (by omega), if_pos (by omega)])), Or.inl ⟨rfl, rfl⟩⟩ hP9 hD9 hS
    · refine lv_aload_n hC.1 hC.2.1 d_Ru_twiceReaches_28 rfl (lv_at hl 0 rfl) ?_
      refine z_get (ci := 1) (C := R_Ru) (T := F_Ru) (N := 7) (v := .int (iI sd)) hC in_Ru hK hP 0 rfl rfl 1 (by decide) k_55 rfl d_Ru_twiceReaches_29 ?_
      refine z_if_lt (tgt := 37) hC d_Ru_twiceReaches_32 (by decide) (by omega) (fun h32 => ?_) (fun h32 => ?_)
      · refine lv_lload_n hC.1 hC.2.1 d_Ru_twiceReaches_37 rfl (lv_at hl 1 rfl) ?_
        refine z_lconst (v := 0) hC d_Ru_twiceReaches_38 (by decide) ?_
        refine z_lcmp_le (tgt := 52) hC d_Ru_twiceReaches_39 d_Ru_twiceReaches_40 (by decide) (by omega) (by decide) (fun h39 => ?_) (fun h39 => ?_)
        · refine lv_aload_n hC.1 hC.2.1 d_Ru_twiceReaches_52 rfl (lv_at hl 0 rfl) ?_
          refine lv_lload_n hC.1 hC.2.1 d_Ru_twiceReaches_53 rfl (lv_at hl 1 rfl) ?_
          refine lv_lload_n hC.1 hC.2.1 d_Ru_twiceReaches_54 rfl (lv_at hl 1 rfl) ?_
          refine z_mVi (As := [.long (lI o), .long (lI o)]) (rest := []) (wr := []) hC (c_Ru_compareScaled l D t ts r pa pb up sd sc wh go h1 g1 h2 g2 (by omega) (by omega) (by omega) o o (by omega) (by omega) _) (cw_V hC k_413 k_415 kp_20 k_3 k_416 ye_Ru_compareScaled (by decide)) hP hD hK hE hS hA [0, 1, 2] [] (by decide) rfl rfl (by decide) (by decide) 0 (ci := 1) rfl rfl rfl rfl hl.1 rfl (Nat.le_of_ble_eq_true rfl) ⟨Nat.le_of_ble_eq_true rfl, Nat.le_of_ble_eq_true rfl⟩ d_Ru_twiceReaches_55 (fun u3 H locs eu3 hP hD hS => ?_)
          obtain ⟨u3r, u3a, u3b, u31, u32, u33, u34⟩ := u3
          obtain ⟨eu3r, eu3x⟩ := eu3
          dsimp only at eu3r eu3x hP hD ⊢
          have hP : va_P D classes [(r, .inr (1, [.int (iI (zB up)), .int (iI sd), .long (lI sc), .long (lI wh), .long (lI go), .ref u3a, .ref u3b])), (u3a, .inr (3, [.long (lI u31), .long (lI u32)])), (u3b, .inr (3, [.long (lI u33), .long (lI u34)]))] H := hP
          have hD : va_D A [(r, .inr (1, [.int (iI (zB up)), .int (iI sd), .long (lI sc), .long (lI wh), .long (lI go), .ref u3a, .ref u3b])), (u3a, .inr (3, [.long (lI u31), .long (lI u32)])), (u3b, .inr (3, [.long (lI u33), .long (lI u34)]))] := hD
          have hg : -1 ≤ u3r ∧ u3r ≤ 1 := by rw [eu3r]; exact gsN_in _ _ _
          refine lv_istore_n (lv' := [(3, .int (iI u3r)), (0, .ref r), (1, .long (lI o))]) hC.1 hC.2.1 d_Ru_twiceReaches_58 rfl hl (by decide) rfl (fun ls hl => ?_)
          refine lv_lload_n hC.1 hC.2.1 d_Ru_twiceReaches_59 rfl (lv_at hl 2 rfl) ?_
          refine z_lconst (v := 0) hC d_Ru_twiceReaches_60 (by decide) ?_
          refine z_lcmp_le (tgt := 77) hC d_Ru_twiceReaches_61 d_Ru_twiceReaches_62 (by decide) (by omega) (by decide) (fun h61 => ?_) (fun h61 => ?_)
          · refine lv_iload_n hC.1 hC.2.1 d_Ru_twiceReaches_77 rfl (lv_at hl 0 rfl) ?_
            refine z_if_gt (tgt := 85) hC d_Ru_twiceReaches_78 (by decide) (by omega) (fun h78 => ?_) (fun h78 => ?_)
            · refine z_iconst hC d_Ru_twiceReaches_85 ?_
              have hP9 := hP.sub (ws' := [(r, .inr (1, [.int (iI (zB up)), .int (iI sd), .long (lI sc), .long (lI wh), .long (lI go), .ref u3a, .ref u3b])), (u3a, .inr (3, [.long (lI u31), .long (lI u32)])), (u3b, .inr (3, [.long (lI u33), .long (lI u34)]))]) [0, 1, 2] rfl
              have hD9 := hD.sub (ws' := [(r, .inr (1, [.int (iI (zB up)), .int (iI sd), .long (lI sc), .long (lI wh), .long (lI go), .ref u3a, .ref u3b])), (u3a, .inr (3, [.long (lI u31), .long (lI u32)])), (u3b, .inr (3, [.long (lI u33), .long (lI u34)]))]) [0, 1, 2] (by decide) rfl
              exact ret0 (false, u3a, u3b, u31, u32, u33, u34) _ _ 86 _ d_Ru_twiceReaches_86 ⟨rfl, (by show false = _; symm; exact (by unfold twZ; rw [if_neg (by rw [h4]; decide), if_neg (by omega), if_neg (by omega), if_neg (by omega), ← eu3r]; simp; omega)), eu3x⟩ hP9 hD9 hS
            · refine z_iconst hC d_Ru_twiceReaches_81 ?_
              refine z_goto (tgt := 86) hC d_Ru_twiceReaches_82 (by decide) ?_
              have hP9 := hP.sub (ws' := [(r, .inr (1, [.int (iI (zB up)), .int (iI sd), .long (lI sc), .long (lI wh), .long (lI go), .ref u3a, .ref u3b])), (u3a, .inr (3, [.long (lI u31), .long (lI u32)])), (u3b, .inr (3, [.long (lI u33), .long (lI u34)]))]) [0, 1, 2] rfl
              have hD9 := hD.sub (ws' := [(r, .inr (1, [.int (iI (zB up)), .int (iI sd), .long (lI sc), .long (lI wh), .long (lI go), .ref u3a, .ref u3b])), (u3a, .inr (3, [.long (lI u31), .long (lI u32)])), (u3b, .inr (3, [.long (lI u33), .long (lI u34)]))]) [0, 1, 2] (by decide) rfl
              exact ret1 (true, u3a, u3b, u31, u32, u33, u34) _ _ 86 _ d_Ru_twiceReaches_86 ⟨rfl, (by show true = _; symm; exact (by unfold twZ; rw [if_neg (by rw [h4]; decide), if_neg (by omega), if_neg (by omega), if_neg (by omega), ← eu3r]; simp; omega)), eu3x⟩ hP9 hD9 hS
          · refine lv_iload_n hC.1 hC.2.1 d_Ru_twiceReaches_65 rfl (lv_at hl 0 rfl) ?_
            refine z_if_lt (tgt := 73) hC d_Ru_twiceReaches_66 (by decide) (by omega) (fun h66 => ?_) (fun h66 => ?_)
            · refine z_iconst hC d_Ru_twiceReaches_73 ?_
              refine z_goto (tgt := 86) hC d_Ru_twiceReaches_74 (by decide) ?_
              have hP9 := hP.sub (ws' := [(r, .inr (1, [.int (iI (zB up)), .int (iI sd), .long (lI sc), .long (lI wh), .long (lI go), .ref u3a, .ref u3b])), (u3a, .inr (3, [.long (lI u31), .long (lI u32)])), (u3b, .inr (3, [.long (lI u33), .long (lI u34)]))]) [0, 1, 2] rfl
              have hD9 := hD.sub (ws' := [(r, .inr (1, [.int (iI (zB up)), .int (iI sd), .long (lI sc), .long (lI wh), .long (lI go), .ref u3a, .ref u3b])), (u3a, .inr (3, [.long (lI u31), .long (lI u32)])), (u3b, .inr (3, [.long (lI u33), .long (lI u34)]))]) [0, 1, 2] (by decide) rfl
              exact ret0 (false, u3a, u3b, u31, u32, u33, u34) _ _ 86 _ d_Ru_twiceReaches_86 ⟨rfl, (by show false = _; symm; exact (by unfold twZ; rw [if_neg (by rw [h4]; decide), if_neg (by omega), if_neg (by omega), if_pos (by omega), ← eu3r]; simp; omega)), eu3x⟩ hP9 hD9 hS
            · refine z_iconst hC d_Ru_twiceReaches_69 ?_
              refine z_goto (tgt := 86) hC d_Ru_twiceReaches_70 (by decide) ?_
              have hP9 := hP.sub (ws' := [(r, .inr (1, [.int (iI (zB up)), .int (iI sd), .long (lI sc), .long (lI wh), .long (lI go), .ref u3a, .ref u3b])), (u3a, .inr (3, [.long (lI u31), .long (lI u32)])), (u3b, .inr (3, [.long (lI u33), .long (lI u34)]))]) [0, 1, 2] rfl
              have hD9 := hD.sub (ws' := [(r, .inr (1, [.int (iI (zB up)), .int (iI sd), .long (lI sc), .long (lI wh), .long (lI go), .ref u3a, .ref u3b])), (u3a, .inr (3, [.long (lI u31), .long (lI u32)])), (u3b, .inr (3, [.long (lI u33), .long (lI u34)]))]) [0, 1, 2] (by decide) rfl
              exact ret1 (true, u3a, u3b, u31, u32, u33, u34) _ _ 86 _ d_Ru_twiceReaches_86 ⟨rfl, (by show true = _; symm; exact (by unfold twZ; rw [if_neg (by rw [h4]; decide), if_neg (by omega), if_neg (by omega), if_pos (by omega), ← eu3r]; simp; omega)), eu3x⟩ hP9 hD9 hS
        · refine lv_aload_n hC.1 hC.2.1 d_Ru_twiceReaches_43 rfl (lv_at hl 0 rfl) ?_
          refine z_get (ci := 1) (C := R_Ru) (T := F_Ru) (N := 7) (v := .int (iI sd)) hC in_Ru hK hP 0 rfl rfl 1 (by decide) k_55 rfl d_Ru_twiceReaches_44 ?_
          refine z_if_gt (tgt := 52) hC d_Ru_twiceReaches_47 (by decide) (by omega) (fun h47 => ?_) (fun h47 => ?_)
          · refine lv_aload_n hC.1 hC.2.1 d_Ru_twiceReaches_52 rfl (lv_at hl 0 rfl) ?_
            refine lv_lload_n hC.1 hC.2.1 d_Ru_twiceReaches_53 rfl (lv_at hl 1 rfl) ?_
            refine lv_lload_n hC.1 hC.2.1 d_Ru_twiceReaches_54 rfl (lv_at hl 1 rfl) ?_
            refine z_mVi (As := [.long (lI o), .long (lI o)]) (rest := []) (wr := []) hC (c_Ru_compareScaled l D t ts r pa pb up sd sc wh go h1 g1 h2 g2 (by omega) (by omega) (by omega) o o (by omega) (by omega) _) (cw_V hC k_413 k_415 kp_20 k_3 k_416 ye_Ru_compareScaled (by decide)) hP hD hK hE hS hA [0, 1, 2] [] (by decide) rfl rfl (by decide) (by decide) 0 (ci := 1) rfl rfl rfl rfl hl.1 rfl (Nat.le_of_ble_eq_true rfl) ⟨Nat.le_of_ble_eq_true rfl, Nat.le_of_ble_eq_true rfl⟩ d_Ru_twiceReaches_55 (fun u4 H locs eu4 hP hD hS => ?_)
            obtain ⟨u4r, u4a, u4b, u41, u42, u43, u44⟩ := u4
            obtain ⟨eu4r, eu4x⟩ := eu4
            dsimp only at eu4r eu4x hP hD ⊢
            have hP : va_P D classes [(r, .inr (1, [.int (iI (zB up)), .int (iI sd), .long (lI sc), .long (lI wh), .long (lI go), .ref u4a, .ref u4b])), (u4a, .inr (3, [.long (lI u41), .long (lI u42)])), (u4b, .inr (3, [.long (lI u43), .long (lI u44)]))] H := hP
            have hD : va_D A [(r, .inr (1, [.int (iI (zB up)), .int (iI sd), .long (lI sc), .long (lI wh), .long (lI go), .ref u4a, .ref u4b])), (u4a, .inr (3, [.long (lI u41), .long (lI u42)])), (u4b, .inr (3, [.long (lI u43), .long (lI u44)]))] := hD
            have hg : -1 ≤ u4r ∧ u4r ≤ 1 := by rw [eu4r]; exact gsN_in _ _ _
            refine lv_istore_n (lv' := [(3, .int (iI u4r)), (0, .ref r), (1, .long (lI o))]) hC.1 hC.2.1 d_Ru_twiceReaches_58 rfl hl (by decide) rfl (fun ls hl => ?_)
            refine lv_lload_n hC.1 hC.2.1 d_Ru_twiceReaches_59 rfl (lv_at hl 2 rfl) ?_
            refine z_lconst (v := 0) hC d_Ru_twiceReaches_60 (by decide) ?_
            refine z_lcmp_le (tgt := 77) hC d_Ru_twiceReaches_61 d_Ru_twiceReaches_62 (by decide) (by omega) (by decide) (fun h61 => ?_) (fun h61 => ?_)
            · refine lv_iload_n hC.1 hC.2.1 d_Ru_twiceReaches_77 rfl (lv_at hl 0 rfl) ?_
              refine z_if_gt (tgt := 85) hC d_Ru_twiceReaches_78 (by decide) (by omega) (fun h78 => ?_) (fun h78 => ?_)
              · refine z_iconst hC d_Ru_twiceReaches_85 ?_
                have hP9 := hP.sub (ws' := [(r, .inr (1, [.int (iI (zB up)), .int (iI sd), .long (lI sc), .long (lI wh), .long (lI go), .ref u4a, .ref u4b])), (u4a, .inr (3, [.long (lI u41), .long (lI u42)])), (u4b, .inr (3, [.long (lI u43), .long (lI u44)]))]) [0, 1, 2] rfl
                have hD9 := hD.sub (ws' := [(r, .inr (1, [.int (iI (zB up)), .int (iI sd), .long (lI sc), .long (lI wh), .long (lI go), .ref u4a, .ref u4b])), (u4a, .inr (3, [.long (lI u41), .long (lI u42)])), (u4b, .inr (3, [.long (lI u43), .long (lI u44)]))]) [0, 1, 2] (by decide) rfl
                exact ret0 (false, u4a, u4b, u41, u42, u43, u44) _ _ 86 _ d_Ru_twiceReaches_86 ⟨rfl, (by show false = _; symm; exact (by unfold twZ; rw [if_neg (by rw [h4]; decide), if_neg (by omega), if_neg (by omega), if_neg (by omega), ← eu4r]; simp; omega)), eu4x⟩ hP9 hD9 hS
              · refine z_iconst hC d_Ru_twiceReaches_81 ?_
                refine z_goto (tgt := 86) hC d_Ru_twiceReaches_82 (by decide) ?_
                have hP9 := hP.sub (ws' := [(r, .inr (1, [.int (iI (zB up)), .int (iI sd), .long (lI sc), .long (lI wh), .long (lI go), .ref u4a, .ref u4b])), (u4a, .inr (3, [.long (lI u41), .long (lI u42)])), (u4b, .inr (3, [.long (lI u43), .long (lI u44)]))]) [0, 1, 2] rfl
                have hD9 := hD.sub (ws' := [(r, .inr (1, [.int (iI (zB up)), .int (iI sd), .long (lI sc), .long (lI wh), .long (lI go), .ref u4a, .ref u4b])), (u4a, .inr (3, [.long (lI u41), .long (lI u42)])), (u4b, .inr (3, [.long (lI u43), .long (lI u44)]))]) [0, 1, 2] (by decide) rfl
                exact ret1 (true, u4a, u4b, u41, u42, u43, u44) _ _ 86 _ d_Ru_twiceReaches_86 ⟨rfl, (by show true = _; symm; exact (by unfold twZ; rw [if_neg (by rw [h4]; decide), if_neg (by omega), if_neg (by omega), if_neg (by omega), ← eu4r]; simp; omega)), eu4x⟩ hP9 hD9 hS
            · refine lv_iload_n hC.1 hC.2.1 d_Ru_twiceReaches_65 rfl (lv_at hl 0 rfl) ?_
              refine z_if_lt (tgt := 73) hC d_Ru_twiceReaches_66 (by decide) (by omega) (fun h66 => ?_) (fun h66 => ?_)
              · refine z_iconst hC d_Ru_twiceReaches_73 ?_
                refine z_goto (tgt := 86) hC d_Ru_twiceReaches_74 (by decide) ?_
                have hP9 := hP.sub (ws' := [(r, .inr (1, [.int (iI (zB up)), .int (iI sd), .long (lI sc), .long (lI wh), .long (lI go), .ref u4a, .ref u4b])), (u4a, .inr (3, [.long (lI u41), .long (lI u42)])), (u4b, .inr (3, [.long (lI u43), .long (lI u44)]))]) [0, 1, 2] rfl
                have hD9 := hD.sub (ws' := [(r, .inr (1, [.int (iI (zB up)), .int (iI sd), .long (lI sc), .long (lI wh), .long (lI go), .ref u4a, .ref u4b])), (u4a, .inr (3, [.long (lI u41), .long (lI u42)])), (u4b, .inr (3, [.long (lI u43), .long (lI u44)]))]) [0, 1, 2] (by decide) rfl
                exact ret0 (false, u4a, u4b, u41, u42, u43, u44) _ _ 86 _ d_Ru_twiceReaches_86 ⟨rfl, (by show false = _; symm; exact (by unfold twZ; rw [if_neg (by rw [h4]; decide), if_neg (by omega), if_neg (by omega), if_pos (by omega), ← eu4r]; simp; omega)), eu4x⟩ hP9 hD9 hS
              · refine z_iconst hC d_Ru_twiceReaches_69 ?_
                refine z_goto (tgt := 86) hC d_Ru_twiceReaches_70 (by decide) ?_
                have hP9 := hP.sub (ws' := [(r, .inr (1, [.int (iI (zB up)), .int (iI sd), .long (lI sc), .long (lI wh), .long (lI go), .ref u4a, .ref u4b])), (u4a, .inr (3, [.long (lI u41), .long (lI u42)])), (u4b, .inr (3, [.long (lI u43), .long (lI u44)]))]) [0, 1, 2] rfl
                have hD9 := hD.sub (ws' := [(r, .inr (1, [.int (iI (zB up)), .int (iI sd), .long (lI sc), .long (lI wh), .long (lI go), .ref u4a, .ref u4b])), (u4a, .inr (3, [.long (lI u41), .long (lI u42)])), (u4b, .inr (3, [.long (lI u43), .long (lI u44)]))]) [0, 1, 2] (by decide) rfl
                exact ret1 (true, u4a, u4b, u41, u42, u43, u44) _ _ 86 _ d_Ru_twiceReaches_86 ⟨rfl, (by show true = _; symm; exact (by unfold twZ; rw [if_neg (by rw [h4]; decide), if_neg (by omega), if_neg (by omega), if_pos (by omega), ← eu4r]; simp; omega)), eu4x⟩ hP9 hD9 hS
          · refine z_iconst hC d_Ru_twiceReaches_50 ?_
            have hP9 := hP.sub (ws' := [(r, .inr (1, [.int (iI (zB up)), .int (iI sd), .long (lI sc), .long (lI wh), .long (lI go), .ref pa, .ref pb])), (pa, .inr (3, [.long (lI h1), .long (lI g1)])), (pb, .inr (3, [.long (lI h2), .long (lI g2)]))]) [0, 1, 2] rfl
            have hD9 := hD.sub (ws' := [(r, .inr (1, [.int (iI (zB up)), .int (iI sd), .long (lI sc), .long (lI wh), .long (lI go), .ref pa, .ref pb])), (pa, .inr (3, [.long (lI h1), .long (lI g1)])), (pb, .inr (3, [.long (lI h2), .long (lI g2)]))]) [0, 1, 2] (by decide) rfl
            exact ret0 (false, pa, pb, h1, g1, h2, g2) _ _ 51 _ d_Ru_twiceReaches_51 ⟨rfl, (by show false = _; symm; exact (by unfold twZ; rw [if_neg (by rw [h4]; decide), if_neg (by omega), if_pos (by omega)])), Or.inl ⟨rfl, rfl⟩⟩ hP9 hD9 hS
      · refine z_iconst hC d_Ru_twiceReaches_35 ?_
        have hP9 := hP.sub (ws' := [(r, .inr (1, [.int (iI (zB up)), .int (iI sd), .long (lI sc), .long (lI wh), .long (lI go), .ref pa, .ref pb])), (pa, .inr (3, [.long (lI h1), .long (lI g1)])), (pb, .inr (3, [.long (lI h2), .long (lI g2)]))]) [0, 1, 2] rfl
        have hD9 := hD.sub (ws' := [(r, .inr (1, [.int (iI (zB up)), .int (iI sd), .long (lI sc), .long (lI wh), .long (lI go), .ref pa, .ref pb])), (pa, .inr (3, [.long (lI h1), .long (lI g1)])), (pb, .inr (3, [.long (lI h2), .long (lI g2)]))]) [0, 1, 2] (by decide) rfl
        exact ret1 (true, pa, pb, h1, g1, h2, g2) _ _ 36 _ d_Ru_twiceReaches_36 ⟨rfl, (by show true = _; symm; exact (by unfold twZ; rw [if_neg (by rw [h4]; decide), if_pos (by omega)])), Or.inl ⟨rfl, rfl⟩⟩ hP9 hD9 hS
  · refine lv_aload_n hC.1 hC.2.1 d_Ru_twiceReaches_7 rfl (lv_at hl 0 rfl) ?_
    refine z_lconst (v := 1) hC d_Ru_twiceReaches_8 (by decide) ?_
    refine lv_lload_n hC.1 hC.2.1 d_Ru_twiceReaches_9 rfl (lv_at hl 1 rfl) ?_
    refine z_mVi (As := [.long (lI 1), .long (lI o)]) (rest := []) (wr := []) hC (c_Ru_compareScaled l D t ts r pa pb up sd sc wh go h1 g1 h2 g2 (by omega) (by omega) (by omega) 1 o (by omega) (by omega) _) (cw_V hC k_413 k_415 kp_20 k_3 k_416 ye_Ru_compareScaled (by decide)) hP hD hK hE hS hA [0, 1, 2] [] (by decide) rfl rfl (by decide) (by decide) 0 (ci := 1) rfl rfl rfl rfl hl.1 rfl (Nat.le_of_ble_eq_true rfl) ⟨Nat.le_of_ble_eq_true rfl, Nat.le_of_ble_eq_true rfl⟩ d_Ru_twiceReaches_10 (fun u5 H locs eu5 hP hD hS => ?_)
    obtain ⟨u5r, u5a, u5b, u51, u52, u53, u54⟩ := u5
    obtain ⟨eu5r, eu5x⟩ := eu5
    dsimp only at eu5r eu5x hP hD ⊢
    have hP : va_P D classes [(r, .inr (1, [.int (iI (zB up)), .int (iI sd), .long (lI sc), .long (lI wh), .long (lI go), .ref u5a, .ref u5b])), (u5a, .inr (3, [.long (lI u51), .long (lI u52)])), (u5b, .inr (3, [.long (lI u53), .long (lI u54)]))] H := hP
    have hD : va_D A [(r, .inr (1, [.int (iI (zB up)), .int (iI sd), .long (lI sc), .long (lI wh), .long (lI go), .ref u5a, .ref u5b])), (u5a, .inr (3, [.long (lI u51), .long (lI u52)])), (u5b, .inr (3, [.long (lI u53), .long (lI u54)]))] := hD
    have hg : -1 ≤ u5r ∧ u5r ≤ 1 := by rw [eu5r]; exact gsN_in _ _ _
    refine z_if_lt (tgt := 20) hC d_Ru_twiceReaches_13 (by decide) (by omega) (fun h13 => ?_) (fun h13 => ?_)
    · refine z_iconst hC d_Ru_twiceReaches_20 ?_
      have hP9 := hP.sub (ws' := [(r, .inr (1, [.int (iI (zB up)), .int (iI sd), .long (lI sc), .long (lI wh), .long (lI go), .ref u5a, .ref u5b])), (u5a, .inr (3, [.long (lI u51), .long (lI u52)])), (u5b, .inr (3, [.long (lI u53), .long (lI u54)]))]) [0, 1, 2] rfl
      have hD9 := hD.sub (ws' := [(r, .inr (1, [.int (iI (zB up)), .int (iI sd), .long (lI sc), .long (lI wh), .long (lI go), .ref u5a, .ref u5b])), (u5a, .inr (3, [.long (lI u51), .long (lI u52)])), (u5b, .inr (3, [.long (lI u53), .long (lI u54)]))]) [0, 1, 2] (by decide) rfl
      exact ret0 (false, u5a, u5b, u51, u52, u53, u54) _ _ 21 _ d_Ru_twiceReaches_21 ⟨rfl, (by show false = _; symm; exact (by unfold twZ; rw [if_pos h4, ← eu5r]; simp; omega)), eu5x⟩ hP9 hD9 hS
    · refine z_iconst hC d_Ru_twiceReaches_16 ?_
      refine z_goto (tgt := 21) hC d_Ru_twiceReaches_17 (by decide) ?_
      have hP9 := hP.sub (ws' := [(r, .inr (1, [.int (iI (zB up)), .int (iI sd), .long (lI sc), .long (lI wh), .long (lI go), .ref u5a, .ref u5b])), (u5a, .inr (3, [.long (lI u51), .long (lI u52)])), (u5b, .inr (3, [.long (lI u53), .long (lI u54)]))]) [0, 1, 2] rfl
      have hD9 := hD.sub (ws' := [(r, .inr (1, [.int (iI (zB up)), .int (iI sd), .long (lI sc), .long (lI wh), .long (lI go), .ref u5a, .ref u5b])), (u5a, .inr (3, [.long (lI u51), .long (lI u52)])), (u5b, .inr (3, [.long (lI u53), .long (lI u54)]))]) [0, 1, 2] (by decide) rfl
      exact ret1 (true, u5a, u5b, u51, u52, u53, u54) _ _ 21 _ d_Ru_twiceReaches_21 ⟨rfl, (by show true = _; symm; exact (by unfold twZ; rw [if_pos h4, ← eu5r]; simp; omega)), eu5x⟩ hP9 hD9 hS
