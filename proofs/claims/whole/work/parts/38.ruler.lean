theorem ye_JL_signum : ye y_JL_signum R_JL 1 := by unfold ye; decide +kernel
abbrev rm_JL_signum : Room := { frames := 0, cells := 0, slots := 0, locals := 0 }
set_option maxHeartbeats 4000000 in
set_option maxRecDepth 100000 in
theorem c_JL_signum (l : Launch) (D : va_G) (t : vt) (ts : Nat → Nat) (x : Int) (hx : inL x) (hx2 : -9223372036854775808 < x) : Met l y_JL_signum (.code y_JL_signum b_JL_signum 2 (some .int) :: tb_ws) rm_JL_signum (RoP D t ts [.long (lI x)] []) (vp_Si (fun zr => zr = iI (sgn x))) 0 0 (fun _ => False) := by
  refine ro_i (by decide +kernel) (Nat.le_of_ble_eq_true rfl) ?_
  intro zp ze zs zm zb zt zc zQ ls hC hP hK hE hl ret
  have hl : lv_has ls 2 [(0, .long (lI x))] := hl
  refine lv_lload_n hC.1 hC.2.1 d_JL_signum_0 rfl (lv_at hl 0 rfl) ?_
  refine z_bipush hC d_JL_signum_1 (by decide) ?_
  refine lv_lshr hC.1 hC.2.1 d_JL_signum_3 rfl ?_
  refine lv_lload_n hC.1 hC.2.1 d_JL_signum_4 rfl (lv_at hl 0 rfl) ?_
  refine lv_lneg hC.1 hC.2.1 d_JL_signum_5 ?_
  refine z_bipush hC d_JL_signum_6 (by decide) ?_
  refine lv_lushr hC.1 hC.2.1 d_JL_signum_8 rfl ?_
  refine lv_lor hC.1 hC.2.1 d_JL_signum_9 ?_
  refine lv_l2i hC.1 hC.2.1 d_JL_signum_10 rfl ?_
  rw [l_sgn hx hx2]
  exact ret 11 _ d_JL_signum_11
theorem ye_JI_signum : ye y_JI_signum R_JI 1 := by unfold ye; decide +kernel
abbrev rm_JI_signum : Room := { frames := 0, cells := 0, slots := 0, locals := 0 }
set_option maxHeartbeats 4000000 in
set_option maxRecDepth 100000 in
theorem c_JI_signum (l : Launch) (D : va_G) (t : vt) (ts : Nat → Nat) (x : Int) (hx : -2 ≤ x ∧ x ≤ 2) : Met l y_JI_signum (.code y_JI_signum b_JI_signum 1 (some .int) :: tb_ws) rm_JI_signum (RoP D t ts [.int (iI x)] []) (vp_Si (fun zr => zr = iI (sgn x))) 0 0 (fun _ => False) := by
  refine ro_i (by decide +kernel) (Nat.le_of_ble_eq_true rfl) ?_
  intro zp ze zs zm zb zt zc zQ ls hC hP hK hE hl ret
  have hl : lv_has ls 1 [(0, .int (iI x))] := hl
  refine lv_iload_n hC.1 hC.2.1 d_JI_signum_0 rfl (lv_at hl 0 rfl) ?_
  refine z_bipush hC d_JI_signum_1 (by decide) ?_
  refine lv_ishr hC.1 hC.2.1 d_JI_signum_3 ?_
  refine lv_iload_n hC.1 hC.2.1 d_JI_signum_4 rfl (lv_at hl 0 rfl) ?_
  refine lv_ineg hC.1 hC.2.1 d_JI_signum_5 ?_
  refine z_bipush hC d_JI_signum_6 (by decide) ?_
  refine lv_iushr hC.1 hC.2.1 d_JI_signum_8 rfl ?_
  refine lv_ior hC.1 hC.2.1 d_JI_signum_9 ?_
  rw [i_sgn hx]
  exact ret 10 _ d_JI_signum_10
theorem ye_Wi_clear : ye y_Wi_clear R_Wi 0 := by unfold ye; decide +kernel
abbrev rm_Wi_clear : Room := { frames := 0, cells := 0, slots := 0, locals := 0 }
set_option maxHeartbeats 4000000 in
set_option maxRecDepth 100000 in
theorem c_Wi_clear (l : Launch) (D : va_G) (t : vt) (ts : Nat → Nat) (o : Nat) (h g : Int) (sz : Nat) : Met l y_Wi_clear (.code y_Wi_clear b_Wi_clear 1 none :: tb_ws) rm_Wi_clear (MP D t ts [.ref o] [(o, .inr (3, [.long (lI h), .long (lI g)]))] sz) (va_Qv (fun _ : Unit => True) (MB D (va_A [(o, .inr (3, [.long (lI h), .long (lI g)]))] sz) (fun _ : Unit => [(o, .inr (3, [.long (lI 0), .long (lI 0)]))])) (va_A [(o, .inr (3, [.long (lI h), .long (lI g)]))] sz)) 0 0 (va_A [(o, .inr (3, [.long (lI h), .long (lI g)]))] sz) := by
  refine m_v (by decide +kernel) (Nat.le_of_ble_eq_true rfl) ?_
  intro zp ze zs zm zb zt zc zQ A ls hC hA hP hK hD hE hS hl ret
  have hl : lv_has ls 1 [(0, .ref o)] := hl
  refine lv_aload_n hC.1 hC.2.1 d_Wi_clear_0 rfl (lv_at hl 0 rfl) ?_
  refine z_lconst (v := 0) hC d_Wi_clear_1 (by decide) ?_
  refine z_put (ci := 3) (C := R_Wi) (T := F_Wi) (N := 2) (v := .long (lI 0)) (ws' := [(o, .inr (3, [.long (lI 0), .long (lI g)]))]) hC in_Wi t_Wi t_Wi_ok n_Wi hK hP hD hS 0 rfl rfl 0 (by decide) k_47 rfl rfl rfl (Nat.le_of_ble_eq_true rfl) rfl d_Wi_clear_2 (fun H locs hP hD hS => ?_)
  refine lv_aload_n hC.1 hC.2.1 d_Wi_clear_5 rfl (lv_at hl 0 rfl) ?_
  refine z_lconst (v := 0) hC d_Wi_clear_6 (by decide) ?_
  refine z_put (ci := 3) (C := R_Wi) (T := F_Wi) (N := 2) (v := .long (lI 0)) (ws' := [(o, .inr (3, [.long (lI 0), .long (lI 0)]))]) hC in_Wi t_Wi t_Wi_ok n_Wi hK hP hD hS 0 rfl rfl 1 (by decide) k_48 rfl rfl rfl (Nat.le_of_ble_eq_true rfl) rfl d_Wi_clear_7 (fun H locs hP hD hS => ?_)
  have hP9 := hP.sub (ws' := [(o, .inr (3, [.long (lI 0), .long (lI 0)]))]) [0] rfl
  have hD9 := hD.sub (ws' := [(o, .inr (3, [.long (lI 0), .long (lI 0)]))]) [0] (by decide) rfl
  exact ret () _ _ 10 _ d_Wi_clear_10 trivial hP9 hD9 hS
theorem ye_Wi_addParts : ye y_Wi_addParts R_Wi 2 := by unfold ye; decide +kernel
abbrev rm_Wi_addParts : Room := { frames := 0, cells := 0, slots := 0, locals := 0 }
set_option maxHeartbeats 4000000 in
set_option maxRecDepth 100000 in
theorem c_Wi_addParts (l : Launch) (D : va_G) (t : vt) (ts : Nat → Nat) (o : Nat) (h g a b h2 g2 : Int) (hg : 0 ≤ g ∧ g < 4503599627370496) (hb : 0 ≤ b ∧ b < 4611686018427387904) (e1 : h2 = h + a + (g + b) / 4503599627370496) (e2 : g2 = (g + b) % 4503599627370496) (sz : Nat) : Met l y_Wi_addParts (.code y_Wi_addParts b_Wi_addParts 7 none :: tb_ws) rm_Wi_addParts (MP D t ts [.ref o, .long (lI a), .long (lI b)] [(o, .inr (3, [.long (lI h), .long (lI g)]))] sz) (va_Qv (fun _ : Unit => True) (MB D (va_A [(o, .inr (3, [.long (lI h), .long (lI g)]))] sz) (fun _ : Unit => [(o, .inr (3, [.long (lI h2), .long (lI g2)]))])) (va_A [(o, .inr (3, [.long (lI h), .long (lI g)]))] sz)) 0 0 (va_A [(o, .inr (3, [.long (lI h), .long (lI g)]))] sz) := by
  refine m_v (by decide +kernel) (Nat.le_of_ble_eq_true rfl) ?_
  intro zp ze zs zm zb zt zc zQ A ls hC hA hP hK hD hE hS hl ret
  have hl : lv_has ls 7 [(0, .ref o), (1, .long (lI a)), (3, .long (lI b))] := hl
  refine lv_aload_n hC.1 hC.2.1 d_Wi_addParts_0 rfl (lv_at hl 0 rfl) ?_
  refine z_get (ci := 3) (C := R_Wi) (T := F_Wi) (N := 2) (v := .long (lI g)) hC in_Wi hK hP 0 rfl rfl 1 (by decide) k_48 rfl d_Wi_addParts_1 ?_
  refine lv_lload_n hC.1 hC.2.1 d_Wi_addParts_4 rfl (lv_at hl 2 rfl) ?_
  refine z_ladd hC d_Wi_addParts_5 ?_
  refine z_topl (z := b + g) (by omega) ?_
  refine lv_lstore (lv' := [(5, .long (lI (b + g))), (0, .ref o), (1, .long (lI a)), (3, .long (lI b))]) hC.1 hC.2.1 d_Wi_addParts_6 hl (by decide) rfl (fun ls hl => ?_)
  refine lv_aload_n hC.1 hC.2.1 d_Wi_addParts_8 rfl (lv_at hl 1 rfl) ?_
  refine lv_dup hC.1 hC.2.1 d_Wi_addParts_9 rfl ?_
  refine z_get (ci := 3) (C := R_Wi) (T := F_Wi) (N := 2) (v := .long (lI h)) hC in_Wi hK hP 0 rfl rfl 0 (by decide) k_47 rfl d_Wi_addParts_10 ?_
  refine lv_lload_n hC.1 hC.2.1 d_Wi_addParts_13 rfl (lv_at hl 2 rfl) ?_
  refine lv_lload hC.1 hC.2.1 d_Wi_addParts_14 (lv_at hl 0 rfl) ?_
  refine z_bipush hC d_Wi_addParts_16 (by decide) ?_
  refine z_lshr (z := ((b + g) / 4503599627370496)) hC (l_shr52 (by omega)) d_Wi_addParts_18 ?_
  refine z_ladd hC d_Wi_addParts_19 ?_
  refine z_topl (z := ((b + g) / 4503599627370496) + a) (by omega) ?_
  refine z_ladd hC d_Wi_addParts_20 ?_
  refine z_topl (z := ((b + g) / 4503599627370496) + a + h) (by omega) ?_
  refine z_topl (z := h2) (by omega) ?_
  refine z_put (ci := 3) (C := R_Wi) (T := F_Wi) (N := 2) (v := .long (lI h2)) (ws' := [(o, .inr (3, [.long (lI h2), .long (lI g)]))]) hC in_Wi t_Wi t_Wi_ok n_Wi hK hP hD hS 0 rfl rfl 0 (by decide) k_47 rfl rfl rfl (Nat.le_of_ble_eq_true rfl) rfl d_Wi_addParts_21 (fun H locs hP hD hS => ?_)
  refine lv_aload_n hC.1 hC.2.1 d_Wi_addParts_24 rfl (lv_at hl 1 rfl) ?_
  refine lv_lload hC.1 hC.2.1 d_Wi_addParts_25 (lv_at hl 0 rfl) ?_
  refine z_ldc2 hC k_430 d_Wi_addParts_27 ?_
  refine z_land (z := ((b + g) % 4503599627370496)) hC (l_mask52 _) d_Wi_addParts_30 ?_
  refine z_topl (z := g2) (by omega) ?_
  refine z_put (ci := 3) (C := R_Wi) (T := F_Wi) (N := 2) (v := .long (lI g2)) (ws' := [(o, .inr (3, [.long (lI h2), .long (lI g2)]))]) hC in_Wi t_Wi t_Wi_ok n_Wi hK hP hD hS 0 rfl rfl 1 (by decide) k_48 rfl rfl rfl (Nat.le_of_ble_eq_true rfl) rfl d_Wi_addParts_31 (fun H locs hP hD hS => ?_)
  have hP9 := hP.sub (ws' := [(o, .inr (3, [.long (lI h2), .long (lI g2)]))]) [0] rfl
  have hD9 := hD.sub (ws' := [(o, .inr (3, [.long (lI h2), .long (lI g2)]))]) [0] (by decide) rfl
  exact ret () _ _ 34 _ d_Wi_addParts_34 trivial hP9 hD9 hS
theorem ye_Wi_add : ye y_Wi_add R_Wi 1 := by unfold ye; decide +kernel
abbrev rm_Wi_add : Room := { frames := 1, cells := 0, slots := 0, locals := 26 }
set_option maxHeartbeats 4000000 in
set_option maxRecDepth 100000 in
theorem c_Wi_add (l : Launch) (D : va_G) (t : vt) (ts : Nat → Nat) (o o2 : Nat) (v w r : Int) (hr : r = v + w) (sz : Nat) : Met l y_Wi_add (.code y_Wi_add b_Wi_add 2 none :: tb_ws) rm_Wi_add (MP D t ts [.ref o, .ref o2] [(o, .inr (3, [.long (lI ((v / 4503599627370496))), .long (lI ((v % 4503599627370496)))])), (o2, .inr (3, [.long (lI ((w / 4503599627370496))), .long (lI ((w % 4503599627370496)))]))] sz) (va_Qv (fun _ : Unit => True) (MB D (va_A [(o, .inr (3, [.long (lI ((v / 4503599627370496))), .long (lI ((v % 4503599627370496)))])), (o2, .inr (3, [.long (lI ((w / 4503599627370496))), .long (lI ((w % 4503599627370496)))]))] sz) (fun _ : Unit => [(o, .inr (3, [.long (lI ((r / 4503599627370496))), .long (lI ((r % 4503599627370496)))])), (o2, .inr (3, [.long (lI ((w / 4503599627370496))), .long (lI ((w % 4503599627370496)))]))])) (va_A [(o, .inr (3, [.long (lI ((v / 4503599627370496))), .long (lI ((v % 4503599627370496)))])), (o2, .inr (3, [.long (lI ((w / 4503599627370496))), .long (lI ((w % 4503599627370496)))]))] sz)) 0 0 (va_A [(o, .inr (3, [.long (lI ((v / 4503599627370496))), .long (lI ((v % 4503599627370496)))])), (o2, .inr (3, [.long (lI ((w / 4503599627370496))), .long (lI ((w % 4503599627370496)))]))] sz) := by
  refine m_v (by decide +kernel) (Nat.le_of_ble_eq_true rfl) ?_
  intro zp ze zs zm zb zt zc zQ A ls hC hA hP hK hD hE hS hl ret
  have hl : lv_has ls 2 [(0, .ref o), (1, .ref o2)] := hl
  refine lv_aload_n hC.1 hC.2.1 d_Wi_add_0 rfl (lv_at hl 0 rfl) ?_
  refine lv_aload_n hC.1 hC.2.1 d_Wi_add_1 rfl (lv_at hl 1 rfl) ?_
  refine z_get (ci := 3) (C := R_Wi) (T := F_Wi) (N := 2) (v := .long (lI ((w / 4503599627370496)))) hC in_Wi hK hP 1 rfl rfl 0 (by decide) k_47 rfl d_Wi_add_2 ?_
  refine lv_aload_n hC.1 hC.2.1 d_Wi_add_5 rfl (lv_at hl 1 rfl) ?_
  refine z_get (ci := 3) (C := R_Wi) (T := F_Wi) (N := 2) (v := .long (lI ((w % 4503599627370496)))) hC in_Wi hK hP 1 rfl rfl 1 (by decide) k_48 rfl d_Wi_add_6 ?_
  refine z_mVv (As := [.long (lI ((w / 4503599627370496))), .long (lI ((w % 4503599627370496)))]) (rest := []) (wr := [(o2, .inr (3, [.long (lI ((w / 4503599627370496))), .long (lI ((w % 4503599627370496)))]))]) hC (c_Wi_addParts l D t ts o ((v / 4503599627370496)) ((v % 4503599627370496)) ((w / 4503599627370496)) ((w % 4503599627370496)) ((r / 4503599627370496)) ((r % 4503599627370496)) (by omega) (by omega) (by omega) (by omega) _) (cw_V hC k_426 k_428 kp_21 k_4 k_429 ye_Wi_addParts (by decide)) hP hD hK hE hS hA [0] [1] (by decide) rfl rfl (by decide) (by decide) 0 (ci := 3) rfl rfl rfl rfl hl.1 rfl (Nat.le_of_ble_eq_true rfl) ⟨Nat.le_of_ble_eq_true rfl, Nat.le_of_ble_eq_true rfl⟩ d_Wi_add_9 (fun u1 H locs eu1 hP hD hS => ?_)
  have hP : va_P D classes [(o2, .inr (3, [.long (lI ((w / 4503599627370496))), .long (lI ((w % 4503599627370496)))])), (o, .inr (3, [.long (lI ((r / 4503599627370496))), .long (lI ((r % 4503599627370496)))]))] H := hP
  have hD : va_D A [(o2, .inr (3, [.long (lI ((w / 4503599627370496))), .long (lI ((w % 4503599627370496)))])), (o, .inr (3, [.long (lI ((r / 4503599627370496))), .long (lI ((r % 4503599627370496)))]))] := hD
  have hP9 := hP.sub (ws' := [(o, .inr (3, [.long (lI ((r / 4503599627370496))), .long (lI ((r % 4503599627370496)))])), (o2, .inr (3, [.long (lI ((w / 4503599627370496))), .long (lI ((w % 4503599627370496)))]))]) [1, 0] rfl
  have hD9 := hD.sub (ws' := [(o, .inr (3, [.long (lI ((r / 4503599627370496))), .long (lI ((r % 4503599627370496)))])), (o2, .inr (3, [.long (lI ((w / 4503599627370496))), .long (lI ((w % 4503599627370496)))]))]) [1, 0] (by decide) rfl
  exact ret () _ _ 12 _ d_Wi_add_12 trivial hP9 hD9 hS
theorem ye_Wi_addProduct : ye y_Wi_addProduct R_Wi 2 := by unfold ye; decide +kernel
abbrev rm_Wi_addProduct : Room := { frames := 1, cells := 0, slots := 0, locals := 26 }
set_option maxHeartbeats 4000000 in
set_option maxRecDepth 100000 in
theorem c_Wi_addProduct (l : Launch) (D : va_G) (t : vt) (ts : Nat → Nat) (o : Nat) (v x y r : Int) (hx : -1125899906842624 < x ∧ x < 1125899906842624) (hy : -1125899906842624 < y ∧ y < 1125899906842624) (hr : r = v + x * y) (sz : Nat) : Met l y_Wi_addProduct (.code y_Wi_addProduct b_Wi_addProduct 15 none :: tb_ws) rm_Wi_addProduct (MP D t ts [.ref o, .long (lI x), .long (lI y)] [(o, .inr (3, [.long (lI ((v / 4503599627370496))), .long (lI ((v % 4503599627370496)))]))] sz) (va_Qv (fun _ : Unit => True) (MB D (va_A [(o, .inr (3, [.long (lI ((v / 4503599627370496))), .long (lI ((v % 4503599627370496)))]))] sz) (fun _ : Unit => [(o, .inr (3, [.long (lI ((r / 4503599627370496))), .long (lI ((r % 4503599627370496)))]))])) (va_A [(o, .inr (3, [.long (lI ((v / 4503599627370496))), .long (lI ((v % 4503599627370496)))]))] sz)) 0 0 (va_A [(o, .inr (3, [.long (lI ((v / 4503599627370496))), .long (lI ((v % 4503599627370496)))]))] sz) := by
  refine m_v (by decide +kernel) (Nat.le_of_ble_eq_true rfl) ?_
  intro zp ze zs zm zb zt zc zQ A ls hC hA hP hK hD hE hS hl ret
  have hl : lv_has ls 15 [(0, .ref o), (1, .long (lI x)), (3, .long (lI y))] := hl
  refine lv_lload_n hC.1 hC.2.1 d_Wi_addProduct_0 rfl (lv_at hl 1 rfl) ?_
  refine z_bipush hC d_Wi_addProduct_1 (by decide) ?_
  refine z_lshr (z := (x / 67108864)) hC (l_shr26 (by omega)) d_Wi_addProduct_3 ?_
  refine lv_lstore (lv' := [(5, .long (lI ((x / 67108864)))), (0, .ref o), (1, .long (lI x)), (3, .long (lI y))]) hC.1 hC.2.1 d_Wi_addProduct_4 hl (by decide) rfl (fun ls hl => ?_)
  refine lv_lload_n hC.1 hC.2.1 d_Wi_addProduct_6 rfl (lv_at hl 2 rfl) ?_
  refine z_ldc2 hC k_425 d_Wi_addProduct_7 ?_
  refine z_land (z := (x % 67108864)) hC (l_mask26 _) d_Wi_addProduct_10 ?_
  refine lv_lstore (lv' := [(7, .long (lI ((x % 67108864)))), (5, .long (lI ((x / 67108864)))), (0, .ref o), (1, .long (lI x)), (3, .long (lI y))]) hC.1 hC.2.1 d_Wi_addProduct_11 hl (by decide) rfl (fun ls hl => ?_)
  refine lv_lload_n hC.1 hC.2.1 d_Wi_addProduct_13 rfl (lv_at hl 4 rfl) ?_
  refine z_bipush hC d_Wi_addProduct_14 (by decide) ?_
  refine z_lshr (z := (y / 67108864)) hC (l_shr26 (by omega)) d_Wi_addProduct_16 ?_
  refine lv_lstore (lv' := [(9, .long (lI ((y / 67108864)))), (7, .long (lI ((x % 67108864)))), (5, .long (lI ((x / 67108864)))), (0, .ref o), (1, .long (lI x)), (3, .long (lI y))]) hC.1 hC.2.1 d_Wi_addProduct_17 hl (by decide) rfl (fun ls hl => ?_)
  refine lv_lload_n hC.1 hC.2.1 d_Wi_addProduct_19 rfl (lv_at hl 5 rfl) ?_
  refine z_ldc2 hC k_425 d_Wi_addProduct_20 ?_
  refine z_land (z := (y % 67108864)) hC (l_mask26 _) d_Wi_addProduct_23 ?_
  refine lv_lstore (lv' := [(11, .long (lI ((y % 67108864)))), (9, .long (lI ((y / 67108864)))), (7, .long (lI ((x % 67108864)))), (5, .long (lI ((x / 67108864)))), (0, .ref o), (1, .long (lI x)), (3, .long (lI y))]) hC.1 hC.2.1 d_Wi_addProduct_24 hl (by decide) rfl (fun ls hl => ?_)
  have p1 := mul_bd (a := (x / 67108864)) (b := (y % 67108864)) (A := 16777216) (B := 67108864) (by omega) (by omega)
  have p2 := mul_bd (a := (x % 67108864)) (b := (y / 67108864)) (A := 67108864) (B := 16777216) (by omega) (by omega)
  have p3 := mul_bd (a := (x % 67108864)) (b := (y % 67108864)) (A := 67108864) (B := 67108864) (by omega) (by omega)
  have p4 : 0 ≤ (x % 67108864) * (y % 67108864) := Int.mul_nonneg (by omega) (by omega)
  have p5 := mul_split (x := x) (y := y) (xh := (x / 67108864)) (xl := (x % 67108864)) (yh := (y / 67108864)) (yl := (y % 67108864)) (by omega) (by omega)
  obtain ⟨v1, ev1⟩ : ∃ z : Int, z = v + 4503599627370496 * ((x / 67108864) * (y / 67108864) + ((x / 67108864) * (y % 67108864) + (x % 67108864) * (y / 67108864)) / 67108864) + 67108864 * (((x / 67108864) * (y % 67108864) + (x % 67108864) * (y / 67108864)) % 67108864) := ⟨_, rfl⟩
  refine lv_lload hC.1 hC.2.1 d_Wi_addProduct_26 (lv_at hl 3 rfl) ?_
  refine lv_lload hC.1 hC.2.1 d_Wi_addProduct_28 (lv_at hl 0 rfl) ?_
  refine z_lmul hC d_Wi_addProduct_30 ?_
  refine lv_lload hC.1 hC.2.1 d_Wi_addProduct_31 (lv_at hl 2 rfl) ?_
  refine lv_lload hC.1 hC.2.1 d_Wi_addProduct_33 (lv_at hl 1 rfl) ?_
  refine z_lmul hC d_Wi_addProduct_35 ?_
  refine z_ladd hC d_Wi_addProduct_36 ?_
  refine z_topl (z := (((x % 67108864)) * ((y / 67108864))) + (((x / 67108864)) * ((y % 67108864)))) (by omega) ?_
  refine lv_lstore (lv' := [(13, .long (lI ((((x % 67108864)) * ((y / 67108864))) + (((x / 67108864)) * ((y % 67108864)))))), (11, .long (lI ((y % 67108864)))), (9, .long (lI ((y / 67108864)))), (7, .long (lI ((x % 67108864)))), (5, .long (lI ((x / 67108864)))), (0, .ref o), (1, .long (lI x)), (3, .long (lI y))]) hC.1 hC.2.1 d_Wi_addProduct_37 hl (by decide) rfl (fun ls hl => ?_)
  refine lv_aload_n hC.1 hC.2.1 d_Wi_addProduct_39 rfl (lv_at hl 5 rfl) ?_
  refine lv_lload hC.1 hC.2.1 d_Wi_addProduct_40 (lv_at hl 4 rfl) ?_
  refine lv_lload hC.1 hC.2.1 d_Wi_addProduct_42 (lv_at hl 2 rfl) ?_
  refine z_lmul hC d_Wi_addProduct_44 ?_
  refine lv_lload hC.1 hC.2.1 d_Wi_addProduct_45 (lv_at hl 0 rfl) ?_
  refine z_bipush hC d_Wi_addProduct_47 (by decide) ?_
  refine z_lshr (z := (((((x % 67108864)) * ((y / 67108864))) + (((x / 67108864)) * ((y % 67108864)))) / 67108864)) hC (l_shr26 (by omega)) d_Wi_addProduct_49 ?_
  refine z_ladd hC d_Wi_addProduct_50 ?_
  refine z_topl (z := (((((x % 67108864)) * ((y / 67108864))) + (((x / 67108864)) * ((y % 67108864)))) / 67108864) + (((x / 67108864)) * ((y / 67108864)))) (by omega) ?_
  refine lv_lload hC.1 hC.2.1 d_Wi_addProduct_51 (lv_at hl 0 rfl) ?_
  refine z_ldc2 hC k_425 d_Wi_addProduct_53 ?_
  refine z_land (z := (((((x % 67108864)) * ((y / 67108864))) + (((x / 67108864)) * ((y % 67108864)))) % 67108864)) hC (l_mask26 _) d_Wi_addProduct_56 ?_
  refine z_bipush hC d_Wi_addProduct_57 (by decide) ?_
  refine z_lshl (z := 67108864 * (((((x % 67108864)) * ((y / 67108864))) + (((x / 67108864)) * ((y % 67108864)))) % 67108864)) hC (Eq.trans (l_shl26 _) (congrArg lI (by omega))) d_Wi_addProduct_59 ?_
  refine z_mVv (As := [.long (lI ((((((x % 67108864)) * ((y / 67108864))) + (((x / 67108864)) * ((y % 67108864)))) / 67108864) + (((x / 67108864)) * ((y / 67108864))))), .long (lI (67108864 * (((((x % 67108864)) * ((y / 67108864))) + (((x / 67108864)) * ((y % 67108864)))) % 67108864)))]) (rest := []) (wr := []) hC (c_Wi_addParts l D t ts o ((v / 4503599627370496)) ((v % 4503599627370496)) ((((((x % 67108864)) * ((y / 67108864))) + (((x / 67108864)) * ((y % 67108864)))) / 67108864) + (((x / 67108864)) * ((y / 67108864)))) (67108864 * (((((x % 67108864)) * ((y / 67108864))) + (((x / 67108864)) * ((y % 67108864)))) % 67108864)) ((v1 / 4503599627370496)) ((v1 % 4503599627370496)) (by omega) (by omega) (by omega) (by omega) _) (cw_V hC k_426 k_428 kp_21 k_4 k_429 ye_Wi_addParts (by decide)) hP hD hK hE hS hA [0] [] (by decide) rfl rfl (by decide) (by decide) 0 (ci := 3) rfl rfl rfl rfl hl.1 rfl (Nat.le_of_ble_eq_true rfl) ⟨Nat.le_of_ble_eq_true rfl, Nat.le_of_ble_eq_true rfl⟩ d_Wi_addProduct_60 (fun u1 H locs eu1 hP hD hS => ?_)
  have hP : va_P D classes [(o, .inr (3, [.long (lI ((v1 / 4503599627370496))), .long (lI ((v1 % 4503599627370496)))]))] H := hP
  have hD : va_D A [(o, .inr (3, [.long (lI ((v1 / 4503599627370496))), .long (lI ((v1 % 4503599627370496)))]))] := hD
  refine lv_aload_n hC.1 hC.2.1 d_Wi_addProduct_63 rfl (lv_at hl 5 rfl) ?_
  refine z_lconst (v := 0) hC d_Wi_addProduct_64 (by decide) ?_
  refine lv_lload hC.1 hC.2.1 d_Wi_addProduct_65 (lv_at hl 3 rfl) ?_
  refine lv_lload hC.1 hC.2.1 d_Wi_addProduct_67 (lv_at hl 1 rfl) ?_
  refine z_lmul hC d_Wi_addProduct_69 ?_
  refine z_mVv (As := [.long (lI 0), .long (lI ((((x % 67108864)) * ((y % 67108864)))))]) (rest := []) (wr := []) hC (c_Wi_addParts l D t ts o ((v1 / 4503599627370496)) ((v1 % 4503599627370496)) 0 ((((x % 67108864)) * ((y % 67108864)))) ((r / 4503599627370496)) ((r % 4503599627370496)) (by omega) (by omega) (by omega) (by omega) _) (cw_V hC k_426 k_428 kp_21 k_4 k_429 ye_Wi_addParts (by decide)) hP hD hK hE hS hA [0] [] (by decide) rfl rfl (by decide) (by decide) 0 (ci := 3) rfl rfl rfl rfl hl.1 rfl (Nat.le_of_ble_eq_true rfl) ⟨Nat.le_of_ble_eq_true rfl, Nat.le_of_ble_eq_true rfl⟩ d_Wi_addProduct_70 (fun u2 H locs eu2 hP hD hS => ?_)
  have hP : va_P D classes [(o, .inr (3, [.long (lI ((r / 4503599627370496))), .long (lI ((r % 4503599627370496)))]))] H := hP
  have hD : va_D A [(o, .inr (3, [.long (lI ((r / 4503599627370496))), .long (lI ((r % 4503599627370496)))]))] := hD
  have hP9 := hP.sub (ws' := [(o, .inr (3, [.long (lI ((r / 4503599627370496))), .long (lI ((r % 4503599627370496)))]))]) [0] rfl
  have hD9 := hD.sub (ws' := [(o, .inr (3, [.long (lI ((r / 4503599627370496))), .long (lI ((r % 4503599627370496)))]))]) [0] (by decide) rfl
  exact ret () _ _ 73 _ d_Wi_addProduct_73 trivial hP9 hD9 hS
theorem ye_Wi_sign : ye y_Wi_sign R_Wi 0 := by unfold ye; decide +kernel
abbrev rm_Wi_sign : Room := { frames := 1, cells := 0, slots := 0, locals := 21 }
set_option maxHeartbeats 4000000 in
set_option maxRecDepth 100000 in
theorem c_Wi_sign (l : Launch) (D : va_G) (t : vt) (ts : Nat → Nat) (o : Nat) (v : Int) (hv : -5192296858534827628530496329220096 < v ∧ v < 5192296858534827628530496329220096) : Met l y_Wi_sign (.code y_Wi_sign b_Wi_sign 1 (some .int) :: tb_ws) rm_Wi_sign (RoP D t ts [.ref o] [(o, .inr (3, [.long (lI ((v / 4503599627370496))), .long (lI ((v % 4503599627370496)))]))]) (vp_Si (fun zr => zr = iI (sgn v))) 0 0 (fun _ => False) := by
  refine ro_i (by decide +kernel) (Nat.le_of_ble_eq_true rfl) ?_
  intro zp ze zs zm zb zt zc zQ ls hC hP hK hE hl ret
  have hS : va_S (fun _ => False) zs.heap zs.heap [] := va_S.rf
  have hl : lv_has ls 1 [(0, .ref o)] := hl
  have retv : ∀ (pc : Nat) (ls : Array Slot) (zv : Int), decode b_Wi_sign pc = .ok (.ireturn, 1) → zv = (sgn v) → W zp l ze rm_Wi_sign zs zm [.ref o].toArray zb zt zc zs.heap [] 0 0 zQ (F0 zm pc ls [.int (iI zv)]) := fun pc ls v d h => by rw [h]; exact ret pc ls d
  refine lv_aload_n hC.1 hC.2.1 d_Wi_sign_0 rfl (lv_at hl 0 rfl) ?_
  refine z_get (ci := 3) (C := R_Wi) (T := F_Wi) (N := 2) (v := .long (lI ((v / 4503599627370496)))) hC in_Wi hK hP 0 rfl rfl 0 (by decide) k_47 rfl d_Wi_sign_1 ?_
  refine z_lconst (v := 0) hC d_Wi_sign_4 (by decide) ?_
  refine z_lcmp_ne (tgt := 19) hC d_Wi_sign_5 d_Wi_sign_6 (by decide) (by omega) (by decide) (fun h5 => ?_) (fun h5 => ?_)
  · refine lv_aload_n hC.1 hC.2.1 d_Wi_sign_19 rfl (lv_at hl 0 rfl) ?_
    refine z_get (ci := 3) (C := R_Wi) (T := F_Wi) (N := 2) (v := .long (lI ((v / 4503599627370496)))) hC in_Wi hK hP 0 rfl rfl 0 (by decide) k_47 rfl d_Wi_sign_20 ?_
    refine z_roSi (As := [.long (lI ((v / 4503599627370496)))]) (rest := []) hC (c_JL_signum l D t ts ((v / 4503599627370496)) (by omega) (by omega)) (cw_S hC k_439 k_399 k_12 k_400 ye_JL_signum (by decide)) hP hK hE hS [] rfl rfl hl.1 rfl (Nat.le_of_ble_eq_true rfl) ⟨Nat.le_of_ble_eq_true rfl, Nat.le_of_ble_eq_true rfl⟩ d_Wi_sign_23 ?_
    exact retv 26 _ _ d_Wi_sign_26 (sgn_eq (by omega) (by omega))
  · refine lv_aload_n hC.1 hC.2.1 d_Wi_sign_9 rfl (lv_at hl 0 rfl) ?_
    refine z_get (ci := 3) (C := R_Wi) (T := F_Wi) (N := 2) (v := .long (lI ((v % 4503599627370496)))) hC in_Wi hK hP 0 rfl rfl 1 (by decide) k_48 rfl d_Wi_sign_10 ?_
    refine z_roSi (As := [.long (lI ((v % 4503599627370496)))]) (rest := []) hC (c_JL_signum l D t ts ((v % 4503599627370496)) (by omega) (by omega)) (cw_S hC k_439 k_399 k_12 k_400 ye_JL_signum (by decide)) hP hK hE hS [] rfl rfl hl.1 rfl (Nat.le_of_ble_eq_true rfl) ⟨Nat.le_of_ble_eq_true rfl, Nat.le_of_ble_eq_true rfl⟩ d_Wi_sign_13 ?_
    refine z_goto (tgt := 26) hC d_Wi_sign_16 (by decide) ?_
    exact retv 26 _ _ d_Wi_sign_26 (sgn_eq (by omega) (by omega))
theorem ye_Ru_goldenSign : ye y_Ru_goldenSign R_Ru 0 := by unfold ye; decide +kernel
abbrev rm_Ru_goldenSign : Room := { frames := 2, cells := 0, slots := 0, locals := 47 }
set_option maxHeartbeats 4000000 in
set_option maxRecDepth 100000 in
theorem c_Ru_goldenSign (l : Launch) (D : va_G) (t : vt) (ts : Nat → Nat) (r pa pb : Nat) (up : Bool) (sd sc wh go : Int) (P0 Q0 : Int) (hP0 : -1298074214633706907132624082305024 < P0 ∧ P0 < 1298074214633706907132624082305024) (hQ0 : -1298074214633706907132624082305024 < Q0 ∧ Q0 < 1298074214633706907132624082305024) (sz : Nat) : Met l y_Ru_goldenSign (.code y_Ru_goldenSign b_Ru_goldenSign 5 (some .int) :: tb_ws) rm_Ru_goldenSign (MP D t ts [.ref r] [(r, .inr (1, [.int (iI (zB up)), .int (iI sd), .long (lI sc), .long (lI wh), .long (lI go), .ref pa, .ref pb])), (pa, .inr (3, [.long (lI ((P0 / 4503599627370496))), .long (lI ((P0 % 4503599627370496)))])), (pb, .inr (3, [.long (lI ((Q0 / 4503599627370496))), .long (lI ((Q0 % 4503599627370496)))]))] sz) (va_Qi (fun zr u => zr = iI ((fun u : Int × Nat × Nat × Int × Int => u.1) u) ∧ ((fun u : Int × Nat × Nat × Int × Int => u.1 = gsN 1000 P0 Q0 ∧ ((u.2.1 = pa ∧ u.2.2.1 = pb) ∨ (u.2.1 = pb ∧ u.2.2.1 = pa)))) u) (MB D (va_A [(r, .inr (1, [.int (iI (zB up)), .int (iI sd), .long (lI sc), .long (lI wh), .long (lI go), .ref pa, .ref pb])), (pa, .inr (3, [.long (lI ((P0 / 4503599627370496))), .long (lI ((P0 % 4503599627370496)))])), (pb, .inr (3, [.long (lI ((Q0 / 4503599627370496))), .long (lI ((Q0 % 4503599627370496)))]))] sz) (fun u : Int × Nat × Nat × Int × Int => [(r, .inr (1, [.int (iI (zB up)), .int (iI sd), .long (lI sc), .long (lI wh), .long (lI go), .ref u.2.1, .ref u.2.2.1])), (u.2.1, .inr (3, [.long (lI ((u.2.2.2.1 / 4503599627370496))), .long (lI ((u.2.2.2.1 % 4503599627370496)))])), (u.2.2.1, .inr (3, [.long (lI ((u.2.2.2.2 / 4503599627370496))), .long (lI ((u.2.2.2.2 % 4503599627370496)))]))])) (va_A [(r, .inr (1, [.int (iI (zB up)), .int (iI sd), .long (lI sc), .long (lI wh), .long (lI go), .ref pa, .ref pb])), (pa, .inr (3, [.long (lI ((P0 / 4503599627370496))), .long (lI ((P0 % 4503599627370496)))])), (pb, .inr (3, [.long (lI ((Q0 / 4503599627370496))), .long (lI ((Q0 % 4503599627370496)))]))] sz)) 0 0 (va_A [(r, .inr (1, [.int (iI (zB up)), .int (iI sd), .long (lI sc), .long (lI wh), .long (lI go), .ref pa, .ref pb])), (pa, .inr (3, [.long (lI ((P0 / 4503599627370496))), .long (lI ((P0 % 4503599627370496)))])), (pb, .inr (3, [.long (lI ((Q0 / 4503599627370496))), .long (lI ((Q0 % 4503599627370496)))]))] sz) := by
  refine m_i (by decide +kernel) (Nat.le_of_ble_eq_true rfl) ?_
  intro zp ze zs zm zb zt zc zQ A ls hC hA hP hK hD hE hS hl ret
  have hl : lv_has ls 5 [(0, .ref r)] := hl
  have retv : ∀ (u : Int × Nat × Nat × Int × Int) (H : Heap) (locs : List Loc) (pc : Nat) (ls : Array Slot) (zv : Int), decode b_Ru_goldenSign pc = .ok (.ireturn, 1) → (zv = u.1 ∧ (u.1 = gsN 1000 P0 Q0 ∧ ((u.2.1 = pa ∧ u.2.2.1 = pb) ∨ (u.2.1 = pb ∧ u.2.2.1 = pa)))) → va_P D classes ([(r, .inr (1, [.int (iI (zB up)), .int (iI sd), .long (lI sc), .long (lI wh), .long (lI go), .ref u.2.1, .ref u.2.2.1])), (u.2.1, .inr (3, [.long (lI ((u.2.2.2.1 / 4503599627370496))), .long (lI ((u.2.2.2.1 % 4503599627370496)))])), (u.2.2.1, .inr (3, [.long (lI ((u.2.2.2.2 / 4503599627370496))), .long (lI ((u.2.2.2.2 % 4503599627370496)))]))]) H → va_D A ([(r, .inr (1, [.int (iI (zB up)), .int (iI sd), .long (lI sc), .long (lI wh), .long (lI go), .ref u.2.1, .ref u.2.2.1])), (u.2.1, .inr (3, [.long (lI ((u.2.2.2.1 / 4503599627370496))), .long (lI ((u.2.2.2.1 % 4503599627370496)))])), (u.2.2.1, .inr (3, [.long (lI ((u.2.2.2.2 / 4503599627370496))), .long (lI ((u.2.2.2.2 % 4503599627370496)))]))]) → va_S A zs.heap H locs → W zp l ze rm_Ru_goldenSign zs zm [.ref r].toArray zb zt zc H locs 0 0 zQ (F0 zm pc ls [.int (iI zv)]) := fun u H locs pc ls v d h hP hD hS => by rw [h.1]; exact ret u H locs pc ls d h.2 hP hD hS
  refine z_iconst hC d_Ru_goldenSign_0 ?_
  refine lv_istore_n (lv' := [(1, .int (iI 0)), (0, .ref r)]) hC.1 hC.2.1 d_Ru_goldenSign_1 rfl hl (by decide) rfl (fun ls hl => ?_)
  have L2 : ∀ (fu : Nat) (xa : Nat) (xb : Nat) (P : Int) (Q : Int) (k : Int) (H : Heap) (locs : List Loc) (ls : Array Slot), 1000 - k + 1 ≤ (fu : Int) → (0 ≤ k ∧ k ≤ 1000) → ((-1298074214633706907132624082305024 < P ∧ P < 1298074214633706907132624082305024) ∧ (-1298074214633706907132624082305024 < Q ∧ Q < 1298074214633706907132624082305024)) → (gsN 1000 P0 Q0 = gsN (1000 - k).toNat P Q) → ((xa = pa ∧ xb = pb) ∨ (xa = pb ∧ xb = pa)) → va_P D classes [(r, .inr (1, [.int (iI (zB up)), .int (iI sd), .long (lI sc), .long (lI wh), .long (lI go), .ref xa, .ref xb])), (xa, .inr (3, [.long (lI ((P / 4503599627370496))), .long (lI ((P % 4503599627370496)))])), (xb, .inr (3, [.long (lI ((Q / 4503599627370496))), .long (lI ((Q % 4503599627370496)))]))] H → va_D A [(r, .inr (1, [.int (iI (zB up)), .int (iI sd), .long (lI sc), .long (lI wh), .long (lI go), .ref xa, .ref xb])), (xa, .inr (3, [.long (lI ((P / 4503599627370496))), .long (lI ((P % 4503599627370496)))])), (xb, .inr (3, [.long (lI ((Q / 4503599627370496))), .long (lI ((Q % 4503599627370496)))]))] → va_S A zs.heap H locs → lv_has ls 5 [(1, .int (iI k)), (0, .ref r)] → W zp l ze rm_Ru_goldenSign zs zm [.ref r].toArray zb zt zc H locs 0 0 zQ (F0 zm 2 ls []) := by
    intro fu
    induction fu with
    | zero =>
      intro xa xb P Q k H locs ls hm2 hk hb eg ex hP hD hS hl
      exact absurd hm2 (by omega)
    | succ fu ih2 =>
      intro xa xb P Q k H locs ls hm2 hk hb eg ex hP hD hS hl
      refine lv_iload_n hC.1 hC.2.1 d_Ru_goldenSign_2 rfl (lv_at hl 0 rfl) ?_
      refine z_sipush hC d_Ru_goldenSign_3 (by decide) ?_
      refine z_icmp_ge (tgt := 75) hC d_Ru_goldenSign_6 (by decide) (by omega) (by decide) (fun h6 => ?_) (fun h6 => ?_)
      · refine z_iconst hC d_Ru_goldenSign_75 ?_
        have hP9 := hP.sub (ws' := [(r, .inr (1, [.int (iI (zB up)), .int (iI sd), .long (lI sc), .long (lI wh), .long (lI go), .ref xa, .ref xb])), (xa, .inr (3, [.long (lI ((P / 4503599627370496))), .long (lI ((P % 4503599627370496)))])), (xb, .inr (3, [.long (lI ((Q / 4503599627370496))), .long (lI ((Q % 4503599627370496)))]))]) [0, 1, 2] rfl
        have hD9 := hD.sub (ws' := [(r, .inr (1, [.int (iI (zB up)), .int (iI sd), .long (lI sc), .long (lI wh), .long (lI go), .ref xa, .ref xb])), (xa, .inr (3, [.long (lI ((P / 4503599627370496))), .long (lI ((P % 4503599627370496)))])), (xb, .inr (3, [.long (lI ((Q / 4503599627370496))), .long (lI ((Q % 4503599627370496)))]))]) [0, 1, 2] (by decide) rfl
        exact retv (0, xa, xb, P, Q) _ _ 76 _ _ d_Ru_goldenSign_76 ⟨rfl, (by rw [eg, show (1000 - k) = 0 by omega]; rfl), ex⟩ hP9 hD9 hS
      · refine lv_aload_n hC.1 hC.2.1 d_Ru_goldenSign_9 rfl (lv_at hl 1 rfl) ?_
        refine z_get (ci := 1) (C := R_Ru) (T := F_Ru) (N := 7) (v := .ref xa) hC in_Ru hK hP 0 rfl rfl 5 (by decide) k_59 rfl d_Ru_goldenSign_10 ?_
        refine z_roVi (As := []) (rest := []) hC (c_Wi_sign l D t ts xa P (by omega)) (cw_V hC k_435 k_436 k_437 k_4 k_438 ye_Wi_sign (by decide)) hP hK hE hS [1] rfl 1 (ci := 3) rfl rfl rfl rfl hl.1 rfl (Nat.le_of_ble_eq_true rfl) ⟨Nat.le_of_ble_eq_true rfl, Nat.le_of_ble_eq_true rfl⟩ d_Ru_goldenSign_13 ?_
        refine lv_istore_n (lv' := [(2, .int (iI (sgn P))), (1, .int (iI k)), (0, .ref r)]) hC.1 hC.2.1 d_Ru_goldenSign_16 rfl hl (by decide) rfl (fun ls hl => ?_)
        refine lv_aload_n hC.1 hC.2.1 d_Ru_goldenSign_17 rfl (lv_at hl 2 rfl) ?_
        refine z_get (ci := 1) (C := R_Ru) (T := F_Ru) (N := 7) (v := .ref xb) hC in_Ru hK hP 0 rfl rfl 6 (by decide) k_60 rfl d_Ru_goldenSign_18 ?_
        refine z_roVi (As := []) (rest := []) hC (c_Wi_sign l D t ts xb Q (by omega)) (cw_V hC k_435 k_436 k_437 k_4 k_438 ye_Wi_sign (by decide)) hP hK hE hS [2] rfl 2 (ci := 3) rfl rfl rfl rfl hl.1 rfl (Nat.le_of_ble_eq_true rfl) ⟨Nat.le_of_ble_eq_true rfl, Nat.le_of_ble_eq_true rfl⟩ d_Ru_goldenSign_21 ?_
        refine lv_istore_n (lv' := [(3, .int (iI (sgn Q))), (2, .int (iI (sgn P))), (1, .int (iI k)), (0, .ref r)]) hC.1 hC.2.1 d_Ru_goldenSign_24 rfl hl (by decide) rfl (fun ls hl => ?_)
        have b1 := sgn_in P
        have b2 := sgn_in Q
        have b3 := mul_bd (a := sgn P) (b := sgn Q) (A := 1) (B := 1) (by omega) (by omega)
        refine lv_iload_n hC.1 hC.2.1 d_Ru_goldenSign_25 rfl (lv_at hl 1 rfl) ?_
        refine lv_iload_n hC.1 hC.2.1 d_Ru_goldenSign_26 rfl (lv_at hl 0 rfl) ?_
        refine z_imul hC d_Ru_goldenSign_27 ?_
        refine z_if_lt (tgt := 38) hC d_Ru_goldenSign_28 (by decide) (by omega) (fun h28 => ?_) (fun h28 => ?_)
        · refine lv_aload_n hC.1 hC.2.1 d_Ru_goldenSign_38 rfl (lv_at hl 3 rfl) ?_
          refine z_get (ci := 1) (C := R_Ru) (T := F_Ru) (N := 7) (v := .ref xa) hC in_Ru hK hP 0 rfl rfl 5 (by decide) k_59 rfl d_Ru_goldenSign_39 ?_
          refine lv_aload_n hC.1 hC.2.1 d_Ru_goldenSign_42 rfl (lv_at hl 3 rfl) ?_
          refine z_get (ci := 1) (C := R_Ru) (T := F_Ru) (N := 7) (v := .ref xb) hC in_Ru hK hP 0 rfl rfl 6 (by decide) k_60 rfl d_Ru_goldenSign_43 ?_
          refine z_mVv (As := [.ref xb]) (rest := []) (wr := [(r, .inr (1, [.int (iI (zB up)), .int (iI sd), .long (lI sc), .long (lI wh), .long (lI go), .ref xa, .ref xb]))]) hC (c_Wi_add l D t ts xa xb P Q (P + Q) (by omega) _) (cw_V hC k_443 k_444 k_445 k_4 k_446 ye_Wi_add (by decide)) hP hD hK hE hS hA [1, 2] [0] (by decide) rfl rfl (by decide) (by decide) 1 (ci := 3) rfl rfl rfl rfl hl.1 rfl (Nat.le_of_ble_eq_true rfl) ⟨Nat.le_of_ble_eq_true rfl, Nat.le_of_ble_eq_true rfl⟩ d_Ru_goldenSign_46 (fun u1 H locs eu1 hP hD hS => ?_)
          have hP : va_P D classes [(r, .inr (1, [.int (iI (zB up)), .int (iI sd), .long (lI sc), .long (lI wh), .long (lI go), .ref xa, .ref xb])), (xa, .inr (3, [.long (lI (((P + Q) / 4503599627370496))), .long (lI (((P + Q) % 4503599627370496)))])), (xb, .inr (3, [.long (lI ((Q / 4503599627370496))), .long (lI ((Q % 4503599627370496)))]))] H := hP
          have hD : va_D A [(r, .inr (1, [.int (iI (zB up)), .int (iI sd), .long (lI sc), .long (lI wh), .long (lI go), .ref xa, .ref xb])), (xa, .inr (3, [.long (lI (((P + Q) / 4503599627370496))), .long (lI (((P + Q) % 4503599627370496)))])), (xb, .inr (3, [.long (lI ((Q / 4503599627370496))), .long (lI ((Q % 4503599627370496)))]))] := hD
          refine lv_aload_n hC.1 hC.2.1 d_Ru_goldenSign_49 rfl (lv_at hl 3 rfl) ?_
          refine z_get (ci := 1) (C := R_Ru) (T := F_Ru) (N := 7) (v := .ref xa) hC in_Ru hK hP 0 rfl rfl 5 (by decide) k_59 rfl d_Ru_goldenSign_50 ?_
          refine lv_astore (lv' := [(4, .ref xa), (3, .int (iI (sgn Q))), (2, .int (iI (sgn P))), (1, .int (iI k)), (0, .ref r)]) hC.1 hC.2.1 d_Ru_goldenSign_53 hl (by decide) rfl (fun ls hl => ?_)
          refine lv_aload_n hC.1 hC.2.1 d_Ru_goldenSign_55 rfl (lv_at hl 4 rfl) ?_
          refine lv_aload_n hC.1 hC.2.1 d_Ru_goldenSign_56 rfl (lv_at hl 4 rfl) ?_
          refine z_get (ci := 1) (C := R_Ru) (T := F_Ru) (N := 7) (v := .ref xb) hC in_Ru hK hP 0 rfl rfl 6 (by decide) k_60 rfl d_Ru_goldenSign_57 ?_
          refine z_put (ci := 1) (C := R_Ru) (T := F_Ru) (N := 7) (v := .ref xb) (ws' := [(r, .inr (1, [.int (iI (zB up)), .int (iI sd), .long (lI sc), .long (lI wh), .long (lI go), .ref xb, .ref xb])), (xa, .inr (3, [.long (lI (((P + Q) / 4503599627370496))), .long (lI (((P + Q) % 4503599627370496)))])), (xb, .inr (3, [.long (lI ((Q / 4503599627370496))), .long (lI ((Q % 4503599627370496)))]))]) hC in_Ru t_Ru t_Ru_ok n_Ru hK hP hD hS 0 rfl rfl 5 (by decide) k_59 rfl rfl rfl (Nat.le_of_ble_eq_true rfl) rfl d_Ru_goldenSign_60 (fun H locs hP hD hS => ?_)
          refine lv_aload_n hC.1 hC.2.1 d_Ru_goldenSign_63 rfl (lv_at hl 4 rfl) ?_
          refine lv_aload hC.1 hC.2.1 d_Ru_goldenSign_64 (lv_at hl 0 rfl) ?_
          refine z_put (ci := 1) (C := R_Ru) (T := F_Ru) (N := 7) (v := .ref xa) (ws' := [(r, .inr (1, [.int (iI (zB up)), .int (iI sd), .long (lI sc), .long (lI wh), .long (lI go), .ref xb, .ref xa])), (xa, .inr (3, [.long (lI (((P + Q) / 4503599627370496))), .long (lI (((P + Q) % 4503599627370496)))])), (xb, .inr (3, [.long (lI ((Q / 4503599627370496))), .long (lI ((Q % 4503599627370496)))]))]) hC in_Ru t_Ru t_Ru_ok n_Ru hK hP hD hS 0 rfl rfl 6 (by decide) k_60 rfl rfl rfl (Nat.le_of_ble_eq_true rfl) rfl d_Ru_goldenSign_66 (fun H locs hP hD hS => ?_)
          refine lv_iinc (v := iI (k + 1)) (lv' := [(1, .int (iI (k + 1))), (4, .ref xa), (3, .int (iI (sgn Q))), (2, .int (iI (sgn P))), (0, .ref r)]) hC.1 hC.2.1 d_Ru_goldenSign_69 hl (k := 3) rfl (z_inc (by omega)) (by decide) rfl (fun ls hl => ?_)
          refine z_goto (tgt := 2) hC d_Ru_goldenSign_72 (by decide) ?_
          exact ih2 xb xa Q (P + Q) (k + 1) _ _ _ (by omega) (by omega) (by have := sgn_op (P := P) (Q := Q) h28; omega) (by rw [eg, gsN_s (by omega), if_neg (by omega), show (1000 - k - 1) = 1000 - (k + 1) by omega]) (by omega) (hP.sub (ws' := [(r, .inr (1, [.int (iI (zB up)), .int (iI sd), .long (lI sc), .long (lI wh), .long (lI go), .ref xb, .ref xa])), (xb, .inr (3, [.long (lI ((Q / 4503599627370496))), .long (lI ((Q % 4503599627370496)))])), (xa, .inr (3, [.long (lI (((P + Q) / 4503599627370496))), .long (lI (((P + Q) % 4503599627370496)))]))]) [0, 2, 1] rfl) (hD.sub (ws' := [(r, .inr (1, [.int (iI (zB up)), .int (iI sd), .long (lI sc), .long (lI wh), .long (lI go), .ref xb, .ref xa])), (xb, .inr (3, [.long (lI ((Q / 4503599627370496))), .long (lI ((Q % 4503599627370496)))])), (xa, .inr (3, [.long (lI (((P + Q) / 4503599627370496))), .long (lI (((P + Q) % 4503599627370496)))]))]) [0, 2, 1] (by decide) rfl) hS (lv_sub hl [0, 4] rfl)
        · refine lv_iload_n hC.1 hC.2.1 d_Ru_goldenSign_31 rfl (lv_at hl 1 rfl) ?_
          refine lv_iload_n hC.1 hC.2.1 d_Ru_goldenSign_32 rfl (lv_at hl 0 rfl) ?_
          refine z_iadd hC d_Ru_goldenSign_33 ?_
          refine z_topi (z := sgn P + sgn Q) (by omega) ?_
          refine z_roSi (As := [.int (iI (sgn P + sgn Q))]) (rest := []) hC (c_JI_signum l D t ts (sgn P + sgn Q) (by omega)) (cw_S hC k_440 k_441 k_11 k_442 ye_JI_signum (by decide)) hP hK hE hS [] rfl rfl hl.1 rfl (Nat.le_of_ble_eq_true rfl) ⟨Nat.le_of_ble_eq_true rfl, Nat.le_of_ble_eq_true rfl⟩ d_Ru_goldenSign_34 ?_
          have hP9 := hP.sub (ws' := [(r, .inr (1, [.int (iI (zB up)), .int (iI sd), .long (lI sc), .long (lI wh), .long (lI go), .ref xa, .ref xb])), (xa, .inr (3, [.long (lI ((P / 4503599627370496))), .long (lI ((P % 4503599627370496)))])), (xb, .inr (3, [.long (lI ((Q / 4503599627370496))), .long (lI ((Q % 4503599627370496)))]))]) [0, 1, 2] rfl
          have hD9 := hD.sub (ws' := [(r, .inr (1, [.int (iI (zB up)), .int (iI sd), .long (lI sc), .long (lI wh), .long (lI go), .ref xa, .ref xb])), (xa, .inr (3, [.long (lI ((P / 4503599627370496))), .long (lI ((P % 4503599627370496)))])), (xb, .inr (3, [.long (lI ((Q / 4503599627370496))), .long (lI ((Q % 4503599627370496)))]))]) [0, 1, 2] (by decide) rfl
          exact retv (sgn (sgn P + sgn Q), xa, xb, P, Q) _ _ 37 _ _ d_Ru_goldenSign_37 ⟨rfl, (by rw [eg, gsN_s (by omega), if_pos h28]), ex⟩ hP9 hD9 hS
  exact L2 (1000 - 0 + 1 : Int).toNat pa pb P0 Q0 0 _ _ _ (by omega) (by omega) (by omega) (by rfl) (by simp) (hP.sub (ws' := [(r, .inr (1, [.int (iI (zB up)), .int (iI sd), .long (lI sc), .long (lI wh), .long (lI go), .ref pa, .ref pb])), (pa, .inr (3, [.long (lI ((P0 / 4503599627370496))), .long (lI ((P0 % 4503599627370496)))])), (pb, .inr (3, [.long (lI ((Q0 / 4503599627370496))), .long (lI ((Q0 % 4503599627370496)))]))]) [0, 1, 2] rfl) (hD.sub (ws' := [(r, .inr (1, [.int (iI (zB up)), .int (iI sd), .long (lI sc), .long (lI wh), .long (lI go), .ref pa, .ref pb])), (pa, .inr (3, [.long (lI ((P0 / 4503599627370496))), .long (lI ((P0 % 4503599627370496)))])), (pb, .inr (3, [.long (lI ((Q0 / 4503599627370496))), .long (lI ((Q0 % 4503599627370496)))]))]) [0, 1, 2] (by decide) rfl) hS (lv_sub hl [0, 1] rfl)
