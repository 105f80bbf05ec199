theorem ye_Wi_init : ye y_Wi_init R_Wi 0 := by unfold ye; decide +kernel
abbrev rm_Wi_init : Room := { frames := 1, cells := 0, slots := 0, locals := 20 }
set_option maxHeartbeats 4000000 in
set_option maxRecDepth 100000 in
theorem c_Wi_init (l : Launch) (D : va_G) (t : vt) (ts : Nat → Nat) (o : Nat) (sz : Nat) : Met l y_Wi_init (.code y_Wi_init b_Wi_init 1 none :: tb_ws) rm_Wi_init (MP D t ts [.ref o] [(o, .inr (3, [.long (lI 0), .long (lI 0)]))] sz) (va_Qv (fun u : Unit => True) (MB D (va_A [(o, .inr (3, [.long (lI 0), .long (lI 0)]))] sz) (fun u : Unit => [(o, .inr (3, [.long (lI 0), .long (lI 0)]))])) (va_A [(o, .inr (3, [.long (lI 0), .long (lI 0)]))] sz)) 0 0 (va_A [(o, .inr (3, [.long (lI 0), .long (lI 0)]))] sz) := by
  refine mA_v (by decide +kernel) (Nat.le_of_ble_eq_true rfl) ?_
  intro zp ze zs zm zb zt zc zQ A ls hin hC hA hP hK hD hE hS hl ret
  have hl : lv_has ls 1 [(0, .ref o)] := hl
  refine lv_aload_n hC.1 hC.2.1 d_Wi_init_0 rfl (lv_at hl 0 rfl) ?_
  refine z_oinit hC k_46 hl.1 (by decide) (Nat.le_of_ble_eq_true rfl) d_Wi_init_1 ?_
  refine lv_aload_n hC.1 hC.2.1 d_Wi_init_4 rfl (lv_at hl 0 rfl) ?_
  refine z_lconst (v := 0) hC d_Wi_init_5 (by decide) ?_
  refine z_put (ci := 3) (C := R_Wi) (T := F_Wi) (N := 2) (v := .long (lI 0)) (ws' := [(o, .inr (3, [.long (lI 0), .long (lI 0)]))]) hC in_Wi t_Wi t_Wi_ok n_Wi hK hP hD hS 0 rfl rfl 0 (by decide) k_47 rfl rfl rfl (Nat.le_of_ble_eq_true rfl) rfl d_Wi_init_6 (fun H locs hP hD hS => ?_)
  refine lv_aload_n hC.1 hC.2.1 d_Wi_init_9 rfl (lv_at hl 0 rfl) ?_
  refine z_lconst (v := 0) hC d_Wi_init_10 (by decide) ?_
  refine z_put (ci := 3) (C := R_Wi) (T := F_Wi) (N := 2) (v := .long (lI 0)) (ws' := [(o, .inr (3, [.long (lI 0), .long (lI 0)]))]) hC in_Wi t_Wi t_Wi_ok n_Wi hK hP hD hS 0 rfl rfl 1 (by decide) k_48 rfl rfl rfl (Nat.le_of_ble_eq_true rfl) rfl d_Wi_init_11 (fun H locs hP hD hS => ?_)
  refine W.widen (k := 0) (n := 0) (Nat.le_of_ble_eq_true rfl) (Nat.le_of_ble_eq_true rfl) ?_
  have hP9 := hP.sub (ws' := [(o, .inr (3, [.long (lI 0), .long (lI 0)]))]) [0] rfl
  have hD9 := hD.sub (ws' := [(o, .inr (3, [.long (lI 0), .long (lI 0)]))]) [0] (by decide) rfl
  exact ret () _ _ 14 _ d_Wi_init_14 trivial hP9 hD9 hS
theorem ye_Ha_init : ye y_Ha_init R_Ha 0 := by unfold ye; decide +kernel
abbrev rm_Ha_init : Room := { frames := 1, cells := 2, slots := 5200, locals := 20 }
set_option maxHeartbeats 4000000 in
set_option maxRecDepth 100000 in
theorem c_Ha_init (l : Launch) (D : va_G) (t : vt) (ts : Nat → Nat) (o : Nat) (sz : Nat) : Met l y_Ha_init (.code y_Ha_init b_Ha_init 1 none :: tb_ws) rm_Ha_init (MP D t ts [.ref o] [(o, .inr (0, [.null, .null, .int (iI 0)]))] sz) (va_Qv (fun u : Nat × Nat => True) (MB D (va_A [(o, .inr (0, [.null, .null, .int (iI 0)]))] sz) (fun u : Nat × Nat => [(o, .inr (0, [.ref u.1, .ref u.2, .int (iI 0)])), (u.1, eI t.1 400 (fun _ => 0)), (u.2, eI t.1 4800 (fun _ => 0))])) (va_A [(o, .inr (0, [.null, .null, .int (iI 0)]))] sz)) 2 5200 (va_A [(o, .inr (0, [.null, .null, .int (iI 0)]))] sz) := by
  refine mA_v (by decide +kernel) (Nat.le_of_ble_eq_true rfl) ?_
  intro zp ze zs zm zb zt zc zQ A ls hin hC hA hP hK hD hE hS hl ret
  have hl : lv_has ls 1 [(0, .ref o)] := hl
  refine lv_aload_n hC.1 hC.2.1 d_Ha_init_0 rfl (lv_at hl 0 rfl) ?_
  refine z_oinit hC k_81 hl.1 (by decide) (Nat.le_of_ble_eq_true rfl) d_Ha_init_1 ?_
  refine lv_aload_n hC.1 hC.2.1 d_Ha_init_4 rfl (lv_at hl 0 rfl) ?_
  refine z_sipush hC d_Ha_init_5 (by decide) ?_
  refine z_newI hC hK hP hD hS hA 400 rfl (by decide) ⟨Nat.le_of_ble_eq_true rfl, Nat.le_of_ble_eq_true rfl⟩ d_Ha_init_8 (fun q1 H hP hD hS => ?_)
  have hP : va_P D classes [(o, .inr (0, [.null, .null, .int (iI 0)])), (q1, eI t.1 400 (fun _ => 0))] H := hP
  have hD : va_D A [(o, .inr (0, [.null, .null, .int (iI 0)])), (q1, eI t.1 400 (fun _ => 0))] := hD
  refine z_putF (ci := 0) (C := R_Ha) (T := F_Ha) (N := 3) (v := .ref q1) (ws' := [(o, .inr (0, [.ref q1, .null, .int (iI 0)])), (q1, eI t.1 400 (fun _ => 0))]) hC in_Ha t_Ha t_Ha_ok n_Ha hK hP hD hS 0 rfl rfl 0 (by decide) k_82 rfl hin rfl rfl rfl (Nat.le_of_ble_eq_true rfl) rfl d_Ha_init_10 (fun H locs hP hD hS => ?_)
  refine lv_aload_n hC.1 hC.2.1 d_Ha_init_13 rfl (lv_at hl 0 rfl) ?_
  refine z_sipush hC d_Ha_init_14 (by decide) ?_
  refine z_newI hC hK hP hD hS hA 4800 rfl (by decide) ⟨Nat.le_of_ble_eq_true rfl, Nat.le_of_ble_eq_true rfl⟩ d_Ha_init_17 (fun q2 H hP hD hS => ?_)
  have hP : va_P D classes [(o, .inr (0, [.ref q1, .null, .int (iI 0)])), (q1, eI t.1 400 (fun _ => 0)), (q2, eI t.1 4800 (fun _ => 0))] H := hP
  have hD : va_D A [(o, .inr (0, [.ref q1, .null, .int (iI 0)])), (q1, eI t.1 400 (fun _ => 0)), (q2, eI t.1 4800 (fun _ => 0))] := hD
  refine z_putF (ci := 0) (C := R_Ha) (T := F_Ha) (N := 3) (v := .ref q2) (ws' := [(o, .inr (0, [.ref q1, .ref q2, .int (iI 0)])), (q1, eI t.1 400 (fun _ => 0)), (q2, eI t.1 4800 (fun _ => 0))]) hC in_Ha t_Ha t_Ha_ok n_Ha hK hP hD hS 0 rfl rfl 1 (by decide) k_84 rfl hin rfl rfl rfl (Nat.le_of_ble_eq_true rfl) rfl d_Ha_init_19 (fun H locs hP hD hS => ?_)
  refine lv_aload_n hC.1 hC.2.1 d_Ha_init_22 rfl (lv_at hl 0 rfl) ?_
  refine z_iconst hC d_Ha_init_23 ?_
  refine z_put (ci := 0) (C := R_Ha) (T := F_Ha) (N := 3) (v := .int (iI 0)) (ws' := [(o, .inr (0, [.ref q1, .ref q2, .int (iI 0)])), (q1, eI t.1 400 (fun _ => 0)), (q2, eI t.1 4800 (fun _ => 0))]) hC in_Ha t_Ha t_Ha_ok n_Ha hK hP hD hS 0 rfl rfl 2 (by decide) k_87 rfl rfl rfl (Nat.le_of_ble_eq_true rfl) rfl d_Ha_init_24 (fun H locs hP hD hS => ?_)
  refine W.widen (k := 2) (n := 5200) (Nat.le_of_ble_eq_true rfl) (Nat.le_of_ble_eq_true rfl) ?_
  have hP9 := hP.sub (ws' := [(o, .inr (0, [.ref q1, .ref q2, .int (iI 0)])), (q1, eI t.1 400 (fun _ => 0)), (q2, eI t.1 4800 (fun _ => 0))]) [0, 1, 2] rfl
  have hD9 := hD.sub (ws' := [(o, .inr (0, [.ref q1, .ref q2, .int (iI 0)])), (q1, eI t.1 400 (fun _ => 0)), (q2, eI t.1 4800 (fun _ => 0))]) [0, 1, 2] (by decide) rfl
  exact ret (q1, q2) _ _ 27 _ d_Ha_init_27 trivial hP9 hD9 hS
theorem ye_St_init : ye y_St_init R_St 0 := by unfold ye; decide +kernel
abbrev rm_St_init : Room := { frames := 1, cells := 2, slots := 4000, locals := 20 }
set_option maxHeartbeats 4000000 in
set_option maxRecDepth 100000 in
theorem c_St_init (l : Launch) (D : va_G) (t : vt) (ts : Nat → Nat) (o : Nat) (sz : Nat) : Met l y_St_init (.code y_St_init b_St_init 1 none :: tb_ws) rm_St_init (MP D t ts [.ref o] [(o, .inr (2, [.null, .null]))] sz) (va_Qv (fun u : Nat × Nat => True) (MB D (va_A [(o, .inr (2, [.null, .null]))] sz) (fun u : Nat × Nat => [(o, .inr (2, [.ref u.1, .ref u.2])), (u.1, eL t.2.1 2000 (fun _ => 0)), (u.2, eL t.2.1 2000 (fun _ => 0))])) (va_A [(o, .inr (2, [.null, .null]))] sz)) 2 4000 (va_A [(o, .inr (2, [.null, .null]))] sz) := by
  refine mA_v (by decide +kernel) (Nat.le_of_ble_eq_true rfl) ?_
  intro zp ze zs zm zb zt zc zQ A ls hin hC hA hP hK hD hE hS hl ret
  have hl : lv_has ls 1 [(0, .ref o)] := hl
  refine lv_aload_n hC.1 hC.2.1 d_St_init_0 rfl (lv_at hl 0 rfl) ?_
  refine z_oinit hC k_26 hl.1 (by decide) (Nat.le_of_ble_eq_true rfl) d_St_init_1 ?_
  refine lv_aload_n hC.1 hC.2.1 d_St_init_4 rfl (lv_at hl 0 rfl) ?_
  refine z_sipush hC d_St_init_5 (by decide) ?_
  refine z_newL hC hK hP hD hS hA 2000 rfl (by decide) ⟨Nat.le_of_ble_eq_true rfl, Nat.le_of_ble_eq_true rfl⟩ d_St_init_8 (fun q1 H hP hD hS => ?_)
  have hP : va_P D classes [(o, .inr (2, [.null, .null])), (q1, eL t.2.1 2000 (fun _ => 0))] H := hP
  have hD : va_D A [(o, .inr (2, [.null, .null])), (q1, eL t.2.1 2000 (fun _ => 0))] := hD
  refine z_putF (ci := 2) (C := R_St) (T := F_St) (N := 2) (v := .ref q1) (ws' := [(o, .inr (2, [.ref q1, .null])), (q1, eL t.2.1 2000 (fun _ => 0))]) hC in_St t_St t_St_ok n_St hK hP hD hS 0 rfl rfl 0 (by decide) k_27 rfl hin rfl rfl rfl (Nat.le_of_ble_eq_true rfl) rfl d_St_init_10 (fun H locs hP hD hS => ?_)
  refine lv_aload_n hC.1 hC.2.1 d_St_init_13 rfl (lv_at hl 0 rfl) ?_
  refine z_sipush hC d_St_init_14 (by decide) ?_
  refine z_newL hC hK hP hD hS hA 2000 rfl (by decide) ⟨Nat.le_of_ble_eq_true rfl, Nat.le_of_ble_eq_true rfl⟩ d_St_init_17 (fun q2 H hP hD hS => ?_)
  have hP : va_P D classes [(o, .inr (2, [.ref q1, .null])), (q1, eL t.2.1 2000 (fun _ => 0)), (q2, eL t.2.1 2000 (fun _ => 0))] H := hP
  have hD : va_D A [(o, .inr (2, [.ref q1, .null])), (q1, eL t.2.1 2000 (fun _ => 0)), (q2, eL t.2.1 2000 (fun _ => 0))] := hD
  refine z_putF (ci := 2) (C := R_St) (T := F_St) (N := 2) (v := .ref q2) (ws' := [(o, .inr (2, [.ref q1, .ref q2])), (q1, eL t.2.1 2000 (fun _ => 0)), (q2, eL t.2.1 2000 (fun _ => 0))]) hC in_St t_St t_St_ok n_St hK hP hD hS 0 rfl rfl 1 (by decide) k_28 rfl hin rfl rfl rfl (Nat.le_of_ble_eq_true rfl) rfl d_St_init_19 (fun H locs hP hD hS => ?_)
  refine W.widen (k := 2) (n := 4000) (Nat.le_of_ble_eq_true rfl) (Nat.le_of_ble_eq_true rfl) ?_
  have hP9 := hP.sub (ws' := [(o, .inr (2, [.ref q1, .ref q2])), (q1, eL t.2.1 2000 (fun _ => 0)), (q2, eL t.2.1 2000 (fun _ => 0))]) [0, 1, 2] rfl
  have hD9 := hD.sub (ws' := [(o, .inr (2, [.ref q1, .ref q2])), (q1, eL t.2.1 2000 (fun _ => 0)), (q2, eL t.2.1 2000 (fun _ => 0))]) [0, 1, 2] (by decide) rfl
  exact ret (q1, q2) _ _ 22 _ d_St_init_22 trivial hP9 hD9 hS
theorem ye_Ru_init : ye y_Ru_init R_Ru 0 := by unfold ye; decide +kernel
abbrev rm_Ru_init : Room := { frames := 2, cells := 2, slots := 4, locals := 40 }
set_option maxHeartbeats 4000000 in
set_option maxRecDepth 100000 in
theorem c_Ru_init (l : Launch) (D : va_G) (t : vt) (ts : Nat → Nat) (o : Nat) (sz : Nat) : Met l y_Ru_init (.code y_Ru_init b_Ru_init 1 none :: tb_ws) rm_Ru_init (MP D t ts [.ref o] [(o, .inr (1, [.int (iI 0), .int (iI 0), .long (lI 0), .long (lI 0), .long (lI 0), .null, .null]))] sz) (va_Qv (fun u : Nat × Nat => True) (MB D (va_A [(o, .inr (1, [.int (iI 0), .int (iI 0), .long (lI 0), .long (lI 0), .long (lI 0), .null, .null]))] sz) (fun u : Nat × Nat => [(o, .inr (1, [.int (iI 0), .int (iI 0), .long (lI 0), .long (lI 0), .long (lI 0), .ref u.1, .ref u.2])), (u.1, .inr (3, [.long (lI 0), .long (lI 0)])), (u.2, .inr (3, [.long (lI 0), .long (lI 0)]))])) (va_A [(o, .inr (1, [.int (iI 0), .int (iI 0), .long (lI 0), .long (lI 0), .long (lI 0), .null, .null]))] sz)) 2 4 (va_A [(o, .inr (1, [.int (iI 0), .int (iI 0), .long (lI 0), .long (lI 0), .long (lI 0), .null, .null]))] sz) := by
  refine mA_v (by decide +kernel) (Nat.le_of_ble_eq_true rfl) ?_
  intro zp ze zs zm zb zt zc zQ A ls hin hC hA hP hK hD hE hS hl ret
  have hl : lv_has ls 1 [(0, .ref o)] := hl
  refine lv_aload_n hC.1 hC.2.1 d_Ru_init_0 rfl (lv_at hl 0 rfl) ?_
  refine z_oinit hC k_40 hl.1 (by decide) (Nat.le_of_ble_eq_true rfl) d_Ru_init_1 ?_
  refine lv_aload_n hC.1 hC.2.1 d_Ru_init_4 rfl (lv_at hl 0 rfl) ?_
  refine z_iconst hC d_Ru_init_5 ?_
  refine z_put (ci := 1) (C := R_Ru) (T := F_Ru) (N := 7) (v := .int (iI 0)) (ws' := [(o, .inr (1, [.int (iI 0), .int (iI 0), .long (lI 0), .long (lI 0), .long (lI 0), .null, .null]))]) hC in_Ru t_Ru t_Ru_ok n_Ru hK hP hD hS 0 rfl rfl 0 (by decide) k_54 rfl (by decide) (by decide) (Nat.le_of_ble_eq_true rfl) rfl d_Ru_init_6 (fun H locs hP hD hS => ?_)
  refine lv_aload_n hC.1 hC.2.1 d_Ru_init_9 rfl (lv_at hl 0 rfl) ?_
  refine z_iconst hC d_Ru_init_10 ?_
  refine z_put (ci := 1) (C := R_Ru) (T := F_Ru) (N := 7) (v := .int (iI 0)) (ws' := [(o, .inr (1, [.int (iI 0), .int (iI 0), .long (lI 0), .long (lI 0), .long (lI 0), .null, .null]))]) hC in_Ru t_Ru t_Ru_ok n_Ru hK hP hD hS 0 rfl rfl 1 (by decide) k_55 rfl rfl rfl (Nat.le_of_ble_eq_true rfl) rfl d_Ru_init_11 (fun H locs hP hD hS => ?_)
  refine lv_aload_n hC.1 hC.2.1 d_Ru_init_14 rfl (lv_at hl 0 rfl) ?_
  refine z_lconst (v := 0) hC d_Ru_init_15 (by decide) ?_
  refine z_put (ci := 1) (C := R_Ru) (T := F_Ru) (N := 7) (v := .long (lI 0)) (ws' := [(o, .inr (1, [.int (iI 0), .int (iI 0), .long (lI 0), .long (lI 0), .long (lI 0), .null, .null]))]) hC in_Ru t_Ru t_Ru_ok n_Ru hK hP hD hS 0 rfl rfl 2 (by decide) k_56 rfl rfl rfl (Nat.le_of_ble_eq_true rfl) rfl d_Ru_init_16 (fun H locs hP hD hS => ?_)
  refine lv_aload_n hC.1 hC.2.1 d_Ru_init_19 rfl (lv_at hl 0 rfl) ?_
  refine z_lconst (v := 0) hC d_Ru_init_20 (by decide) ?_
  refine z_put (ci := 1) (C := R_Ru) (T := F_Ru) (N := 7) (v := .long (lI 0)) (ws' := [(o, .inr (1, [.int (iI 0), .int (iI 0), .long (lI 0), .long (lI 0), .long (lI 0), .null, .null]))]) hC in_Ru t_Ru t_Ru_ok n_Ru hK hP hD hS 0 rfl rfl 3 (by decide) k_57 rfl rfl rfl (Nat.le_of_ble_eq_true rfl) rfl d_Ru_init_21 (fun H locs hP hD hS => ?_)
  refine lv_aload_n hC.1 hC.2.1 d_Ru_init_24 rfl (lv_at hl 0 rfl) ?_
  refine z_lconst (v := 0) hC d_Ru_init_25 (by decide) ?_
  refine z_put (ci := 1) (C := R_Ru) (T := F_Ru) (N := 7) (v := .long (lI 0)) (ws' := [(o, .inr (1, [.int (iI 0), .int (iI 0), .long (lI 0), .long (lI 0), .long (lI 0), .null, .null]))]) hC in_Ru t_Ru t_Ru_ok n_Ru hK hP hD hS 0 rfl rfl 4 (by decide) k_58 rfl rfl rfl (Nat.le_of_ble_eq_true rfl) rfl d_Ru_init_26 (fun H locs hP hD hS => ?_)
  refine lv_aload_n hC.1 hC.2.1 d_Ru_init_29 rfl (lv_at hl 0 rfl) ?_
  refine z_new (ci := 3) (C := R_Wi) (T := F_Wi) (N := 2) (fs := [.long (lI 0), .long (lI 0)]) hC in_Wi t_Wi t_Wi_ok k_41 k_42 k_4 hK hP hD hS hA rfl (fun j hj => by rcases (show j = 0 ∨ j = 1 by omega) with rfl | rfl <;> rfl) ⟨Nat.le_of_ble_eq_true rfl, Nat.le_of_ble_eq_true rfl⟩ d_Ru_init_30 (fun q1 H hP hD hS => ?_)
  have hP : va_P D classes [(o, .inr (1, [.int (iI 0), .int (iI 0), .long (lI 0), .long (lI 0), .long (lI 0), .null, .null])), (q1, .inr (3, [.long (lI 0), .long (lI 0)]))] H := hP
  have hD : va_D A [(o, .inr (1, [.int (iI 0), .int (iI 0), .long (lI 0), .long (lI 0), .long (lI 0), .null, .null])), (q1, .inr (3, [.long (lI 0), .long (lI 0)]))] := hD
  refine lv_dup hC.1 hC.2.1 d_Ru_init_33 rfl ?_
  refine z_cIN (As := []) (rest := [.ref q1, .ref o]) (wr := [(o, .inr (1, [.int (iI 0), .int (iI 0), .long (lI 0), .long (lI 0), .long (lI 0), .null, .null]))]) hC (c_Wi_init l D t ts q1 _) (cw_IN hC hE.1.2.2.2.2.2.2.2.2.1 k_44 k_4 k_45 ye_Wi_init rfl (by decide)) hP hD hK hE hS hA [1] [0] (by decide) rfl rfl (by decide) (by decide) rfl hl.1 rfl (Nat.le_of_ble_eq_true rfl) ⟨Nat.le_of_ble_eq_true rfl, Nat.le_of_ble_eq_true rfl⟩ d_Ru_init_34 (fun u2 H locs eu2 hP hD hS => ?_)
  have hP : va_P D classes [(o, .inr (1, [.int (iI 0), .int (iI 0), .long (lI 0), .long (lI 0), .long (lI 0), .null, .null])), (q1, .inr (3, [.long (lI 0), .long (lI 0)]))] H := hP
  have hD : va_D A [(o, .inr (1, [.int (iI 0), .int (iI 0), .long (lI 0), .long (lI 0), .long (lI 0), .null, .null])), (q1, .inr (3, [.long (lI 0), .long (lI 0)]))] := hD
  refine z_put (ci := 1) (C := R_Ru) (T := F_Ru) (N := 7) (v := .ref q1) (ws' := [(o, .inr (1, [.int (iI 0), .int (iI 0), .long (lI 0), .long (lI 0), .long (lI 0), .ref q1, .null])), (q1, .inr (3, [.long (lI 0), .long (lI 0)]))]) hC in_Ru t_Ru t_Ru_ok n_Ru hK hP hD hS 0 rfl rfl 5 (by decide) k_59 rfl rfl rfl (Nat.le_of_ble_eq_true rfl) rfl d_Ru_init_37 (fun H locs hP hD hS => ?_)
  refine lv_aload_n hC.1 hC.2.1 d_Ru_init_40 rfl (lv_at hl 0 rfl) ?_
  refine z_new (ci := 3) (C := R_Wi) (T := F_Wi) (N := 2) (fs := [.long (lI 0), .long (lI 0)]) hC in_Wi t_Wi t_Wi_ok k_41 k_42 k_4 hK hP hD hS hA rfl (fun j hj => by rcases (show j = 0 ∨ j = 1 by omega) with rfl | rfl <;> rfl) ⟨Nat.le_of_ble_eq_true rfl, Nat.le_of_ble_eq_true rfl⟩ d_Ru_init_41 (fun q3 H hP hD hS => ?_)
  have hP : va_P D classes [(o, .inr (1, [.int (iI 0), .int (iI 0), .long (lI 0), .long (lI 0), .long (lI 0), .ref q1, .null])), (q1, .inr (3, [.long (lI 0), .long (lI 0)])), (q3, .inr (3, [.long (lI 0), .long (lI 0)]))] H := hP
  have hD : va_D A [(o, .inr (1, [.int (iI 0), .int (iI 0), .long (lI 0), .long (lI 0), .long (lI 0), .ref q1, .null])), (q1, .inr (3, [.long (lI 0), .long (lI 0)])), (q3, .inr (3, [.long (lI 0), .long (lI 0)]))] := hD
  refine lv_dup hC.1 hC.2.1 d_Ru_init_44 rfl ?_
  refine z_cIN (As := []) (rest := [.ref q3, .ref o]) (wr := [(o, .inr (1, [.int (iI 0), .int (iI 0), .long (lI 0), .long (lI 0), .long (lI 0), .ref q1, .null])), (q1, .inr (3, [.long (lI 0), .long (lI 0)]))]) hC (c_Wi_init l D t ts q3 _) (cw_IN hC hE.1.2.2.2.2.2.2.2.2.1 k_44 k_4 k_45 ye_Wi_init rfl (by decide)) hP hD hK hE hS hA [2] [0, 1] (by decide) rfl rfl (by decide) (by decide) rfl hl.1 rfl (Nat.le_of_ble_eq_true rfl) ⟨Nat.le_of_ble_eq_true rfl, Nat.le_of_ble_eq_true rfl⟩ d_Ru_init_45 (fun u4 H locs eu4 hP hD hS => ?_)
  have hP : va_P D classes [(o, .inr (1, [.int (iI 0), .int (iI 0), .long (lI 0), .long (lI 0), .long (lI 0), .ref q1, .null])), (q1, .inr (3, [.long (lI 0), .long (lI 0)])), (q3, .inr (3, [.long (lI 0), .long (lI 0)]))] H := hP
  have hD : va_D A [(o, .inr (1, [.int (iI 0), .int (iI 0), .long (lI 0), .long (lI 0), .long (lI 0), .ref q1, .null])), (q1, .inr (3, [.long (lI 0), .long (lI 0)])), (q3, .inr (3, [.long (lI 0), .long (lI 0)]))] := hD
  refine z_put (ci := 1) (C := R_Ru) (T := F_Ru) (N := 7) (v := .ref q3) (ws' := [(o, .inr (1, [.int (iI 0), .int (iI 0), .long (lI 0), .long (lI 0), .long (lI 0), .ref q1, .ref q3])), (q1, .inr (3, [.long (lI 0), .long (lI 0)])), (q3, .inr (3, [.long (lI 0), .long (lI 0)]))]) hC in_Ru t_Ru t_Ru_ok n_Ru hK hP hD hS 0 rfl rfl 6 (by decide) k_60 rfl rfl rfl (Nat.le_of_ble_eq_true rfl) rfl d_Ru_init_48 (fun H locs hP hD hS => ?_)
  refine W.widen (k := 2) (n := 4) (Nat.le_of_ble_eq_true rfl) (Nat.le_of_ble_eq_true rfl) ?_
  have hP9 := hP.sub (ws' := [(o, .inr (1, [.int (iI 0), .int (iI 0), .long (lI 0), .long (lI 0), .long (lI 0), .ref q1, .ref q3])), (q1, .inr (3, [.long (lI 0), .long (lI 0)])), (q3, .inr (3, [.long (lI 0), .long (lI 0)]))]) [0, 1, 2] rfl
  have hD9 := hD.sub (ws' := [(o, .inr (1, [.int (iI 0), .int (iI 0), .long (lI 0), .long (lI 0), .long (lI 0), .ref q1, .ref q3])), (q1, .inr (3, [.long (lI 0), .long (lI 0)])), (q3, .inr (3, [.long (lI 0), .long (lI 0)]))]) [0, 1, 2] (by decide) rfl
  exact ret (q1, q3) _ _ 51 _ d_Ru_init_51 trivial hP9 hD9 hS
theorem ye_X_init : ye y_X_init R_X 0 := by unfold ye; decide +kernel
abbrev rm_X_init : Room := { frames := 3, cells := 12, slots := 9641, locals := 60 }
set_option maxHeartbeats 4000000 in
set_option maxRecDepth 100000 in
theorem c_X_init (l : Launch) (D : va_G) (t : vt) (ts : Nat → Nat) (x : Nat) (sz : Nat) : Met l y_X_init (.code y_X_init b_X_init 1 none :: tb_ws) rm_X_init (MP D t ts [.ref x] [(x, .inr (4, [.null, .null, .null, .null, .null, .null, .null, .int (iI 0)]))] sz) (va_Qv (fun u : Nat × Nat × Nat × Nat × Nat × Nat × Nat × Nat × Nat × Nat × Nat × Nat => True) (MB D (va_A [(x, .inr (4, [.null, .null, .null, .null, .null, .null, .null, .int (iI 0)]))] sz) (fun u : Nat × Nat × Nat × Nat × Nat × Nat × Nat × Nat × Nat × Nat × Nat × Nat => [(x, .inr (4, [.ref u.1, .ref u.2.2.2.1, .ref u.2.2.2.2.2.2.1, .ref u.2.2.2.2.2.2.2.1, .ref u.2.2.2.2.2.2.2.2.1, .ref u.2.2.2.2.2.2.2.2.2.1, .null, .int (iI 0)])), (u.1, .inr (2, [.ref u.2.1, .ref u.2.2.1])), (u.2.1, eL t.2.1 2000 (fun _ => 0)), (u.2.2.1, eL t.2.1 2000 (fun _ => 0)), (u.2.2.2.1, .inr (1, [.int (iI 0), .int (iI 0), .long (lI 0), .long (lI 0), .long (lI 0), .ref u.2.2.2.2.1, .ref u.2.2.2.2.2.1])), (u.2.2.2.2.1, .inr (3, [.long (lI 0), .long (lI 0)])), (u.2.2.2.2.2.1, .inr (3, [.long (lI 0), .long (lI 0)])), (u.2.2.2.2.2.2.1, eI t.1 20 (fun _ => 0)), (u.2.2.2.2.2.2.2.1, eL t.2.1 5 (fun _ => 0)), (u.2.2.2.2.2.2.2.2.1, eI t.1 400 (fun _ => 0)), (u.2.2.2.2.2.2.2.2.2.1, .inr (0, [.ref u.2.2.2.2.2.2.2.2.2.2.1, .ref u.2.2.2.2.2.2.2.2.2.2.2, .int (iI 0)])), (u.2.2.2.2.2.2.2.2.2.2.1, eI t.1 400 (fun _ => 0)), (u.2.2.2.2.2.2.2.2.2.2.2, eI t.1 4800 (fun _ => 0))])) (va_A [(x, .inr (4, [.null, .null, .null, .null, .null, .null, .null, .int (iI 0)]))] sz)) 12 9641 (va_A [(x, .inr (4, [.null, .null, .null, .null, .null, .null, .null, .int (iI 0)]))] sz) := by
  refine mA_v (by decide +kernel) (Nat.le_of_ble_eq_true rfl) ?_
  intro zp ze zs zm zb zt zc zQ A ls hin hC hA hP hK hD hE hS hl ret
  have hl : lv_has ls 1 [(0, .ref x)] := hl
  refine lv_aload_n hC.1 hC.2.1 d_X_init_0 rfl (lv_at hl 0 rfl) ?_
  refine z_oinit hC k_18 hl.1 (by decide) (Nat.le_of_ble_eq_true rfl) d_X_init_1 ?_
  refine lv_aload_n hC.1 hC.2.1 d_X_init_4 rfl (lv_at hl 0 rfl) ?_
  refine z_new (ci := 2) (C := R_St) (T := F_St) (N := 2) (fs := [.null, .null]) hC in_St t_St t_St_ok k_21 k_22 k_2 hK hP hD hS hA rfl (fun j hj => by rcases (show j = 0 ∨ j = 1 by omega) with rfl | rfl <;> rfl) ⟨Nat.le_of_ble_eq_true rfl, Nat.le_of_ble_eq_true rfl⟩ d_X_init_5 (fun q1 H hP hD hS => ?_)
  have hP : va_P D classes [(x, .inr (4, [.null, .null, .null, .null, .null, .null, .null, .int (iI 0)])), (q1, .inr (2, [.null, .null]))] H := hP
  have hD : va_D A [(x, .inr (4, [.null, .null, .null, .null, .null, .null, .null, .int (iI 0)])), (q1, .inr (2, [.null, .null]))] := hD
  refine lv_dup hC.1 hC.2.1 d_X_init_8 rfl ?_
  refine z_cIN (As := []) (rest := [.ref q1, .ref x]) (wr := [(x, .inr (4, [.null, .null, .null, .null, .null, .null, .null, .int (iI 0)]))]) hC (c_St_init l D t ts q1 _) (cw_IN hC hE.1.2.2.2.2.2.2.1 k_24 k_2 k_25 ye_St_init rfl (by decide)) hP hD hK hE hS hA [1] [0] (by decide) rfl rfl (by decide) (by decide) rfl hl.1 rfl (Nat.le_of_ble_eq_true rfl) ⟨Nat.le_of_ble_eq_true rfl, Nat.le_of_ble_eq_true rfl⟩ d_X_init_9 (fun u2 H locs eu2 hP hD hS => ?_)
  obtain ⟨u2a, u2b⟩ := u2
  dsimp only at hP hD
  have hP : va_P D classes [(x, .inr (4, [.null, .null, .null, .null, .null, .null, .null, .int (iI 0)])), (q1, .inr (2, [.ref u2a, .ref u2b])), (u2a, eL t.2.1 2000 (fun _ => 0)), (u2b, eL t.2.1 2000 (fun _ => 0))] H := hP
  have hD : va_D A [(x, .inr (4, [.null, .null, .null, .null, .null, .null, .null, .int (iI 0)])), (q1, .inr (2, [.ref u2a, .ref u2b])), (u2a, eL t.2.1 2000 (fun _ => 0)), (u2b, eL t.2.1 2000 (fun _ => 0))] := hD
  refine z_putF (ci := 4) (C := R_X) (T := F_X) (N := 8) (v := .ref q1) (ws' := [(x, .inr (4, [.ref q1, .null, .null, .null, .null, .null, .null, .int (iI 0)])), (q1, .inr (2, [.ref u2a, .ref u2b])), (u2a, eL t.2.1 2000 (fun _ => 0)), (u2b, eL t.2.1 2000 (fun _ => 0))]) hC in_X t_X t_X_ok n_X hK hP hD hS 0 rfl rfl 0 (by decide) k_98 rfl hin rfl rfl rfl (Nat.le_of_ble_eq_true rfl) rfl d_X_init_12 (fun H locs hP hD hS => ?_)
  refine lv_aload_n hC.1 hC.2.1 d_X_init_15 rfl (lv_at hl 0 rfl) ?_
  refine z_new (ci := 1) (C := R_Ru) (T := F_Ru) (N := 7) (fs := [.int (iI 0), .int (iI 0), .long (lI 0), .long (lI 0), .long (lI 0), .null, .null]) hC in_Ru t_Ru t_Ru_ok k_35 k_36 k_3 hK hP hD hS hA rfl (fun j hj => by rcases (show j = 0 ∨ j = 1 ∨ j = 2 ∨ j = 3 ∨ j = 4 ∨ j = 5 ∨ j = 6 by omega) with rfl | rfl | rfl | rfl | rfl | rfl | rfl <;> rfl) ⟨Nat.le_of_ble_eq_true rfl, Nat.le_of_ble_eq_true rfl⟩ d_X_init_16 (fun q3 H hP hD hS => ?_)
  have hP : va_P D classes [(x, .inr (4, [.ref q1, .null, .null, .null, .null, .null, .null, .int (iI 0)])), (q1, .inr (2, [.ref u2a, .ref u2b])), (u2a, eL t.2.1 2000 (fun _ => 0)), (u2b, eL t.2.1 2000 (fun _ => 0)), (q3, .inr (1, [.int (iI 0), .int (iI 0), .long (lI 0), .long (lI 0), .long (lI 0), .null, .null]))] H := hP
  have hD : va_D A [(x, .inr (4, [.ref q1, .null, .null, .null, .null, .null, .null, .int (iI 0)])), (q1, .inr (2, [.ref u2a, .ref u2b])), (u2a, eL t.2.1 2000 (fun _ => 0)), (u2b, eL t.2.1 2000 (fun _ => 0)), (q3, .inr (1, [.int (iI 0), .int (iI 0), .long (lI 0), .long (lI 0), .long (lI 0), .null, .null]))] := hD
  refine lv_dup hC.1 hC.2.1 d_X_init_19 rfl ?_
  refine z_cIN (As := []) (rest := [.ref q3, .ref x]) (wr := [(x, .inr (4, [.ref q1, .null, .null, .null, .null, .null, .null, .int (iI 0)])), (q1, .inr (2, [.ref u2a, .ref u2b])), (u2a, eL t.2.1 2000 (fun _ => 0)), (u2b, eL t.2.1 2000 (fun _ => 0))]) hC (c_Ru_init l D t ts q3 _) (cw_IN hC hE.1.2.2.2.2.2.2.2.1 k_38 k_3 k_39 ye_Ru_init rfl (by decide)) hP hD hK hE hS hA [4] [0, 1, 2, 3] (by decide) rfl rfl (by decide) (by decide) rfl hl.1 rfl (Nat.le_of_ble_eq_true rfl) ⟨Nat.le_of_ble_eq_true rfl, Nat.le_of_ble_eq_true rfl⟩ d_X_init_20 (fun u4 H locs eu4 hP hD hS => ?_)
  obtain ⟨u4a, u4b⟩ := u4
  dsimp only at hP hD
  have hP : va_P D classes [(x, .inr (4, [.ref q1, .null, .null, .null, .null, .null, .null, .int (iI 0)])), (q1, .inr (2, [.ref u2a, .ref u2b])), (u2a, eL t.2.1 2000 (fun _ => 0)), (u2b, eL t.2.1 2000 (fun _ => 0)), (q3, .inr (1, [.int (iI 0), .int (iI 0), .long (lI 0), .long (lI 0), .long (lI 0), .ref u4a, .ref u4b])), (u4a, .inr (3, [.long (lI 0), .long (lI 0)])), (u4b, .inr (3, [.long (lI 0), .long (lI 0)]))] H := hP
  have hD : va_D A [(x, .inr (4, [.ref q1, .null, .null, .null, .null, .null, .null, .int (iI 0)])), (q1, .inr (2, [.ref u2a, .ref u2b])), (u2a, eL t.2.1 2000 (fun _ => 0)), (u2b, eL t.2.1 2000 (fun _ => 0)), (q3, .inr (1, [.int (iI 0), .int (iI 0), .long (lI 0), .long (lI 0), .long (lI 0), .ref u4a, .ref u4b])), (u4a, .inr (3, [.long (lI 0), .long (lI 0)])), (u4b, .inr (3, [.long (lI 0), .long (lI 0)]))] := hD
  refine z_putF (ci := 4) (C := R_X) (T := F_X) (N := 8) (v := .ref q3) (ws' := [(x, .inr (4, [.ref q1, .ref q3, .null, .null, .null, .null, .null, .int (iI 0)])), (q1, .inr (2, [.ref u2a, .ref u2b])), (u2a, eL t.2.1 2000 (fun _ => 0)), (u2b, eL t.2.1 2000 (fun _ => 0)), (q3, .inr (1, [.int (iI 0), .int (iI 0), .long (lI 0), .long (lI 0), .long (lI 0), .ref u4a, .ref u4b])), (u4a, .inr (3, [.long (lI 0), .long (lI 0)])), (u4b, .inr (3, [.long (lI 0), .long (lI 0)]))]) hC in_X t_X t_X_ok n_X hK hP hD hS 0 rfl rfl 1 (by decide) k_99 rfl hin rfl rfl rfl (Nat.le_of_ble_eq_true rfl) rfl d_X_init_23 (fun H locs hP hD hS => ?_)
  refine lv_aload_n hC.1 hC.2.1 d_X_init_26 rfl (lv_at hl 0 rfl) ?_
  refine z_bipush hC d_X_init_27 (by decide) ?_
  refine z_newI hC hK hP hD hS hA 20 rfl (by decide) ⟨Nat.le_of_ble_eq_true rfl, Nat.le_of_ble_eq_true rfl⟩ d_X_init_29 (fun q5 H hP hD hS => ?_)
  have hP : va_P D classes [(x, .inr (4, [.ref q1, .ref q3, .null, .null, .null, .null, .null, .int (iI 0)])), (q1, .inr (2, [.ref u2a, .ref u2b])), (u2a, eL t.2.1 2000 (fun _ => 0)), (u2b, eL t.2.1 2000 (fun _ => 0)), (q3, .inr (1, [.int (iI 0), .int (iI 0), .long (lI 0), .long (lI 0), .long (lI 0), .ref u4a, .ref u4b])), (u4a, .inr (3, [.long (lI 0), .long (lI 0)])), (u4b, .inr (3, [.long (lI 0), .long (lI 0)])), (q5, eI t.1 20 (fun _ => 0))] H := hP
  have hD : va_D A [(x, .inr (4, [.ref q1, .ref q3, .null, .null, .null, .null, .null, .int (iI 0)])), (q1, .inr (2, [.ref u2a, .ref u2b])), (u2a, eL t.2.1 2000 (fun _ => 0)), (u2b, eL t.2.1 2000 (fun _ => 0)), (q3, .inr (1, [.int (iI 0), .int (iI 0), .long (lI 0), .long (lI 0), .long (lI 0), .ref u4a, .ref u4b])), (u4a, .inr (3, [.long (lI 0), .long (lI 0)])), (u4b, .inr (3, [.long (lI 0), .long (lI 0)])), (q5, eI t.1 20 (fun _ => 0))] := hD
  refine z_putF (ci := 4) (C := R_X) (T := F_X) (N := 8) (v := .ref q5) (ws' := [(x, .inr (4, [.ref q1, .ref q3, .ref q5, .null, .null, .null, .null, .int (iI 0)])), (q1, .inr (2, [.ref u2a, .ref u2b])), (u2a, eL t.2.1 2000 (fun _ => 0)), (u2b, eL t.2.1 2000 (fun _ => 0)), (q3, .inr (1, [.int (iI 0), .int (iI 0), .long (lI 0), .long (lI 0), .long (lI 0), .ref u4a, .ref u4b])), (u4a, .inr (3, [.long (lI 0), .long (lI 0)])), (u4b, .inr (3, [.long (lI 0), .long (lI 0)])), (q5, eI t.1 20 (fun _ => 0))]) hC in_X t_X t_X_ok n_X hK hP hD hS 0 rfl rfl 2 (by decide) k_100 rfl hin rfl rfl rfl (Nat.le_of_ble_eq_true rfl) rfl d_X_init_31 (fun H locs hP hD hS => ?_)
  refine lv_aload_n hC.1 hC.2.1 d_X_init_34 rfl (lv_at hl 0 rfl) ?_
  refine z_iconst hC d_X_init_35 ?_
  refine z_newL hC hK hP hD hS hA 5 rfl (by decide) ⟨Nat.le_of_ble_eq_true rfl, Nat.le_of_ble_eq_true rfl⟩ d_X_init_36 (fun q6 H hP hD hS => ?_)
  have hP : va_P D classes [(x, .inr (4, [.ref q1, .ref q3, .ref q5, .null, .null, .null, .null, .int (iI 0)])), (q1, .inr (2, [.ref u2a, .ref u2b])), (u2a, eL t.2.1 2000 (fun _ => 0)), (u2b, eL t.2.1 2000 (fun _ => 0)), (q3, .inr (1, [.int (iI 0), .int (iI 0), .long (lI 0), .long (lI 0), .long (lI 0), .ref u4a, .ref u4b])), (u4a, .inr (3, [.long (lI 0), .long (lI 0)])), (u4b, .inr (3, [.long (lI 0), .long (lI 0)])), (q5, eI t.1 20 (fun _ => 0)), (q6, eL t.2.1 5 (fun _ => 0))] H := hP
  have hD : va_D A [(x, .inr (4, [.ref q1, .ref q3, .ref q5, .null, .null, .null, .null, .int (iI 0)])), (q1, .inr (2, [.ref u2a, .ref u2b])), (u2a, eL t.2.1 2000 (fun _ => 0)), (u2b, eL t.2.1 2000 (fun _ => 0)), (q3, .inr (1, [.int (iI 0), .int (iI 0), .long (lI 0), .long (lI 0), .long (lI 0), .ref u4a, .ref u4b])), (u4a, .inr (3, [.long (lI 0), .long (lI 0)])), (u4b, .inr (3, [.long (lI 0), .long (lI 0)])), (q5, eI t.1 20 (fun _ => 0)), (q6, eL t.2.1 5 (fun _ => 0))] := hD
  refine z_putF (ci := 4) (C := R_X) (T := F_X) (N := 8) (v := .ref q6) (ws' := [(x, .inr (4, [.ref q1, .ref q3, .ref q5, .ref q6, .null, .null, .null, .int (iI 0)])), (q1, .inr (2, [.ref u2a, .ref u2b])), (u2a, eL t.2.1 2000 (fun _ => 0)), (u2b, eL t.2.1 2000 (fun _ => 0)), (q3, .inr (1, [.int (iI 0), .int (iI 0), .long (lI 0), .long (lI 0), .long (lI 0), .ref u4a, .ref u4b])), (u4a, .inr (3, [.long (lI 0), .long (lI 0)])), (u4b, .inr (3, [.long (lI 0), .long (lI 0)])), (q5, eI t.1 20 (fun _ => 0)), (q6, eL t.2.1 5 (fun _ => 0))]) hC in_X t_X t_X_ok n_X hK hP hD hS 0 rfl rfl 3 (by decide) k_101 rfl hin rfl rfl rfl (Nat.le_of_ble_eq_true rfl) rfl d_X_init_38 (fun H locs hP hD hS => ?_)
  refine lv_aload_n hC.1 hC.2.1 d_X_init_41 rfl (lv_at hl 0 rfl) ?_
  refine z_sipush hC d_X_init_42 (by decide) ?_
  refine z_newI hC hK hP hD hS hA 400 rfl (by decide) ⟨Nat.le_of_ble_eq_true rfl, Nat.le_of_ble_eq_true rfl⟩ d_X_init_45 (fun q7 H hP hD hS => ?_)
  have hP : va_P D classes [(x, .inr (4, [.ref q1, .ref q3, .ref q5, .ref q6, .null, .null, .null, .int (iI 0)])), (q1, .inr (2, [.ref u2a, .ref u2b])), (u2a, eL t.2.1 2000 (fun _ => 0)), (u2b, eL t.2.1 2000 (fun _ => 0)), (q3, .inr (1, [.int (iI 0), .int (iI 0), .long (lI 0), .long (lI 0), .long (lI 0), .ref u4a, .ref u4b])), (u4a, .inr (3, [.long (lI 0), .long (lI 0)])), (u4b, .inr (3, [.long (lI 0), .long (lI 0)])), (q5, eI t.1 20 (fun _ => 0)), (q6, eL t.2.1 5 (fun _ => 0)), (q7, eI t.1 400 (fun _ => 0))] H := hP
  have hD : va_D A [(x, .inr (4, [.ref q1, .ref q3, .ref q5, .ref q6, .null, .null, .null, .int (iI 0)])), (q1, .inr (2, [.ref u2a, .ref u2b])), (u2a, eL t.2.1 2000 (fun _ => 0)), (u2b, eL t.2.1 2000 (fun _ => 0)), (q3, .inr (1, [.int (iI 0), .int (iI 0), .long (lI 0), .long (lI 0), .long (lI 0), .ref u4a, .ref u4b])), (u4a, .inr (3, [.long (lI 0), .long (lI 0)])), (u4b, .inr (3, [.long (lI 0), .long (lI 0)])), (q5, eI t.1 20 (fun _ => 0)), (q6, eL t.2.1 5 (fun _ => 0)), (q7, eI t.1 400 (fun _ => 0))] := hD
  refine z_putF (ci := 4) (C := R_X) (T := F_X) (N := 8) (v := .ref q7) (ws' := [(x, .inr (4, [.ref q1, .ref q3, .ref q5, .ref q6, .ref q7, .null, .null, .int (iI 0)])), (q1, .inr (2, [.ref u2a, .ref u2b])), (u2a, eL t.2.1 2000 (fun _ => 0)), (u2b, eL t.2.1 2000 (fun _ => 0)), (q3, .inr (1, [.int (iI 0), .int (iI 0), .long (lI 0), .long (lI 0), .long (lI 0), .ref u4a, .ref u4b])), (u4a, .inr (3, [.long (lI 0), .long (lI 0)])), (u4b, .inr (3, [.long (lI 0), .long (lI 0)])), (q5, eI t.1 20 (fun _ => 0)), (q6, eL t.2.1 5 (fun _ => 0)), (q7, eI t.1 400 (fun _ => 0))]) hC in_X t_X t_X_ok n_X hK hP hD hS 0 rfl rfl 4 (by decide) k_102 rfl hin rfl rfl rfl (Nat.le_of_ble_eq_true rfl) rfl d_X_init_47 (fun H locs hP hD hS => ?_)
  refine lv_aload_n hC.1 hC.2.1 d_X_init_50 rfl (lv_at hl 0 rfl) ?_
  refine z_new (ci := 0) (C := R_Ha) (T := F_Ha) (N := 3) (fs := [.null, .null, .int (iI 0)]) hC in_Ha t_Ha t_Ha_ok k_76 k_77 k_5 hK hP hD hS hA rfl (fun j hj => by rcases (show j = 0 ∨ j = 1 ∨ j = 2 by omega) with rfl | rfl | rfl <;> rfl) ⟨Nat.le_of_ble_eq_true rfl, Nat.le_of_ble_eq_true rfl⟩ d_X_init_51 (fun q8 H hP hD hS => ?_)
  have hP : va_P D classes [(x, .inr (4, [.ref q1, .ref q3, .ref q5, .ref q6, .ref q7, .null, .null, .int (iI 0)])), (q1, .inr (2, [.ref u2a, .ref u2b])), (u2a, eL t.2.1 2000 (fun _ => 0)), (u2b, eL t.2.1 2000 (fun _ => 0)), (q3, .inr (1, [.int (iI 0), .int (iI 0), .long (lI 0), .long (lI 0), .long (lI 0), .ref u4a, .ref u4b])), (u4a, .inr (3, [.long (lI 0), .long (lI 0)])), (u4b, .inr (3, [.long (lI 0), .long (lI 0)])), (q5, eI t.1 20 (fun _ => 0)), (q6, eL t.2.1 5 (fun _ => 0)), (q7, eI t.1 400 (fun _ => 0)), (q8, .inr (0, [.null, .null, .int (iI 0)]))] H := hP
  have hD : va_D A [(x, .inr (4, [.ref q1, .ref q3, .ref q5, .ref q6, .ref q7, .null, .null, .int (iI 0)])), (q1, .inr (2, [.ref u2a, .ref u2b])), (u2a, eL t.2.1 2000 (fun _ => 0)), (u2b, eL t.2.1 2000 (fun _ => 0)), (q3, .inr (1, [.int (iI 0), .int (iI 0), .long (lI 0), .long (lI 0), .long (lI 0), .ref u4a, .ref u4b])), (u4a, .inr (3, [.long (lI 0), .long (lI 0)])), (u4b, .inr (3, [.long (lI 0), .long (lI 0)])), (q5, eI t.1 20 (fun _ => 0)), (q6, eL t.2.1 5 (fun _ => 0)), (q7, eI t.1 400 (fun _ => 0)), (q8, .inr (0, [.null, .null, .int (iI 0)]))] := hD
  refine lv_dup hC.1 hC.2.1 d_X_init_54 rfl ?_
  refine z_cIN (As := []) (rest := [.ref q8, .ref x]) (wr := [(x, .inr (4, [.ref q1, .ref q3, .ref q5, .ref q6, .ref q7, .null, .null, .int (iI 0)])), (q1, .inr (2, [.ref u2a, .ref u2b])), (u2a, eL t.2.1 2000 (fun _ => 0)), (u2b, eL t.2.1 2000 (fun _ => 0)), (q3, .inr (1, [.int (iI 0), .int (iI 0), .long (lI 0), .long (lI 0), .long (lI 0), .ref u4a, .ref u4b])), (u4a, .inr (3, [.long (lI 0), .long (lI 0)])), (u4b, .inr (3, [.long (lI 0), .long (lI 0)])), (q5, eI t.1 20 (fun _ => 0)), (q6, eL t.2.1 5 (fun _ => 0)), (q7, eI t.1 400 (fun _ => 0))]) hC (c_Ha_init l D t ts q8 _) (cw_IN hC hE.1.2.2.2.2.2.2.2.2.2 k_79 k_5 k_80 ye_Ha_init rfl (by decide)) hP hD hK hE hS hA [10] [0, 1, 2, 3, 4, 5, 6, 7, 8, 9] (by decide) rfl rfl (by decide) (by decide) rfl hl.1 rfl (Nat.le_of_ble_eq_true rfl) ⟨Nat.le_of_ble_eq_true rfl, Nat.le_of_ble_eq_true rfl⟩ d_X_init_55 (fun u9 H locs eu9 hP hD hS => ?_)
  obtain ⟨u9a, u9b⟩ := u9
  dsimp only at hP hD
  have hP : va_P D classes [(x, .inr (4, [.ref q1, .ref q3, .ref q5, .ref q6, .ref q7, .null, .null, .int (iI 0)])), (q1, .inr (2, [.ref u2a, .ref u2b])), (u2a, eL t.2.1 2000 (fun _ => 0)), (u2b, eL t.2.1 2000 (fun _ => 0)), (q3, .inr (1, [.int (iI 0), .int (iI 0), .long (lI 0), .long (lI 0), .long (lI 0), .ref u4a, .ref u4b])), (u4a, .inr (3, [.long (lI 0), .long (lI 0)])), (u4b, .inr (3, [.long (lI 0), .long (lI 0)])), (q5, eI t.1 20 (fun _ => 0)), (q6, eL t.2.1 5 (fun _ => 0)), (q7, eI t.1 400 (fun _ => 0)), (q8, .inr (0, [.ref u9a, .ref u9b, .int (iI 0)])), (u9a, eI t.1 400 (fun _ => 0)), (u9b, eI t.1 4800 (fun _ => 0))] H := hP
  have hD : va_D A [(x, .inr (4, [.ref q1, .ref q3, .ref q5, .ref q6, .ref q7, .null, .null, .int (iI 0)])), (q1, .inr (2, [.ref u2a, .ref u2b])), (u2a, eL t.2.1 2000 (fun _ => 0)), (u2b, eL t.2.1 2000 (fun _ => 0)), (q3, .inr (1, [.int (iI 0), .int (iI 0), .long (lI 0), .long (lI 0), .long (lI 0), .ref u4a, .ref u4b])), (u4a, .inr (3, [.long (lI 0), .long (lI 0)])), (u4b, .inr (3, [.long (lI 0), .long (lI 0)])), (q5, eI t.1 20 (fun _ => 0)), (q6, eL t.2.1 5 (fun _ => 0)), (q7, eI t.1 400 (fun _ => 0)), (q8, .inr (0, [.ref u9a, .ref u9b, .int (iI 0)])), (u9a, eI t.1 400 (fun _ => 0)), (u9b, eI t.1 4800 (fun _ => 0))] := hD
  refine z_put (ci := 4) (C := R_X) (T := F_X) (N := 8) (v := .ref q8) (ws' := [(x, .inr (4, [.ref q1, .ref q3, .ref q5, .ref q6, .ref q7, .ref q8, .null, .int (iI 0)])), (q1, .inr (2, [.ref u2a, .ref u2b])), (u2a, eL t.2.1 2000 (fun _ => 0)), (u2b, eL t.2.1 2000 (fun _ => 0)), (q3, .inr (1, [.int (iI 0), .int (iI 0), .long (lI 0), .long (lI 0), .long (lI 0), .ref u4a, .ref u4b])), (u4a, .inr (3, [.long (lI 0), .long (lI 0)])), (u4b, .inr (3, [.long (lI 0), .long (lI 0)])), (q5, eI t.1 20 (fun _ => 0)), (q6, eL t.2.1 5 (fun _ => 0)), (q7, eI t.1 400 (fun _ => 0)), (q8, .inr (0, [.ref u9a, .ref u9b, .int (iI 0)])), (u9a, eI t.1 400 (fun _ => 0)), (u9b, eI t.1 4800 (fun _ => 0))]) hC in_X t_X t_X_ok n_X hK hP hD hS 0 rfl rfl 5 (by decide) k_103 rfl rfl rfl (Nat.le_of_ble_eq_true rfl) rfl d_X_init_58 (fun H locs hP hD hS => ?_)
  refine lv_aload_n hC.1 hC.2.1 d_X_init_61 rfl (lv_at hl 0 rfl) ?_
  refine lv_null hC.1 hC.2.1 d_X_init_62 ?_
  refine z_put (ci := 4) (C := R_X) (T := F_X) (N := 8) (v := .null) (ws' := [(x, .inr (4, [.ref q1, .ref q3, .ref q5, .ref q6, .ref q7, .ref q8, .null, .int (iI 0)])), (q1, .inr (2, [.ref u2a, .ref u2b])), (u2a, eL t.2.1 2000 (fun _ => 0)), (u2b, eL t.2.1 2000 (fun _ => 0)), (q3, .inr (1, [.int (iI 0), .int (iI 0), .long (lI 0), .long (lI 0), .long (lI 0), .ref u4a, .ref u4b])), (u4a, .inr (3, [.long (lI 0), .long (lI 0)])), (u4b, .inr (3, [.long (lI 0), .long (lI 0)])), (q5, eI t.1 20 (fun _ => 0)), (q6, eL t.2.1 5 (fun _ => 0)), (q7, eI t.1 400 (fun _ => 0)), (q8, .inr (0, [.ref u9a, .ref u9b, .int (iI 0)])), (u9a, eI t.1 400 (fun _ => 0)), (u9b, eI t.1 4800 (fun _ => 0))]) hC in_X t_X t_X_ok n_X hK hP hD hS 0 rfl rfl 6 (by decide) k_104 rfl rfl rfl (Nat.le_of_ble_eq_true rfl) rfl d_X_init_63 (fun H locs hP hD hS => ?_)
  refine lv_aload_n hC.1 hC.2.1 d_X_init_66 rfl (lv_at hl 0 rfl) ?_
  refine z_iconst hC d_X_init_67 ?_
  refine z_put (ci := 4) (C := R_X) (T := F_X) (N := 8) (v := .int (iI 0)) (ws' := [(x, .inr (4, [.ref q1, .ref q3, .ref q5, .ref q6, .ref q7, .ref q8, .null, .int (iI 0)])), (q1, .inr (2, [.ref u2a, .ref u2b])), (u2a, eL t.2.1 2000 (fun _ => 0)), (u2b, eL t.2.1 2000 (fun _ => 0)), (q3, .inr (1, [.int (iI 0), .int (iI 0), .long (lI 0), .long (lI 0), .long (lI 0), .ref u4a, .ref u4b])), (u4a, .inr (3, [.long (lI 0), .long (lI 0)])), (u4b, .inr (3, [.long (lI 0), .long (lI 0)])), (q5, eI t.1 20 (fun _ => 0)), (q6, eL t.2.1 5 (fun _ => 0)), (q7, eI t.1 400 (fun _ => 0)), (q8, .inr (0, [.ref u9a, .ref u9b, .int (iI 0)])), (u9a, eI t.1 400 (fun _ => 0)), (u9b, eI t.1 4800 (fun _ => 0))]) hC in_X t_X t_X_ok n_X hK hP hD hS 0 rfl rfl 7 (by decide) k_105 rfl rfl rfl (Nat.le_of_ble_eq_true rfl) rfl d_X_init_68 (fun H locs hP hD hS => ?_)
  refine W.widen (k := 12) (n := 9641) (Nat.le_of_ble_eq_true rfl) (Nat.le_of_ble_eq_true rfl) ?_
  have hP9 := hP.sub (ws' := [(x, .inr (4, [.ref q1, .ref q3, .ref q5, .ref q6, .ref q7, .ref q8, .null, .int (iI 0)])), (q1, .inr (2, [.ref u2a, .ref u2b])), (u2a, eL t.2.1 2000 (fun _ => 0)), (u2b, eL t.2.1 2000 (fun _ => 0)), (q3, .inr (1, [.int (iI 0), .int (iI 0), .long (lI 0), .long (lI 0), .long (lI 0), .ref u4a, .ref u4b])), (u4a, .inr (3, [.long (lI 0), .long (lI 0)])), (u4b, .inr (3, [.long (lI 0), .long (lI 0)])), (q5, eI t.1 20 (fun _ => 0)), (q6, eL t.2.1 5 (fun _ => 0)), (q7, eI t.1 400 (fun _ => 0)), (q8, .inr (0, [.ref u9a, .ref u9b, .int (iI 0)])), (u9a, eI t.1 400 (fun _ => 0)), (u9b, eI t.1 4800 (fun _ => 0))]) [0, 1, 2, 3, 4, 5, 6, 7, 8, 9, 10, 11, 12] rfl
  have hD9 := hD.sub (ws' := [(x, .inr (4, [.ref q1, .ref q3, .ref q5, .ref q6, .ref q7, .ref q8, .null, .int (iI 0)])), (q1, .inr (2, [.ref u2a, .ref u2b])), (u2a, eL t.2.1 2000 (fun _ => 0)), (u2b, eL t.2.1 2000 (fun _ => 0)), (q3, .inr (1, [.int (iI 0), .int (iI 0), .long (lI 0), .long (lI 0), .long (lI 0), .ref u4a, .ref u4b])), (u4a, .inr (3, [.long (lI 0), .long (lI 0)])), (u4b, .inr (3, [.long (lI 0), .long (lI 0)])), (q5, eI t.1 20 (fun _ => 0)), (q6, eL t.2.1 5 (fun _ => 0)), (q7, eI t.1 400 (fun _ => 0)), (q8, .inr (0, [.ref u9a, .ref u9b, .int (iI 0)])), (u9a, eI t.1 400 (fun _ => 0)), (u9b, eI t.1 4800 (fun _ => 0))]) [0, 1, 2, 3, 4, 5, 6, 7, 8, 9, 10, 11, 12] (by decide) rfl
  exact ret (q1, u2a, u2b, q3, u4a, u4b, q5, q6, q7, q8, u9a, u9b) _ _ 71 _ d_X_init_71 trivial hP9 hD9 hS
theorem ye_X_emptySpare : ye y_X_emptySpare R_X 0 := by unfold ye; decide +kernel
abbrev rm_X_emptySpareN : Room := { frames := 2, cells := 3, slots := 5203, locals := 40 }
set_option maxHeartbeats 4000000 in
set_option maxRecDepth 100000 in
theorem c_X_emptySpareN (l : Launch) (D : va_G) (t : vt) (ts : Nat → Nat) (x qs qr qw qg qu qp : Nat) (lv : Int) (sz : Nat) : Met l y_X_emptySpare (.code y_X_emptySpare b_X_emptySpare 1 (some (.object "FloorShop$Halves")) :: tb_ws) rm_X_emptySpareN (MP D t ts [.ref x] [(x, .inr (4, [.ref qs, .ref qr, .ref qw, .ref qg, .ref qu, .ref qp, .null, .int (iI lv)]))] sz) (va_Qr (fun u : Nat × Nat => True) (MBr D (va_A [(x, .inr (4, [.ref qs, .ref qr, .ref qw, .ref qg, .ref qu, .ref qp, .null, .int (iI lv)]))] sz) (fun (u : Nat × Nat) (ra : Nat) => [(x, .inr (4, [.ref qs, .ref qr, .ref qw, .ref qg, .ref qu, .ref qp, .ref ra, .int (iI lv)])), (ra, .inr (0, [.ref u.1, .ref u.2, .int (iI 0)])), (u.1, eI t.1 400 (fun _ => 0)), (u.2, eI t.1 4800 (fun _ => 0))])) (va_A [(x, .inr (4, [.ref qs, .ref qr, .ref qw, .ref qg, .ref qu, .ref qp, .null, .int (iI lv)]))] sz)) 3 5203 (va_A [(x, .inr (4, [.ref qs, .ref qr, .ref qw, .ref qg, .ref qu, .ref qp, .null, .int (iI lv)]))] sz) := by
  refine mA_r (by decide +kernel) (Nat.le_of_ble_eq_true rfl) ?_
  intro zp ze zs zm zb zt zc zQ A ls hin hC hA hP hK hD hE hS hl ret
  have hl : lv_has ls 1 [(0, .ref x)] := hl
  refine lv_aload_n hC.1 hC.2.1 d_X_emptySpare_0 rfl (lv_at hl 0 rfl) ?_
  refine z_get (ci := 4) (C := R_X) (T := F_X) (N := 8) (v := .null) hC in_X hK hP 0 rfl rfl 6 (by decide) k_104 rfl d_X_emptySpare_1 ?_
  refine lv_ifnonnullN hC.1 hC.2.1 d_X_emptySpare_4 ?_
  refine lv_aload_n hC.1 hC.2.1 d_X_emptySpare_7 rfl (lv_at hl 0 rfl) ?_
  refine z_new (ci := 0) (C := R_Ha) (T := F_Ha) (N := 3) (fs := [.null, .null, .int (iI 0)]) hC in_Ha t_Ha t_Ha_ok k_76 k_77 k_5 hK hP hD hS hA rfl (fun j hj => by rcases (show j = 0 ∨ j = 1 ∨ j = 2 by omega) with rfl | rfl | rfl <;> rfl) ⟨Nat.le_of_ble_eq_true rfl, Nat.le_of_ble_eq_true rfl⟩ d_X_emptySpare_8 (fun q1 H hP hD hS => ?_)
  have hP : va_P D classes [(x, .inr (4, [.ref qs, .ref qr, .ref qw, .ref qg, .ref qu, .ref qp, .null, .int (iI lv)])), (q1, .inr (0, [.null, .null, .int (iI 0)]))] H := hP
  have hD : va_D A [(x, .inr (4, [.ref qs, .ref qr, .ref qw, .ref qg, .ref qu, .ref qp, .null, .int (iI lv)])), (q1, .inr (0, [.null, .null, .int (iI 0)]))] := hD
  refine lv_dup hC.1 hC.2.1 d_X_emptySpare_11 rfl ?_
  refine z_cIN (As := []) (rest := [.ref q1, .ref x]) (wr := [(x, .inr (4, [.ref qs, .ref qr, .ref qw, .ref qg, .ref qu, .ref qp, .null, .int (iI lv)]))]) hC (c_Ha_init l D t ts q1 _) (cw_IN hC hE.1.2.2.2.2.2.2.2.2.2 k_79 k_5 k_80 ye_Ha_init rfl (by decide)) hP hD hK hE hS hA [1] [0] (by decide) rfl rfl (by decide) (by decide) rfl hl.1 rfl (Nat.le_of_ble_eq_true rfl) ⟨Nat.le_of_ble_eq_true rfl, Nat.le_of_ble_eq_true rfl⟩ d_X_emptySpare_12 (fun u2 H locs eu2 hP hD hS => ?_)
  obtain ⟨u2a, u2b⟩ := u2
  dsimp only at hP hD
  have hP : va_P D classes [(x, .inr (4, [.ref qs, .ref qr, .ref qw, .ref qg, .ref qu, .ref qp, .null, .int (iI lv)])), (q1, .inr (0, [.ref u2a, .ref u2b, .int (iI 0)])), (u2a, eI t.1 400 (fun _ => 0)), (u2b, eI t.1 4800 (fun _ => 0))] H := hP
  have hD : va_D A [(x, .inr (4, [.ref qs, .ref qr, .ref qw, .ref qg, .ref qu, .ref qp, .null, .int (iI lv)])), (q1, .inr (0, [.ref u2a, .ref u2b, .int (iI 0)])), (u2a, eI t.1 400 (fun _ => 0)), (u2b, eI t.1 4800 (fun _ => 0))] := hD
  refine z_put (ci := 4) (C := R_X) (T := F_X) (N := 8) (v := .ref q1) (ws' := [(x, .inr (4, [.ref qs, .ref qr, .ref qw, .ref qg, .ref qu, .ref qp, .ref q1, .int (iI lv)])), (q1, .inr (0, [.ref u2a, .ref u2b, .int (iI 0)])), (u2a, eI t.1 400 (fun _ => 0)), (u2b, eI t.1 4800 (fun _ => 0))]) hC in_X t_X t_X_ok n_X hK hP hD hS 0 rfl rfl 6 (by decide) k_104 rfl rfl rfl (Nat.le_of_ble_eq_true rfl) rfl d_X_emptySpare_15 (fun H locs hP hD hS => ?_)
  refine lv_aload_n hC.1 hC.2.1 d_X_emptySpare_18 rfl (lv_at hl 0 rfl) ?_
  refine z_get (ci := 4) (C := R_X) (T := F_X) (N := 8) (v := .ref q1) hC in_X hK hP 0 rfl rfl 6 (by decide) k_104 rfl d_X_emptySpare_19 ?_
  refine z_iconst hC d_X_emptySpare_22 ?_
  refine z_putN (ci := 0) (C := R_Ha) (T := F_Ha) (N := 3) (v := .int (iI 0)) (ws' := [(x, .inr (4, [.ref qs, .ref qr, .ref qw, .ref qg, .ref qu, .ref qp, .ref q1, .int (iI lv)])), (q1, .inr (0, [.ref u2a, .ref u2b, .int (iI 0)])), (u2a, eI t.1 400 (fun _ => 0)), (u2b, eI t.1 4800 (fun _ => 0))]) hC in_Ha t_Ha t_Ha_ok n_Ha hK hP hD hS 1 rfl rfl 2 (by decide) hE.1.2.2.2.2.1 rfl rfl rfl (Nat.le_of_ble_eq_true rfl) rfl d_X_emptySpare_23 (fun H locs hP hD hS => ?_)
  refine lv_aload_n hC.1 hC.2.1 d_X_emptySpare_26 rfl (lv_at hl 0 rfl) ?_
  refine z_get (ci := 4) (C := R_X) (T := F_X) (N := 8) (v := .ref q1) hC in_X hK hP 0 rfl rfl 6 (by decide) k_104 rfl d_X_emptySpare_27 ?_
  refine W.widen (k := 3) (n := 5203) (Nat.le_of_ble_eq_true rfl) (Nat.le_of_ble_eq_true rfl) ?_
  have hP9 := hP.sub (ws' := [(x, .inr (4, [.ref qs, .ref qr, .ref qw, .ref qg, .ref qu, .ref qp, .ref q1, .int (iI lv)])), (q1, .inr (0, [.ref u2a, .ref u2b, .int (iI 0)])), (u2a, eI t.1 400 (fun _ => 0)), (u2b, eI t.1 4800 (fun _ => 0))]) [0, 1, 2, 3] rfl
  have hD9 := hD.sub (ws' := [(x, .inr (4, [.ref qs, .ref qr, .ref qw, .ref qg, .ref qu, .ref qp, .ref q1, .int (iI lv)])), (q1, .inr (0, [.ref u2a, .ref u2b, .int (iI 0)])), (u2a, eI t.1 400 (fun _ => 0)), (u2b, eI t.1 4800 (fun _ => 0))]) [0, 1, 2, 3] (by decide) rfl
  exact ret (u2a, u2b) q1 _ _ 30 _ d_X_emptySpare_30 trivial hP9 hD9 hS
abbrev rm_X_emptySpareR : Room := { frames := 0, cells := 0, slots := 0, locals := 0 }
set_option maxHeartbeats 4000000 in
set_option maxRecDepth 100000 in
theorem c_X_emptySpareR (l : Launch) (D : va_G) (t : vt) (ts : Nat → Nat) (x qs qr qw qg qu qp : Nat) (lv : Int) (sq sa sb : Nat) (sz0 : Int) (sz : Nat) : Met l y_X_emptySpare (.code y_X_emptySpare b_X_emptySpare 1 (some (.object "FloorShop$Halves")) :: tb_ws) rm_X_emptySpareR (MP D t ts [.ref x] [(x, .inr (4, [.ref qs, .ref qr, .ref qw, .ref qg, .ref qu, .ref qp, .ref sq, .int (iI lv)])), (sq, .inr (0, [.ref sa, .ref sb, .int (iI sz0)]))] sz) (va_Qr (fun u : Unit => True) (MBr D (va_A [(x, .inr (4, [.ref qs, .ref qr, .ref qw, .ref qg, .ref qu, .ref qp, .ref sq, .int (iI lv)])), (sq, .inr (0, [.ref sa, .ref sb, .int (iI sz0)]))] sz) (fun (u : Unit) (ra : Nat) => [(x, .inr (4, [.ref qs, .ref qr, .ref qw, .ref qg, .ref qu, .ref qp, .ref ra, .int (iI lv)])), (ra, .inr (0, [.ref sa, .ref sb, .int (iI 0)]))])) (va_A [(x, .inr (4, [.ref qs, .ref qr, .ref qw, .ref qg, .ref qu, .ref qp, .ref sq, .int (iI lv)])), (sq, .inr (0, [.ref sa, .ref sb, .int (iI sz0)]))] sz)) 0 0 (va_A [(x, .inr (4, [.ref qs, .ref qr, .ref qw, .ref qg, .ref qu, .ref qp, .ref sq, .int (iI lv)])), (sq, .inr (0, [.ref sa, .ref sb, .int (iI sz0)]))] sz) := by
  refine mA_r (by decide +kernel) (Nat.le_of_ble_eq_true rfl) ?_
  intro zp ze zs zm zb zt zc zQ A ls hin hC hA hP hK hD hE hS hl ret
  have hl : lv_has ls 1 [(0, .ref x)] := hl
  refine lv_aload_n hC.1 hC.2.1 d_X_emptySpare_0 rfl (lv_at hl 0 rfl) ?_
  refine z_get (ci := 4) (C := R_X) (T := F_X) (N := 8) (v := .ref sq) hC in_X hK hP 0 rfl rfl 6 (by decide) k_104 rfl d_X_emptySpare_1 ?_
  refine lv_ifnonnull (tgt := 18) hC.1 hC.2.1 d_X_emptySpare_4 (by decide) ?_
  refine lv_aload_n hC.1 hC.2.1 d_X_emptySpare_18 rfl (lv_at hl 0 rfl) ?_
  refine z_get (ci := 4) (C := R_X) (T := F_X) (N := 8) (v := .ref sq) hC in_X hK hP 0 rfl rfl 6 (by decide) k_104 rfl d_X_emptySpare_19 ?_
  refine z_iconst hC d_X_emptySpare_22 ?_
  refine z_putN (ci := 0) (C := R_Ha) (T := F_Ha) (N := 3) (v := .int (iI 0)) (ws' := [(x, .inr (4, [.ref qs, .ref qr, .ref qw, .ref qg, .ref qu, .ref qp, .ref sq, .int (iI lv)])), (sq, .inr (0, [.ref sa, .ref sb, .int (iI 0)]))]) hC in_Ha t_Ha t_Ha_ok n_Ha hK hP hD hS 1 rfl rfl 2 (by decide) hE.1.2.2.2.2.1 rfl rfl rfl (Nat.le_of_ble_eq_true rfl) rfl d_X_emptySpare_23 (fun H locs hP hD hS => ?_)
  refine lv_aload_n hC.1 hC.2.1 d_X_emptySpare_26 rfl (lv_at hl 0 rfl) ?_
  refine z_get (ci := 4) (C := R_X) (T := F_X) (N := 8) (v := .ref sq) hC in_X hK hP 0 rfl rfl 6 (by decide) k_104 rfl d_X_emptySpare_27 ?_
  refine W.widen (k := 0) (n := 0) (Nat.le_of_ble_eq_true rfl) (Nat.le_of_ble_eq_true rfl) ?_
  have hP9 := hP.sub (ws' := [(x, .inr (4, [.ref qs, .ref qr, .ref qw, .ref qg, .ref qu, .ref qp, .ref sq, .int (iI lv)])), (sq, .inr (0, [.ref sa, .ref sb, .int (iI 0)]))]) [0, 1] rfl
  have hD9 := hD.sub (ws' := [(x, .inr (4, [.ref qs, .ref qr, .ref qw, .ref qg, .ref qu, .ref qp, .ref sq, .int (iI lv)])), (sq, .inr (0, [.ref sa, .ref sb, .int (iI 0)]))]) [0, 1] (by decide) rfl
  exact ret () sq _ _ 30 _ d_X_emptySpare_30 trivial hP9 hD9 hS
