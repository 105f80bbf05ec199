theorem ye_Mo_timesZ : ye y_Mo_timesZ R_Mo 1 := by unfold ye; decide +kernel
abbrev rm_Mo_timesZ : Room := { frames := 0, cells := 0, slots := 0, locals := 0 }
set_option maxHeartbeats 4000000 in
set_option maxRecDepth 100000 in
theorem c_Mo_timesZ (l : Launch) (D : va_G) (t : vt) (ts : Nat → Nat) (q : Nat) (x0 x1 x2 x3 : Int) (r0 r1 r2 r3 : Int) (f_r0 : r0 = -x3) (f_r1 : r1 = x0 - x3) (f_r2 : r2 = x1 - x3) (f_r3 : r3 = x2 - x3) (sz : Nat) : Met l y_Mo_timesZ (.code y_Mo_timesZ b_Mo_timesZ 3 none :: tb_ws) rm_Mo_timesZ (MP D t ts [.ref q] [(q, eL t.2.1 4 (v4 x0 x1 x2 x3))] sz) (va_Qv (fun _ : Unit => True) (MB D (va_A [(q, eL t.2.1 4 (v4 x0 x1 x2 x3))] sz) (fun _ : Unit => [(q, eL t.2.1 4 (v4 r0 r1 r2 r3))])) (va_A [(q, eL t.2.1 4 (v4 x0 x1 x2 x3))] sz)) 0 0 (va_A [(q, eL t.2.1 4 (v4 x0 x1 x2 x3))] sz) := by
  refine m_v (by decide +kernel) (Nat.le_of_ble_eq_true rfl) ?_
  intro zp ze zs zm zb zt zc zQ A ls hC hA hP hK hD hE hS hl ret
  have hl : lv_has ls 3 [(0, .ref q)] := hl
  refine lv_aload_n hC.1 hC.2.1 d_Mo_timesZ_0 rfl (lv_at hl 0 rfl) ?_
  refine z_iconst hC d_Mo_timesZ_1 ?_
  refine z_lald hC hK hP 0 rfl (by decide) d_Mo_timesZ_2 ?_
  refine z_topl (z := x3) rfl ?_
  refine lv_lstore_n (lv' := [(1, .long (lI x3)), (0, .ref q)]) hC.1 hC.2.1 d_Mo_timesZ_3 rfl hl (by decide) rfl (fun ls hl => ?_)
  refine lv_aload_n hC.1 hC.2.1 d_Mo_timesZ_4 rfl (lv_at hl 1 rfl) ?_
  refine z_iconst hC d_Mo_timesZ_5 ?_
  refine lv_aload_n hC.1 hC.2.1 d_Mo_timesZ_6 rfl (lv_at hl 1 rfl) ?_
  refine z_iconst hC d_Mo_timesZ_7 ?_
  refine z_lald hC hK hP 0 rfl (by decide) d_Mo_timesZ_8 ?_
  refine z_topl (z := x2) rfl ?_
  refine lv_lload_n hC.1 hC.2.1 d_Mo_timesZ_9 rfl (lv_at hl 0 rfl) ?_
  refine z_lsub hC d_Mo_timesZ_10 ?_
  refine z_last (ws' := [(q, eL t.2.1 4 (uZ (v4 x0 x1 x2 x3) 3 (x2 - x3)))]) hC hK hP hD hS 0 rfl (by decide) rfl d_Mo_timesZ_11 (fun H locs hP hD hS => ?_)
  rw [v4_u3] at hP hD
  refine lv_aload_n hC.1 hC.2.1 d_Mo_timesZ_12 rfl (lv_at hl 1 rfl) ?_
  refine z_iconst hC d_Mo_timesZ_13 ?_
  refine lv_aload_n hC.1 hC.2.1 d_Mo_timesZ_14 rfl (lv_at hl 1 rfl) ?_
  refine z_iconst hC d_Mo_timesZ_15 ?_
  refine z_lald hC hK hP 0 rfl (by decide) d_Mo_timesZ_16 ?_
  refine z_topl (z := x1) rfl ?_
  refine lv_lload_n hC.1 hC.2.1 d_Mo_timesZ_17 rfl (lv_at hl 0 rfl) ?_
  refine z_lsub hC d_Mo_timesZ_18 ?_
  refine z_last (ws' := [(q, eL t.2.1 4 (uZ (v4 x0 x1 x2 (x2 - x3)) 2 (x1 - x3)))]) hC hK hP hD hS 0 rfl (by decide) rfl d_Mo_timesZ_19 (fun H locs hP hD hS => ?_)
  rw [v4_u2] at hP hD
  refine lv_aload_n hC.1 hC.2.1 d_Mo_timesZ_20 rfl (lv_at hl 1 rfl) ?_
  refine z_iconst hC d_Mo_timesZ_21 ?_
  refine lv_aload_n hC.1 hC.2.1 d_Mo_timesZ_22 rfl (lv_at hl 1 rfl) ?_
  refine z_iconst hC d_Mo_timesZ_23 ?_
  refine z_lald hC hK hP 0 rfl (by decide) d_Mo_timesZ_24 ?_
  refine z_topl (z := x0) rfl ?_
  refine lv_lload_n hC.1 hC.2.1 d_Mo_timesZ_25 rfl (lv_at hl 0 rfl) ?_
  refine z_lsub hC d_Mo_timesZ_26 ?_
  refine z_last (ws' := [(q, eL t.2.1 4 (uZ (v4 x0 x1 (x1 - x3) (x2 - x3)) 1 (x0 - x3)))]) hC hK hP hD hS 0 rfl (by decide) rfl d_Mo_timesZ_27 (fun H locs hP hD hS => ?_)
  rw [v4_u1] at hP hD
  refine lv_aload_n hC.1 hC.2.1 d_Mo_timesZ_28 rfl (lv_at hl 1 rfl) ?_
  refine z_iconst hC d_Mo_timesZ_29 ?_
  refine lv_lload_n hC.1 hC.2.1 d_Mo_timesZ_30 rfl (lv_at hl 0 rfl) ?_
  refine z_lneg hC d_Mo_timesZ_31 ?_
  refine z_last (ws' := [(q, eL t.2.1 4 (uZ (v4 x0 (x0 - x3) (x1 - x3) (x2 - x3)) 0 (-x3)))]) hC hK hP hD hS 0 rfl (by decide) rfl d_Mo_timesZ_32 (fun H locs hP hD hS => ?_)
  rw [v4_u0] at hP hD
  have ev_q : (v4 (-x3) (x0 - x3) (x1 - x3) (x2 - x3)) = (v4 r0 r1 r2 r3) := by rw [show r0 = -x3 by omega, show r1 = x0 - x3 by omega, show r2 = x1 - x3 by omega, show r3 = x2 - x3 by omega]
  rw [ev_q] at hP hD
  have hP9 := hP.sub (ws' := [(q, eL t.2.1 4 (v4 r0 r1 r2 r3))]) [0] rfl
  have hD9 := hD.sub (ws' := [(q, eL t.2.1 4 (v4 r0 r1 r2 r3))]) [0] (by decide) rfl
  exact ret () _ _ 33 _ d_Mo_timesZ_33 trivial hP9 hD9 hS
theorem ye_Mo_copy : ye y_Mo_copy R_Mo 2 := by unfold ye; decide +kernel
abbrev rm_Mo_copy : Room := { frames := 0, cells := 0, slots := 0, locals := 0 }
set_option maxHeartbeats 4000000 in
set_option maxRecDepth 100000 in
theorem c_Mo_copy (l : Launch) (D : va_G) (t : vt) (ts : Nat → Nat) (q q2 : Nat) (x0 x1 x2 x3 : Int) (y0 y1 y2 y3 : Int) (sz : Nat) : Met l y_Mo_copy (.code y_Mo_copy b_Mo_copy 3 none :: tb_ws) rm_Mo_copy (MP D t ts [.ref q, .ref q2] [(q, eL t.2.1 4 (v4 x0 x1 x2 x3)), (q2, eL t.2.1 4 (v4 y0 y1 y2 y3))] sz) (va_Qv (fun _ : Unit => True) (MB D (va_A [(q, eL t.2.1 4 (v4 x0 x1 x2 x3)), (q2, eL t.2.1 4 (v4 y0 y1 y2 y3))] sz) (fun _ : Unit => [(q, eL t.2.1 4 (v4 y0 y1 y2 y3)), (q2, eL t.2.1 4 (v4 y0 y1 y2 y3))])) (va_A [(q, eL t.2.1 4 (v4 x0 x1 x2 x3)), (q2, eL t.2.1 4 (v4 y0 y1 y2 y3))] sz)) 0 0 (va_A [(q, eL t.2.1 4 (v4 x0 x1 x2 x3)), (q2, eL t.2.1 4 (v4 y0 y1 y2 y3))] sz) := by
  refine m_v (by decide +kernel) (Nat.le_of_ble_eq_true rfl) ?_
  intro zp ze zs zm zb zt zc zQ A ls hC hA hP hK hD hE hS hl ret
  have hl : lv_has ls 3 [(0, .ref q), (1, .ref q2)] := hl
  refine z_iconst hC d_Mo_copy_0 ?_
  refine lv_istore_n (lv' := [(2, .int (iI 0)), (0, .ref q), (1, .ref q2)]) hC.1 hC.2.1 d_Mo_copy_1 rfl hl (by decide) rfl (fun ls hl => ?_)
  refine lv_iload_n hC.1 hC.2.1 d_Mo_copy_2 rfl (lv_at hl 0 rfl) ?_
  refine z_iconst hC d_Mo_copy_3 ?_
  refine z_icmp_ge (tgt := 19) hC d_Mo_copy_4 (by decide) (by decide) (by decide) (fun h => absurd h (by decide)) (fun _ => ?_)
  refine lv_aload_n hC.1 hC.2.1 d_Mo_copy_7 rfl (lv_at hl 1 rfl) ?_
  refine lv_iload_n hC.1 hC.2.1 d_Mo_copy_8 rfl (lv_at hl 0 rfl) ?_
  refine lv_aload_n hC.1 hC.2.1 d_Mo_copy_9 rfl (lv_at hl 2 rfl) ?_
  refine lv_iload_n hC.1 hC.2.1 d_Mo_copy_10 rfl (lv_at hl 0 rfl) ?_
  refine z_lald hC hK hP 1 rfl (by decide) d_Mo_copy_11 ?_
  refine z_topl (z := y0) rfl ?_
  refine z_last (ws' := [(q, eL t.2.1 4 (uZ (v4 x0 x1 x2 x3) 0 y0)), (q2, eL t.2.1 4 (v4 y0 y1 y2 y3))]) hC hK hP hD hS 0 rfl (by decide) rfl d_Mo_copy_12 (fun H locs hP hD hS => ?_)
  rw [v4_u0] at hP hD
  refine lv_iinc (v := iI 1) (lv' := [(2, .int (iI 1)), (0, .ref q), (1, .ref q2)]) hC.1 hC.2.1 d_Mo_copy_13 hl (k := 0) rfl (z_inc (by omega)) (by decide) rfl (fun ls hl => ?_)
  refine z_goto (tgt := 2) hC d_Mo_copy_16 (by decide) ?_
  refine lv_iload_n hC.1 hC.2.1 d_Mo_copy_2 rfl (lv_at hl 0 rfl) ?_
  refine z_iconst hC d_Mo_copy_3 ?_
  refine z_icmp_ge (tgt := 19) hC d_Mo_copy_4 (by decide) (by decide) (by decide) (fun h => absurd h (by decide)) (fun _ => ?_)
  refine lv_aload_n hC.1 hC.2.1 d_Mo_copy_7 rfl (lv_at hl 1 rfl) ?_
  refine lv_iload_n hC.1 hC.2.1 d_Mo_copy_8 rfl (lv_at hl 0 rfl) ?_
  refine lv_aload_n hC.1 hC.2.1 d_Mo_copy_9 rfl (lv_at hl 2 rfl) ?_
  refine lv_iload_n hC.1 hC.2.1 d_Mo_copy_10 rfl (lv_at hl 0 rfl) ?_
  refine z_lald hC hK hP 1 rfl (by decide) d_Mo_copy_11 ?_
  refine z_topl (z := y1) rfl ?_
  refine z_last (ws' := [(q, eL t.2.1 4 (uZ (v4 y0 x1 x2 x3) 1 y1)), (q2, eL t.2.1 4 (v4 y0 y1 y2 y3))]) hC hK hP hD hS 0 rfl (by decide) rfl d_Mo_copy_12 (fun H locs hP hD hS => ?_)
  rw [v4_u1] at hP hD
  refine lv_iinc (v := iI 2) (lv' := [(2, .int (iI 2)), (0, .ref q), (1, .ref q2)]) hC.1 hC.2.1 d_Mo_copy_13 hl (k := 0) rfl (z_inc (by omega)) (by decide) rfl (fun ls hl => ?_)
  refine z_goto (tgt := 2) hC d_Mo_copy_16 (by decide) ?_
  refine lv_iload_n hC.1 hC.2.1 d_Mo_copy_2 rfl (lv_at hl 0 rfl) ?_
  refine z_iconst hC d_Mo_copy_3 ?_
  refine z_icmp_ge (tgt := 19) hC d_Mo_copy_4 (by decide) (by decide) (by decide) (fun h => absurd h (by decide)) (fun _ => ?_)
  refine lv_aload_n hC.1 hC.2.1 d_Mo_copy_7 rfl (lv_at hl 1 rfl) ?_
  refine lv_iload_n hC.1 hC.2.1 d_Mo_copy_8 rfl (lv_at hl 0 rfl) ?_
  refine lv_aload_n hC.1 hC.2.1 d_Mo_copy_9 rfl (lv_at hl 2 rfl) ?_
  refine lv_iload_n hC.1 hC.2.1 d_Mo_copy_10 rfl (lv_at hl 0 rfl) ?_
  refine z_lald hC hK hP 1 rfl (by decide) d_Mo_copy_11 ?_
  refine z_topl (z := y2) rfl ?_
  refine z_last (ws' := [(q, eL t.2.1 4 (uZ (v4 y0 y1 x2 x3) 2 y2)), (q2, eL t.2.1 4 (v4 y0 y1 y2 y3))]) hC hK hP hD hS 0 rfl (by decide) rfl d_Mo_copy_12 (fun H locs hP hD hS => ?_)
  rw [v4_u2] at hP hD
  refine lv_iinc (v := iI 3) (lv' := [(2, .int (iI 3)), (0, .ref q), (1, .ref q2)]) hC.1 hC.2.1 d_Mo_copy_13 hl (k := 0) rfl (z_inc (by omega)) (by decide) rfl (fun ls hl => ?_)
  refine z_goto (tgt := 2) hC d_Mo_copy_16 (by decide) ?_
  refine lv_iload_n hC.1 hC.2.1 d_Mo_copy_2 rfl (lv_at hl 0 rfl) ?_
  refine z_iconst hC d_Mo_copy_3 ?_
  refine z_icmp_ge (tgt := 19) hC d_Mo_copy_4 (by decide) (by decide) (by decide) (fun h => absurd h (by decide)) (fun _ => ?_)
  refine lv_aload_n hC.1 hC.2.1 d_Mo_copy_7 rfl (lv_at hl 1 rfl) ?_
  refine lv_iload_n hC.1 hC.2.1 d_Mo_copy_8 rfl (lv_at hl 0 rfl) ?_
  refine lv_aload_n hC.1 hC.2.1 d_Mo_copy_9 rfl (lv_at hl 2 rfl) ?_
  refine lv_iload_n hC.1 hC.2.1 d_Mo_copy_10 rfl (lv_at hl 0 rfl) ?_
  refine z_lald hC hK hP 1 rfl (by decide) d_Mo_copy_11 ?_
  refine z_topl (z := y3) rfl ?_
  refine z_last (ws' := [(q, eL t.2.1 4 (uZ (v4 y0 y1 y2 x3) 3 y3)), (q2, eL t.2.1 4 (v4 y0 y1 y2 y3))]) hC hK hP hD hS 0 rfl (by decide) rfl d_Mo_copy_12 (fun H locs hP hD hS => ?_)
  rw [v4_u3] at hP hD
  refine lv_iinc (v := iI 4) (lv' := [(2, .int (iI 4)), (0, .ref q), (1, .ref q2)]) hC.1 hC.2.1 d_Mo_copy_13 hl (k := 0) rfl (z_inc (by omega)) (by decide) rfl (fun ls hl => ?_)
  refine z_goto (tgt := 2) hC d_Mo_copy_16 (by decide) ?_
  refine lv_iload_n hC.1 hC.2.1 d_Mo_copy_2 rfl (lv_at hl 0 rfl) ?_
  refine z_iconst hC d_Mo_copy_3 ?_
  refine z_icmp_ge (tgt := 19) hC d_Mo_copy_4 (by decide) (by decide) (by decide) (fun _ => ?_) (fun h => absurd h (by decide))
  have hP9 := hP.sub (ws' := [(q, eL t.2.1 4 (v4 y0 y1 y2 y3)), (q2, eL t.2.1 4 (v4 y0 y1 y2 y3))]) [0, 1] rfl
  have hD9 := hD.sub (ws' := [(q, eL t.2.1 4 (v4 y0 y1 y2 y3)), (q2, eL t.2.1 4 (v4 y0 y1 y2 y3))]) [0, 1] (by decide) rfl
  exact ret () _ _ 19 _ d_Mo_copy_19 trivial hP9 hD9 hS
theorem ye_Mo_timesG : ye y_Mo_timesG R_Mo 1 := by unfold ye; decide +kernel
abbrev rm_Mo_timesG : Room := { frames := 1, cells := 0, slots := 0, locals := 22 }
set_option maxHeartbeats 4000000 in
set_option maxRecDepth 100000 in
theorem c_Mo_timesG (l : Launch) (D : va_G) (t : vt) (ts : Nat → Nat) (o qT qC qF qY qZ qu qv qw qg qh qx qc qa qb qd qp qq : Nat) (cd z lv fm : Int) (q : Nat) (x0 x1 x2 x3 : Int) (g0 g1 g2 g3 : Int) (h0 h1 h2 h3 : Int) (r0 r1 r2 r3 : Int) (f_r0 : r0 = x1 - x3) (f_r1 : r1 = x1 + x2 - x3) (f_r2 : r2 = -x0 + x1 + x2) (f_r3 : r3 = -x0 + x2) (s0 s1 s2 s3 : Int) (f_s0 : s0 = -x2 + x3) (f_s1 : s1 = -x2) (f_s2 : s2 = x0 - x2) (f_s3 : s3 = x1 - x2) (k0 k1 k2 k3 : Int) (f_k0 : k0 = -x1 + x2) (f_k1 : k1 = -x1 + x3) (f_k2 : k2 = -x1) (f_k3 : k3 = x0 - x1) (sz : Nat) : Met l y_Mo_timesG (.code y_Mo_timesG b_Mo_timesG 3 none :: tb_ws) rm_Mo_timesG (MP D t ts [.ref o, .ref q] [(o, .inr (5, [.int (iI cd), .int (iI z), .int (iI lv), .ref qT, .ref qC, .ref qF, .ref qY, .ref qZ, .ref qu, .ref qv, .ref qw, .ref qg, .ref qh, .ref qx, .ref qc, .ref qa, .ref qb, .ref qd, .int (iI fm), .ref qp, .ref qq])), (q, eL t.2.1 4 (v4 x0 x1 x2 x3)), (qg, eL t.2.1 4 (v4 g0 g1 g2 g3)), (qh, eL t.2.1 4 (v4 h0 h1 h2 h3))] sz) (va_Qv (fun _ : Unit => True) (MB D (va_A [(o, .inr (5, [.int (iI cd), .int (iI z), .int (iI lv), .ref qT, .ref qC, .ref qF, .ref qY, .ref qZ, .ref qu, .ref qv, .ref qw, .ref qg, .ref qh, .ref qx, .ref qc, .ref qa, .ref qb, .ref qd, .int (iI fm), .ref qp, .ref qq])), (q, eL t.2.1 4 (v4 x0 x1 x2 x3)), (qg, eL t.2.1 4 (v4 g0 g1 g2 g3)), (qh, eL t.2.1 4 (v4 h0 h1 h2 h3))] sz) (fun _ : Unit => [(o, .inr (5, [.int (iI cd), .int (iI z), .int (iI lv), .ref qT, .ref qC, .ref qF, .ref qY, .ref qZ, .ref qu, .ref qv, .ref qw, .ref qg, .ref qh, .ref qx, .ref qc, .ref qa, .ref qb, .ref qd, .int (iI fm), .ref qp, .ref qq])), (q, eL t.2.1 4 (v4 r0 r1 r2 r3)), (qg, eL t.2.1 4 (v4 s0 s1 s2 s3)), (qh, eL t.2.1 4 (v4 k0 k1 k2 k3))])) (va_A [(o, .inr (5, [.int (iI cd), .int (iI z), .int (iI lv), .ref qT, .ref qC, .ref qF, .ref qY, .ref qZ, .ref qu, .ref qv, .ref qw, .ref qg, .ref qh, .ref qx, .ref qc, .ref qa, .ref qb, .ref qd, .int (iI fm), .ref qp, .ref qq])), (q, eL t.2.1 4 (v4 x0 x1 x2 x3)), (qg, eL t.2.1 4 (v4 g0 g1 g2 g3)), (qh, eL t.2.1 4 (v4 h0 h1 h2 h3))] sz)) 0 0 (va_A [(o, .inr (5, [.int (iI cd), .int (iI z), .int (iI lv), .ref qT, .ref qC, .ref qF, .ref qY, .ref qZ, .ref qu, .ref qv, .ref qw, .ref qg, .ref qh, .ref qx, .ref qc, .ref qa, .ref qb, .ref qd, .int (iI fm), .ref qp, .ref qq])), (q, eL t.2.1 4 (v4 x0 x1 x2 x3)), (qg, eL t.2.1 4 (v4 g0 g1 g2 g3)), (qh, eL t.2.1 4 (v4 h0 h1 h2 h3))] sz) := by
  refine m_v (by decide +kernel) (Nat.le_of_ble_eq_true rfl) ?_
  intro zp ze zs zm zb zt zc zQ A ls hC hA hP hK hD hE hS hl ret
  have hl : lv_has ls 3 [(0, .ref o), (1, .ref q)] := hl
  refine lv_aload_n hC.1 hC.2.1 d_Mo_timesG_0 rfl (lv_at hl 0 rfl) ?_
  refine z_get (ci := 5) (C := R_Mo) (T := F_Mo) (N := 21) (v := .ref qg) hC in_Mo hK hP 0 rfl rfl 11 (by decide) k_464 rfl d_Mo_timesG_1 ?_
  refine lv_aload_n hC.1 hC.2.1 d_Mo_timesG_4 rfl (lv_at hl 1 rfl) ?_
  refine z_mSv (As := [.ref qg, .ref q]) (rest := []) (wr := [(o, .inr (5, [.int (iI cd), .int (iI z), .int (iI lv), .ref qT, .ref qC, .ref qF, .ref qY, .ref qZ, .ref qu, .ref qv, .ref qw, .ref qg, .ref qh, .ref qx, .ref qc, .ref qa, .ref qb, .ref qd, .int (iI fm), .ref qp, .ref qq])), (qh, eL t.2.1 4 (v4 h0 h1 h2 h3))]) hC (c_Mo_copy l D t ts qg q g0 g1 g2 g3 x0 x1 x2 x3 _) (cw_S hC k_568 k_569 k_6 k_570 ye_Mo_copy (by decide)) hP hD hK hE hS hA [2, 1] [0, 3] (by decide) rfl rfl (by decide) (by decide) rfl hl.1 rfl (Nat.le_of_ble_eq_true rfl) ⟨Nat.le_of_ble_eq_true rfl, Nat.le_of_ble_eq_true rfl⟩ d_Mo_timesG_5 (fun u1 H locs eu1 hP hD hS => ?_)
  have hP : va_P D classes [(o, .inr (5, [.int (iI cd), .int (iI z), .int (iI lv), .ref qT, .ref qC, .ref qF, .ref qY, .ref qZ, .ref qu, .ref qv, .ref qw, .ref qg, .ref qh, .ref qx, .ref qc, .ref qa, .ref qb, .ref qd, .int (iI fm), .ref qp, .ref qq])), (qh, eL t.2.1 4 (v4 h0 h1 h2 h3)), (qg, eL t.2.1 4 (v4 x0 x1 x2 x3)), (q, eL t.2.1 4 (v4 x0 x1 x2 x3))] H := hP
  have hD : va_D A [(o, .inr (5, [.int (iI cd), .int (iI z), .int (iI lv), .ref qT, .ref qC, .ref qF, .ref qY, .ref qZ, .ref qu, .ref qv, .ref qw, .ref qg, .ref qh, .ref qx, .ref qc, .ref qa, .ref qb, .ref qd, .int (iI fm), .ref qp, .ref qq])), (qh, eL t.2.1 4 (v4 h0 h1 h2 h3)), (qg, eL t.2.1 4 (v4 x0 x1 x2 x3)), (q, eL t.2.1 4 (v4 x0 x1 x2 x3))] := hD
  refine lv_aload_n hC.1 hC.2.1 d_Mo_timesG_8 rfl (lv_at hl 0 rfl) ?_
  refine z_get (ci := 5) (C := R_Mo) (T := F_Mo) (N := 21) (v := .ref qg) hC in_Mo hK hP 0 rfl rfl 11 (by decide) k_464 rfl d_Mo_timesG_9 ?_
  refine z_mSv (As := [.ref qg]) (rest := []) (wr := [(o, .inr (5, [.int (iI cd), .int (iI z), .int (iI lv), .ref qT, .ref qC, .ref qF, .ref qY, .ref qZ, .ref qu, .ref qv, .ref qw, .ref qg, .ref qh, .ref qx, .ref qc, .ref qa, .ref qb, .ref qd, .int (iI fm), .ref qp, .ref qq])), (qh, eL t.2.1 4 (v4 h0 h1 h2 h3)), (q, eL t.2.1 4 (v4 x0 x1 x2 x3))]) hC (c_Mo_timesZ l D t ts qg x0 x1 x2 x3 (-x3) (x0 - x3) (x1 - x3) (x2 - x3) (by omega) (by omega) (by omega) (by omega) _) (cw_S hC k_530 k_531 k_6 k_532 ye_Mo_timesZ (by decide)) hP hD hK hE hS hA [2] [0, 1, 3] (by decide) rfl rfl (by decide) (by decide) rfl hl.1 rfl (Nat.le_of_ble_eq_true rfl) ⟨Nat.le_of_ble_eq_true rfl, Nat.le_of_ble_eq_true rfl⟩ d_Mo_timesG_12 (fun u2 H locs eu2 hP hD hS => ?_)
  have hP : va_P D classes [(o, .inr (5, [.int (iI cd), .int (iI z), .int (iI lv), .ref qT, .ref qC, .ref qF, .ref qY, .ref qZ, .ref qu, .ref qv, .ref qw, .ref qg, .ref qh, .ref qx, .ref qc, .ref qa, .ref qb, .ref qd, .int (iI fm), .ref qp, .ref qq])), (qh, eL t.2.1 4 (v4 h0 h1 h2 h3)), (q, eL t.2.1 4 (v4 x0 x1 x2 x3)), (qg, eL t.2.1 4 (v4 (-x3) (x0 - x3) (x1 - x3) (x2 - x3)))] H := hP
  have hD : va_D A [(o, .inr (5, [.int (iI cd), .int (iI z), .int (iI lv), .ref qT, .ref qC, .ref qF, .ref qY, .ref qZ, .ref qu, .ref qv, .ref qw, .ref qg, .ref qh, .ref qx, .ref qc, .ref qa, .ref qb, .ref qd, .int (iI fm), .ref qp, .ref qq])), (qh, eL t.2.1 4 (v4 h0 h1 h2 h3)), (q, eL t.2.1 4 (v4 x0 x1 x2 x3)), (qg, eL t.2.1 4 (v4 (-x3) (x0 - x3) (x1 - x3) (x2 - x3)))] := hD
  refine lv_aload_n hC.1 hC.2.1 d_Mo_timesG_15 rfl (lv_at hl 0 rfl) ?_
  refine z_get (ci := 5) (C := R_Mo) (T := F_Mo) (N := 21) (v := .ref qg) hC in_Mo hK hP 0 rfl rfl 11 (by decide) k_464 rfl d_Mo_timesG_16 ?_
  refine z_mSv (As := [.ref qg]) (rest := []) (wr := [(o, .inr (5, [.int (iI cd), .int (iI z), .int (iI lv), .ref qT, .ref qC, .ref qF, .ref qY, .ref qZ, .ref qu, .ref qv, .ref qw, .ref qg, .ref qh, .ref qx, .ref qc, .ref qa, .ref qb, .ref qd, .int (iI fm), .ref qp, .ref qq])), (qh, eL t.2.1 4 (v4 h0 h1 h2 h3)), (q, eL t.2.1 4 (v4 x0 x1 x2 x3))]) hC (c_Mo_timesZ l D t ts qg (-x3) (x0 - x3) (x1 - x3) (x2 - x3) (-x2 + x3) (-x2) (x0 - x2) (x1 - x2) (by omega) (by omega) (by omega) (by omega) _) (cw_S hC k_530 k_531 k_6 k_532 ye_Mo_timesZ (by decide)) hP hD hK hE hS hA [3] [0, 1, 2] (by decide) rfl rfl (by decide) (by decide) rfl hl.1 rfl (Nat.le_of_ble_eq_true rfl) ⟨Nat.le_of_ble_eq_true rfl, Nat.le_of_ble_eq_true rfl⟩ d_Mo_timesG_19 (fun u3 H locs eu3 hP hD hS => ?_)
  have hP : va_P D classes [(o, .inr (5, [.int (iI cd), .int (iI z), .int (iI lv), .ref qT, .ref qC, .ref qF, .ref qY, .ref qZ, .ref qu, .ref qv, .ref qw, .ref qg, .ref qh, .ref qx, .ref qc, .ref qa, .ref qb, .ref qd, .int (iI fm), .ref qp, .ref qq])), (qh, eL t.2.1 4 (v4 h0 h1 h2 h3)), (q, eL t.2.1 4 (v4 x0 x1 x2 x3)), (qg, eL t.2.1 4 (v4 (-x2 + x3) (-x2) (x0 - x2) (x1 - x2)))] H := hP
  have hD : va_D A [(o, .inr (5, [.int (iI cd), .int (iI z), .int (iI lv), .ref qT, .ref qC, .ref qF, .ref qY, .ref qZ, .ref qu, .ref qv, .ref qw, .ref qg, .ref qh, .ref qx, .ref qc, .ref qa, .ref qb, .ref qd, .int (iI fm), .ref qp, .ref qq])), (qh, eL t.2.1 4 (v4 h0 h1 h2 h3)), (q, eL t.2.1 4 (v4 x0 x1 x2 x3)), (qg, eL t.2.1 4 (v4 (-x2 + x3) (-x2) (x0 - x2) (x1 - x2)))] := hD
  refine lv_aload_n hC.1 hC.2.1 d_Mo_timesG_22 rfl (lv_at hl 0 rfl) ?_
  refine z_get (ci := 5) (C := R_Mo) (T := F_Mo) (N := 21) (v := .ref qh) hC in_Mo hK hP 0 rfl rfl 12 (by decide) k_465 rfl d_Mo_timesG_23 ?_
  refine lv_aload_n hC.1 hC.2.1 d_Mo_timesG_26 rfl (lv_at hl 0 rfl) ?_
  refine z_get (ci := 5) (C := R_Mo) (T := F_Mo) (N := 21) (v := .ref qg) hC in_Mo hK hP 0 rfl rfl 11 (by decide) k_464 rfl d_Mo_timesG_27 ?_
  refine z_mSv (As := [.ref qh, .ref qg]) (rest := []) (wr := [(o, .inr (5, [.int (iI cd), .int (iI z), .int (iI lv), .ref qT, .ref qC, .ref qF, .ref qY, .ref qZ, .ref qu, .ref qv, .ref qw, .ref qg, .ref qh, .ref qx, .ref qc, .ref qa, .ref qb, .ref qd, .int (iI fm), .ref qp, .ref qq])), (q, eL t.2.1 4 (v4 x0 x1 x2 x3))]) hC (c_Mo_copy l D t ts qh qg h0 h1 h2 h3 (-x2 + x3) (-x2) (x0 - x2) (x1 - x2) _) (cw_S hC k_568 k_569 k_6 k_570 ye_Mo_copy (by decide)) hP hD hK hE hS hA [1, 3] [0, 2] (by decide) rfl rfl (by decide) (by decide) rfl hl.1 rfl (Nat.le_of_ble_eq_true rfl) ⟨Nat.le_of_ble_eq_true rfl, Nat.le_of_ble_eq_true rfl⟩ d_Mo_timesG_30 (fun u4 H locs eu4 hP hD hS => ?_)
  have hP : va_P D classes [(o, .inr (5, [.int (iI cd), .int (iI z), .int (iI lv), .ref qT, .ref qC, .ref qF, .ref qY, .ref qZ, .ref qu, .ref qv, .ref qw, .ref qg, .ref qh, .ref qx, .ref qc, .ref qa, .ref qb, .ref qd, .int (iI fm), .ref qp, .ref qq])), (q, eL t.2.1 4 (v4 x0 x1 x2 x3)), (qh, eL t.2.1 4 (v4 (-x2 + x3) (-x2) (x0 - x2) (x1 - x2))), (qg, eL t.2.1 4 (v4 (-x2 + x3) (-x2) (x0 - x2) (x1 - x2)))] H := hP
  have hD : va_D A [(o, .inr (5, [.int (iI cd), .int (iI z), .int (iI lv), .ref qT, .ref qC, .ref qF, .ref qY, .ref qZ, .ref qu, .ref qv, .ref qw, .ref qg, .ref qh, .ref qx, .ref qc, .ref qa, .ref qb, .ref qd, .int (iI fm), .ref qp, .ref qq])), (q, eL t.2.1 4 (v4 x0 x1 x2 x3)), (qh, eL t.2.1 4 (v4 (-x2 + x3) (-x2) (x0 - x2) (x1 - x2))), (qg, eL t.2.1 4 (v4 (-x2 + x3) (-x2) (x0 - x2) (x1 - x2)))] := hD
  refine lv_aload_n hC.1 hC.2.1 d_Mo_timesG_33 rfl (lv_at hl 0 rfl) ?_
  refine z_get (ci := 5) (C := R_Mo) (T := F_Mo) (N := 21) (v := .ref qh) hC in_Mo hK hP 0 rfl rfl 12 (by decide) k_465 rfl d_Mo_timesG_34 ?_
  refine z_mSv (As := [.ref qh]) (rest := []) (wr := [(o, .inr (5, [.int (iI cd), .int (iI z), .int (iI lv), .ref qT, .ref qC, .ref qF, .ref qY, .ref qZ, .ref qu, .ref qv, .ref qw, .ref qg, .ref qh, .ref qx, .ref qc, .ref qa, .ref qb, .ref qd, .int (iI fm), .ref qp, .ref qq])), (q, eL t.2.1 4 (v4 x0 x1 x2 x3)), (qg, eL t.2.1 4 (v4 (-x2 + x3) (-x2) (x0 - x2) (x1 - x2)))]) hC (c_Mo_timesZ l D t ts qh (-x2 + x3) (-x2) (x0 - x2) (x1 - x2) (-x1 + x2) (-x1 + x3) (-x1) (x0 - x1) (by omega) (by omega) (by omega) (by omega) _) (cw_S hC k_530 k_531 k_6 k_532 ye_Mo_timesZ (by decide)) hP hD hK hE hS hA [2] [0, 1, 3] (by decide) rfl rfl (by decide) (by decide) rfl hl.1 rfl (Nat.le_of_ble_eq_true rfl) ⟨Nat.le_of_ble_eq_true rfl, Nat.le_of_ble_eq_true rfl⟩ d_Mo_timesG_37 (fun u5 H locs eu5 hP hD hS => ?_)
  have hP : va_P D classes [(o, .inr (5, [.int (iI cd), .int (iI z), .int (iI lv), .ref qT, .ref qC, .ref qF, .ref qY, .ref qZ, .ref qu, .ref qv, .ref qw, .ref qg, .ref qh, .ref qx, .ref qc, .ref qa, .ref qb, .ref qd, .int (iI fm), .ref qp, .ref qq])), (q, eL t.2.1 4 (v4 x0 x1 x2 x3)), (qg, eL t.2.1 4 (v4 (-x2 + x3) (-x2) (x0 - x2) (x1 - x2))), (qh, eL t.2.1 4 (v4 (-x1 + x2) (-x1 + x3) (-x1) (x0 - x1)))] H := hP
  have hD : va_D A [(o, .inr (5, [.int (iI cd), .int (iI z), .int (iI lv), .ref qT, .ref qC, .ref qF, .ref qY, .ref qZ, .ref qu, .ref qv, .ref qw, .ref qg, .ref qh, .ref qx, .ref qc, .ref qa, .ref qb, .ref qd, .int (iI fm), .ref qp, .ref qq])), (q, eL t.2.1 4 (v4 x0 x1 x2 x3)), (qg, eL t.2.1 4 (v4 (-x2 + x3) (-x2) (x0 - x2) (x1 - x2))), (qh, eL t.2.1 4 (v4 (-x1 + x2) (-x1 + x3) (-x1) (x0 - x1)))] := hD
  refine z_iconst hC d_Mo_timesG_40 ?_
  refine lv_istore_n (lv' := [(2, .int (iI 0)), (0, .ref o), (1, .ref q)]) hC.1 hC.2.1 d_Mo_timesG_41 rfl hl (by decide) rfl (fun ls hl => ?_)
  refine lv_iload_n hC.1 hC.2.1 d_Mo_timesG_42 rfl (lv_at hl 0 rfl) ?_
  refine z_iconst hC d_Mo_timesG_43 ?_
  refine z_icmp_ge (tgt := 70) hC d_Mo_timesG_44 (by decide) (by decide) (by decide) (fun h => absurd h (by decide)) (fun _ => ?_)
  refine lv_aload_n hC.1 hC.2.1 d_Mo_timesG_47 rfl (lv_at hl 2 rfl) ?_
  refine lv_iload_n hC.1 hC.2.1 d_Mo_timesG_48 rfl (lv_at hl 0 rfl) ?_
  refine lv_aload_n hC.1 hC.2.1 d_Mo_timesG_49 rfl (lv_at hl 1 rfl) ?_
  refine z_get (ci := 5) (C := R_Mo) (T := F_Mo) (N := 21) (v := .ref qg) hC in_Mo hK hP 0 rfl rfl 11 (by decide) k_464 rfl d_Mo_timesG_50 ?_
  refine lv_iload_n hC.1 hC.2.1 d_Mo_timesG_53 rfl (lv_at hl 0 rfl) ?_
  refine z_lald hC hK hP 2 rfl (by decide) d_Mo_timesG_54 ?_
  refine z_topl (z := -x2 + x3) rfl ?_
  refine z_lneg hC d_Mo_timesG_55 ?_
  refine z_topl (z := x2 - x3) (by omega) ?_
  refine lv_aload_n hC.1 hC.2.1 d_Mo_timesG_56 rfl (lv_at hl 1 rfl) ?_
  refine z_get (ci := 5) (C := R_Mo) (T := F_Mo) (N := 21) (v := .ref qh) hC in_Mo hK hP 0 rfl rfl 12 (by decide) k_465 rfl d_Mo_timesG_57 ?_
  refine lv_iload_n hC.1 hC.2.1 d_Mo_timesG_60 rfl (lv_at hl 0 rfl) ?_
  refine z_lald hC hK hP 3 rfl (by decide) d_Mo_timesG_61 ?_
  refine z_topl (z := -x1 + x2) rfl ?_
  refine z_lsub hC d_Mo_timesG_62 ?_
  refine z_topl (z := x1 - x3) (by omega) ?_
  refine z_last (ws' := [(o, .inr (5, [.int (iI cd), .int (iI z), .int (iI lv), .ref qT, .ref qC, .ref qF, .ref qY, .ref qZ, .ref qu, .ref qv, .ref qw, .ref qg, .ref qh, .ref qx, .ref qc, .ref qa, .ref qb, .ref qd, .int (iI fm), .ref qp, .ref qq])), (q, eL t.2.1 4 (uZ (v4 x0 x1 x2 x3) 0 (x1 - x3))), (qg, eL t.2.1 4 (v4 (-x2 + x3) (-x2) (x0 - x2) (x1 - x2))), (qh, eL t.2.1 4 (v4 (-x1 + x2) (-x1 + x3) (-x1) (x0 - x1)))]) hC hK hP hD hS 1 rfl (by decide) rfl d_Mo_timesG_63 (fun H locs hP hD hS => ?_)
  rw [v4_u0] at hP hD
  refine lv_iinc (v := iI 1) (lv' := [(2, .int (iI 1)), (0, .ref o), (1, .ref q)]) hC.1 hC.2.1 d_Mo_timesG_64 hl (k := 0) rfl (z_inc (by omega)) (by decide) rfl (fun ls hl => ?_)
  refine z_goto (tgt := 42) hC d_Mo_timesG_67 (by decide) ?_
  refine lv_iload_n hC.1 hC.2.1 d_Mo_timesG_42 rfl (lv_at hl 0 rfl) ?_
  refine z_iconst hC d_Mo_timesG_43 ?_
  refine z_icmp_ge (tgt := 70) hC d_Mo_timesG_44 (by decide) (by decide) (by decide) (fun h => absurd h (by decide)) (fun _ => ?_)
  refine lv_aload_n hC.1 hC.2.1 d_Mo_timesG_47 rfl (lv_at hl 2 rfl) ?_
  refine lv_iload_n hC.1 hC.2.1 d_Mo_timesG_48 rfl (lv_at hl 0 rfl) ?_
  refine lv_aload_n hC.1 hC.2.1 d_Mo_timesG_49 rfl (lv_at hl 1 rfl) ?_
  refine z_get (ci := 5) (C := R_Mo) (T := F_Mo) (N := 21) (v := .ref qg) hC in_Mo hK hP 0 rfl rfl 11 (by decide) k_464 rfl d_Mo_timesG_50 ?_
  refine lv_iload_n hC.1 hC.2.1 d_Mo_timesG_53 rfl (lv_at hl 0 rfl) ?_
  refine z_lald hC hK hP 2 rfl (by decide) d_Mo_timesG_54 ?_
  refine z_topl (z := -x2) rfl ?_
  refine z_lneg hC d_Mo_timesG_55 ?_
  refine z_topl (z := x2) (by omega) ?_
  refine lv_aload_n hC.1 hC.2.1 d_Mo_timesG_56 rfl (lv_at hl 1 rfl) ?_
  refine z_get (ci := 5) (C := R_Mo) (T := F_Mo) (N := 21) (v := .ref qh) hC in_Mo hK hP 0 rfl rfl 12 (by decide) k_465 rfl d_Mo_timesG_57 ?_
  refine lv_iload_n hC.1 hC.2.1 d_Mo_timesG_60 rfl (lv_at hl 0 rfl) ?_
  refine z_lald hC hK hP 3 rfl (by decide) d_Mo_timesG_61 ?_
  refine z_topl (z := -x1 + x3) rfl ?_
  refine z_lsub hC d_Mo_timesG_62 ?_
  refine z_topl (z := x1 + x2 - x3) (by omega) ?_
  refine z_last (ws' := [(o, .inr (5, [.int (iI cd), .int (iI z), .int (iI lv), .ref qT, .ref qC, .ref qF, .ref qY, .ref qZ, .ref qu, .ref qv, .ref qw, .ref qg, .ref qh, .ref qx, .ref qc, .ref qa, .ref qb, .ref qd, .int (iI fm), .ref qp, .ref qq])), (q, eL t.2.1 4 (uZ (v4 (x1 - x3) x1 x2 x3) 1 (x1 + x2 - x3))), (qg, eL t.2.1 4 (v4 (-x2 + x3) (-x2) (x0 - x2) (x1 - x2))), (qh, eL t.2.1 4 (v4 (-x1 + x2) (-x1 + x3) (-x1) (x0 - x1)))]) hC hK hP hD hS 1 rfl (by decide) rfl d_Mo_timesG_63 (fun H locs hP hD hS => ?_)
  rw [v4_u1] at hP hD
  refine lv_iinc (v := iI 2) (lv' := [(2, .int (iI 2)), (0, .ref o), (1, .ref q)]) hC.1 hC.2.1 d_Mo_timesG_64 hl (k := 0) rfl (z_inc (by omega)) (by decide) rfl (fun ls hl => ?_)
  refine z_goto (tgt := 42) hC d_Mo_timesG_67 (by decide) ?_
  refine lv_iload_n hC.1 hC.2.1 d_Mo_timesG_42 rfl (lv_at hl 0 rfl) ?_
  refine z_iconst hC d_Mo_timesG_43 ?_
  refine z_icmp_ge (tgt := 70) hC d_Mo_timesG_44 (by decide) (by decide) (by decide) (fun h => absurd h (by decide)) (fun _ => ?_)
  refine lv_aload_n hC.1 hC.2.1 d_Mo_timesG_47 rfl (lv_at hl 2 rfl) ?_
  refine lv_iload_n hC.1 hC.2.1 d_Mo_timesG_48 rfl (lv_at hl 0 rfl) ?_
  refine lv_aload_n hC.1 hC.2.1 d_Mo_timesG_49 rfl (lv_at hl 1 rfl) ?_
  refine z_get (ci := 5) (C := R_Mo) (T := F_Mo) (N := 21) (v := .ref qg) hC in_Mo hK hP 0 rfl rfl 11 (by decide) k_464 rfl d_Mo_timesG_50 ?_
  refine lv_iload_n hC.1 hC.2.1 d_Mo_timesG_53 rfl (lv_at hl 0 rfl) ?_
  refine z_lald hC hK hP 2 rfl (by decide) d_Mo_timesG_54 ?_
  refine z_topl (z := x0 - x2) rfl ?_
  refine z_lneg hC d_Mo_timesG_55 ?_
  refine z_topl (z := -x0 + x2) (by omega) ?_
  refine lv_aload_n hC.1 hC.2.1 d_Mo_timesG_56 rfl (lv_at hl 1 rfl) ?_
  refine z_get (ci := 5) (C := R_Mo) (T := F_Mo) (N := 21) (v := .ref qh) hC in_Mo hK hP 0 rfl rfl 12 (by decide) k_465 rfl d_Mo_timesG_57 ?_
  refine lv_iload_n hC.1 hC.2.1 d_Mo_timesG_60 rfl (lv_at hl 0 rfl) ?_
  refine z_lald hC hK hP 3 rfl (by decide) d_Mo_timesG_61 ?_
  refine z_topl (z := -x1) rfl ?_
  refine z_lsub hC d_Mo_timesG_62 ?_
  refine z_topl (z := -x0 + x1 + x2) (by omega) ?_
  refine z_last (ws' := [(o, .inr (5, [.int (iI cd), .int (iI z), .int (iI lv), .ref qT, .ref qC, .ref qF, .ref qY, .ref qZ, .ref qu, .ref qv, .ref qw, .ref qg, .ref qh, .ref qx, .ref qc, .ref qa, .ref qb, .ref qd, .int (iI fm), .ref qp, .ref qq])), (q, eL t.2.1 4 (uZ (v4 (x1 - x3) (x1 + x2 - x3) x2 x3) 2 (-x0 + x1 + x2))), (qg, eL t.2.1 4 (v4 (-x2 + x3) (-x2) (x0 - x2) (x1 - x2))), (qh, eL t.2.1 4 (v4 (-x1 + x2) (-x1 + x3) (-x1) (x0 - x1)))]) hC hK hP hD hS 1 rfl (by decide) rfl d_Mo_timesG_63 (fun H locs hP hD hS => ?_)
  rw [v4_u2] at hP hD
  refine lv_iinc (v := iI 3) (lv' := [(2, .int (iI 3)), (0, .ref o), (1, .ref q)]) hC.1 hC.2.1 d_Mo_timesG_64 hl (k := 0) rfl (z_inc (by omega)) (by decide) rfl (fun ls hl => ?_)
  refine z_goto (tgt := 42) hC d_Mo_timesG_67 (by decide) ?_
  refine lv_iload_n hC.1 hC.2.1 d_Mo_timesG_42 rfl (lv_at hl 0 rfl) ?_
  refine z_iconst hC d_Mo_timesG_43 ?_
  refine z_icmp_ge (tgt := 70) hC d_Mo_timesG_44 (by decide) (by decide) (by decide) (fun h => absurd h (by decide)) (fun _ => ?_)
  refine lv_aload_n hC.1 hC.2.1 d_Mo_timesG_47 rfl (lv_at hl 2 rfl) ?_
  refine lv_iload_n hC.1 hC.2.1 d_Mo_timesG_48 rfl (lv_at hl 0 rfl) ?_
  refine lv_aload_n hC.1 hC.2.1 d_Mo_timesG_49 rfl (lv_at hl 1 rfl) ?_
  refine z_get (ci := 5) (C := R_Mo) (T := F_Mo) (N := 21) (v := .ref qg) hC in_Mo hK hP 0 rfl rfl 11 (by decide) k_464 rfl d_Mo_timesG_50 ?_
  refine lv_iload_n hC.1 hC.2.1 d_Mo_timesG_53 rfl (lv_at hl 0 rfl) ?_
  refine z_lald hC hK hP 2 rfl (by decide) d_Mo_timesG_54 ?_
  refine z_topl (z := x1 - x2) rfl ?_
  refine z_lneg hC d_Mo_timesG_55 ?_
  refine z_topl (z := -x1 + x2) (by omega) ?_
  refine lv_aload_n hC.1 hC.2.1 d_Mo_timesG_56 rfl (lv_at hl 1 rfl) ?_
  refine z_get (ci := 5) (C := R_Mo) (T := F_Mo) (N := 21) (v := .ref qh) hC in_Mo hK hP 0 rfl rfl 12 (by decide) k_465 rfl d_Mo_timesG_57 ?_
  refine lv_iload_n hC.1 hC.2.1 d_Mo_timesG_60 rfl (lv_at hl 0 rfl) ?_
  refine z_lald hC hK hP 3 rfl (by decide) d_Mo_timesG_61 ?_
  refine z_topl (z := x0 - x1) rfl ?_
  refine z_lsub hC d_Mo_timesG_62 ?_
  refine z_topl (z := -x0 + x2) (by omega) ?_
  refine z_last (ws' := [(o, .inr (5, [.int (iI cd), .int (iI z), .int (iI lv), .ref qT, .ref qC, .ref qF, .ref qY, .ref qZ, .ref qu, .ref qv, .ref qw, .ref qg, .ref qh, .ref qx, .ref qc, .ref qa, .ref qb, .ref qd, .int (iI fm), .ref qp, .ref qq])), (q, eL t.2.1 4 (uZ (v4 (x1 - x3) (x1 + x2 - x3) (-x0 + x1 + x2) x3) 3 (-x0 + x2))), (qg, eL t.2.1 4 (v4 (-x2 + x3) (-x2) (x0 - x2) (x1 - x2))), (qh, eL t.2.1 4 (v4 (-x1 + x2) (-x1 + x3) (-x1) (x0 - x1)))]) hC hK hP hD hS 1 rfl (by decide) rfl d_Mo_timesG_63 (fun H locs hP hD hS => ?_)
  rw [v4_u3] at hP hD
  refine lv_iinc (v := iI 4) (lv' := [(2, .int (iI 4)), (0, .ref o), (1, .ref q)]) hC.1 hC.2.1 d_Mo_timesG_64 hl (k := 0) rfl (z_inc (by omega)) (by decide) rfl (fun ls hl => ?_)
  refine z_goto (tgt := 42) hC d_Mo_timesG_67 (by decide) ?_
  refine lv_iload_n hC.1 hC.2.1 d_Mo_timesG_42 rfl (lv_at hl 0 rfl) ?_
  refine z_iconst hC d_Mo_timesG_43 ?_
  refine z_icmp_ge (tgt := 70) hC d_Mo_timesG_44 (by decide) (by decide) (by decide) (fun _ => ?_) (fun h => absurd h (by decide))
  have ev_q : (v4 (x1 - x3) (x1 + x2 - x3) (-x0 + x1 + x2) (-x0 + x2)) = (v4 r0 r1 r2 r3) := by rw [show r0 = x1 - x3 by omega, show r1 = x1 + x2 - x3 by omega, show r2 = -x0 + x1 + x2 by omega, show r3 = -x0 + x2 by omega]
  rw [ev_q] at hP hD
  have ev_qg : (v4 (-x2 + x3) (-x2) (x0 - x2) (x1 - x2)) = (v4 s0 s1 s2 s3) := by rw [show s0 = -x2 + x3 by omega, show s1 = -x2 by omega, show s2 = x0 - x2 by omega, show s3 = x1 - x2 by omega]
  rw [ev_qg] at hP hD
  have ev_qh : (v4 (-x1 + x2) (-x1 + x3) (-x1) (x0 - x1)) = (v4 k0 k1 k2 k3) := by rw [show k0 = -x1 + x2 by omega, show k1 = -x1 + x3 by omega, show k2 = -x1 by omega, show k3 = x0 - x1 by omega]
  rw [ev_qh] at hP hD
  have hP9 := hP.sub (ws' := [(o, .inr (5, [.int (iI cd), .int (iI z), .int (iI lv), .ref qT, .ref qC, .ref qF, .ref qY, .ref qZ, .ref qu, .ref qv, .ref qw, .ref qg, .ref qh, .ref qx, .ref qc, .ref qa, .ref qb, .ref qd, .int (iI fm), .ref qp, .ref qq])), (q, eL t.2.1 4 (v4 r0 r1 r2 r3)), (qg, eL t.2.1 4 (v4 s0 s1 s2 s3)), (qh, eL t.2.1 4 (v4 k0 k1 k2 k3))]) [0, 1, 2, 3] rfl
  have hD9 := hD.sub (ws' := [(o, .inr (5, [.int (iI cd), .int (iI z), .int (iI lv), .ref qT, .ref qC, .ref qF, .ref qY, .ref qZ, .ref qu, .ref qv, .ref qw, .ref qg, .ref qh, .ref qx, .ref qc, .ref qa, .ref qb, .ref qd, .int (iI fm), .ref qp, .ref qq])), (q, eL t.2.1 4 (v4 r0 r1 r2 r3)), (qg, eL t.2.1 4 (v4 s0 s1 s2 s3)), (qh, eL t.2.1 4 (v4 k0 k1 k2 k3))]) [0, 1, 2, 3] (by decide) rfl
  exact ret () _ _ 70 _ d_Mo_timesG_70 trivial hP9 hD9 hS
theorem ye_Mo_overG : ye y_Mo_overG R_Mo 1 := by unfold ye; decide +kernel
abbrev rm_Mo_overG : Room := { frames := 2, cells := 0, slots := 0, locals := 44 }
set_option maxHeartbeats 4000000 in
set_option maxRecDepth 100000 in
theorem c_Mo_overG (l : Launch) (D : va_G) (t : vt) (ts : Nat → Nat) (o qT qC qF qY qZ qu qv qw qg qh qx qc qa qb qd qp qq : Nat) (cd z lv fm : Int) (q : Nat) (x0 x1 x2 x3 : Int) (g0 g1 g2 g3 : Int) (h0 h1 h2 h3 : Int) (w0 w1 w2 w3 : Int) (r0 r1 r2 r3 : Int) (f_r0 : r0 = -x0 + x1 - x3) (f_r1 : r1 = x2 - x3) (f_r2 : r2 = -x0 + x1) (f_r3 : r3 = -x0 + x2 - x3) (s0 s1 s2 s3 : Int) (f_s0 : s0 = -x2 + x3) (f_s1 : s1 = -x2) (f_s2 : s2 = x0 - x2) (f_s3 : s3 = x1 - x2) (k0 k1 k2 k3 : Int) (f_k0 : k0 = -x1 + x2) (f_k1 : k1 = -x1 + x3) (f_k2 : k2 = -x1) (f_k3 : k3 = x0 - x1) (sz : Nat) : Met l y_Mo_overG (.code y_Mo_overG b_Mo_overG 3 none :: tb_ws) rm_Mo_overG (MP D t ts [.ref o, .ref q] [(o, .inr (5, [.int (iI cd), .int (iI z), .int (iI lv), .ref qT, .ref qC, .ref qF, .ref qY, .ref qZ, .ref qu, .ref qv, .ref qw, .ref qg, .ref qh, .ref qx, .ref qc, .ref qa, .ref qb, .ref qd, .int (iI fm), .ref qp, .ref qq])), (q, eL t.2.1 4 (v4 x0 x1 x2 x3)), (qg, eL t.2.1 4 (v4 g0 g1 g2 g3)), (qh, eL t.2.1 4 (v4 h0 h1 h2 h3)), (qw, eL t.2.1 4 (v4 w0 w1 w2 w3))] sz) (va_Qv (fun _ : Unit => True) (MB D (va_A [(o, .inr (5, [.int (iI cd), .int (iI z), .int (iI lv), .ref qT, .ref qC, .ref qF, .ref qY, .ref qZ, .ref qu, .ref qv, .ref qw, .ref qg, .ref qh, .ref qx, .ref qc, .ref qa, .ref qb, .ref qd, .int (iI fm), .ref qp, .ref qq])), (q, eL t.2.1 4 (v4 x0 x1 x2 x3)), (qg, eL t.2.1 4 (v4 g0 g1 g2 g3)), (qh, eL t.2.1 4 (v4 h0 h1 h2 h3)), (qw, eL t.2.1 4 (v4 w0 w1 w2 w3))] sz) (fun _ : Unit => [(o, .inr (5, [.int (iI cd), .int (iI z), .int (iI lv), .ref qT, .ref qC, .ref qF, .ref qY, .ref qZ, .ref qu, .ref qv, .ref qw, .ref qg, .ref qh, .ref qx, .ref qc, .ref qa, .ref qb, .ref qd, .int (iI fm), .ref qp, .ref qq])), (q, eL t.2.1 4 (v4 r0 r1 r2 r3)), (qg, eL t.2.1 4 (v4 s0 s1 s2 s3)), (qh, eL t.2.1 4 (v4 k0 k1 k2 k3)), (qw, eL t.2.1 4 (v4 x0 x1 x2 x3))])) (va_A [(o, .inr (5, [.int (iI cd), .int (iI z), .int (iI lv), .ref qT, .ref qC, .ref qF, .ref qY, .ref qZ, .ref qu, .ref qv, .ref qw, .ref qg, .ref qh, .ref qx, .ref qc, .ref qa, .ref qb, .ref qd, .int (iI fm), .ref qp, .ref qq])), (q, eL t.2.1 4 (v4 x0 x1 x2 x3)), (qg, eL t.2.1 4 (v4 g0 g1 g2 g3)), (qh, eL t.2.1 4 (v4 h0 h1 h2 h3)), (qw, eL t.2.1 4 (v4 w0 w1 w2 w3))] sz)) 0 0 (va_A [(o, .inr (5, [.int (iI cd), .int (iI z), .int (iI lv), .ref qT, .ref qC, .ref qF, .ref qY, .ref qZ, .ref qu, .ref qv, .ref qw, .ref qg, .ref qh, .ref qx, .ref qc, .ref qa, .ref qb, .ref qd, .int (iI fm), .ref qp, .ref qq])), (q, eL t.2.1 4 (v4 x0 x1 x2 x3)), (qg, eL t.2.1 4 (v4 g0 g1 g2 g3)), (qh, eL t.2.1 4 (v4 h0 h1 h2 h3)), (qw, eL t.2.1 4 (v4 w0 w1 w2 w3))] sz) := by
  refine m_v (by decide +kernel) (Nat.le_of_ble_eq_true rfl) ?_
  intro zp ze zs zm zb zt zc zQ A ls hC hA hP hK hD hE hS hl ret
  have hl : lv_has ls 3 [(0, .ref o), (1, .ref q)] := hl
  refine lv_aload_n hC.1 hC.2.1 d_Mo_overG_0 rfl (lv_at hl 0 rfl) ?_
  refine z_get (ci := 5) (C := R_Mo) (T := F_Mo) (N := 21) (v := .ref qw) hC in_Mo hK hP 0 rfl rfl 10 (by decide) k_463 rfl d_Mo_overG_1 ?_
  refine lv_aload_n hC.1 hC.2.1 d_Mo_overG_4 rfl (lv_at hl 1 rfl) ?_
  refine z_mSv (As := [.ref qw, .ref q]) (rest := []) (wr := [(o, .inr (5, [.int (iI cd), .int (iI z), .int (iI lv), .ref qT, .ref qC, .ref qF, .ref qY, .ref qZ, .ref qu, .ref qv, .ref qw, .ref qg, .ref qh, .ref qx, .ref qc, .ref qa, .ref qb, .ref qd, .int (iI fm), .ref qp, .ref qq])), (qg, eL t.2.1 4 (v4 g0 g1 g2 g3)), (qh, eL t.2.1 4 (v4 h0 h1 h2 h3))]) hC (c_Mo_copy l D t ts qw q w0 w1 w2 w3 x0 x1 x2 x3 _) (cw_S hC k_568 k_569 k_6 k_570 ye_Mo_copy (by decide)) hP hD hK hE hS hA [4, 1] [0, 2, 3] (by decide) rfl rfl (by decide) (by decide) rfl hl.1 rfl (Nat.le_of_ble_eq_true rfl) ⟨Nat.le_of_ble_eq_true rfl, Nat.le_of_ble_eq_true rfl⟩ d_Mo_overG_5 (fun u1 H locs eu1 hP hD hS => ?_)
  have hP : va_P D classes [(o, .inr (5, [.int (iI cd), .int (iI z), .int (iI lv), .ref qT, .ref qC, .ref qF, .ref qY, .ref qZ, .ref qu, .ref qv, .ref qw, .ref qg, .ref qh, .ref qx, .ref qc, .ref qa, .ref qb, .ref qd, .int (iI fm), .ref qp, .ref qq])), (qg, eL t.2.1 4 (v4 g0 g1 g2 g3)), (qh, eL t.2.1 4 (v4 h0 h1 h2 h3)), (qw, eL t.2.1 4 (v4 x0 x1 x2 x3)), (q, eL t.2.1 4 (v4 x0 x1 x2 x3))] H := hP
  have hD : va_D A [(o, .inr (5, [.int (iI cd), .int (iI z), .int (iI lv), .ref qT, .ref qC, .ref qF, .ref qY, .ref qZ, .ref qu, .ref qv, .ref qw, .ref qg, .ref qh, .ref qx, .ref qc, .ref qa, .ref qb, .ref qd, .int (iI fm), .ref qp, .ref qq])), (qg, eL t.2.1 4 (v4 g0 g1 g2 g3)), (qh, eL t.2.1 4 (v4 h0 h1 h2 h3)), (qw, eL t.2.1 4 (v4 x0 x1 x2 x3)), (q, eL t.2.1 4 (v4 x0 x1 x2 x3))] := hD
  refine lv_aload_n hC.1 hC.2.1 d_Mo_overG_8 rfl (lv_at hl 0 rfl) ?_
  refine lv_aload_n hC.1 hC.2.1 d_Mo_overG_9 rfl (lv_at hl 1 rfl) ?_
  refine z_mVv (As := [.ref q]) (rest := []) (wr := [(qw, eL t.2.1 4 (v4 x0 x1 x2 x3))]) hC (c_Mo_timesG l D t ts o qT qC qF qY qZ qu qv qw qg qh qx qc qa qb qd qp qq cd z lv fm q x0 x1 x2 x3 g0 g1 g2 g3 h0 h1 h2 h3 (x1 - x3) (x1 + x2 - x3) (-x0 + x1 + x2) (-x0 + x2) (by omega) (by omega) (by omega) (by omega) (-x2 + x3) (-x2) (x0 - x2) (x1 - x2) (by omega) (by omega) (by omega) (by omega) (-x1 + x2) (-x1 + x3) (-x1) (x0 - x1) (by omega) (by omega) (by omega) (by omega) _) (cw_V hC k_651 k_653 kp_48 k_6 k_654 ye_Mo_timesG (by decide)) hP hD hK hE hS hA [0, 4, 1, 2] [3] (by decide) rfl rfl (by decide) (by decide) 0 (ci := 5) rfl rfl rfl rfl hl.1 rfl (Nat.le_of_ble_eq_true rfl) ⟨Nat.le_of_ble_eq_true rfl, Nat.le_of_ble_eq_true rfl⟩ d_Mo_overG_10 (fun u2 H locs eu2 hP hD hS => ?_)
  have hP : va_P D classes [(qw, eL t.2.1 4 (v4 x0 x1 x2 x3)), (o, .inr (5, [.int (iI cd), .int (iI z), .int (iI lv), .ref qT, .ref qC, .ref qF, .ref qY, .ref qZ, .ref qu, .ref qv, .ref qw, .ref qg, .ref qh, .ref qx, .ref qc, .ref qa, .ref qb, .ref qd, .int (iI fm), .ref qp, .ref qq])), (q, eL t.2.1 4 (v4 (x1 - x3) (x1 + x2 - x3) (-x0 + x1 + x2) (-x0 + x2))), (qg, eL t.2.1 4 (v4 (-x2 + x3) (-x2) (x0 - x2) (x1 - x2))), (qh, eL t.2.1 4 (v4 (-x1 + x2) (-x1 + x3) (-x1) (x0 - x1)))] H := hP
  have hD : va_D A [(qw, eL t.2.1 4 (v4 x0 x1 x2 x3)), (o, .inr (5, [.int (iI cd), .int (iI z), .int (iI lv), .ref qT, .ref qC, .ref qF, .ref qY, .ref qZ, .ref qu, .ref qv, .ref qw, .ref qg, .ref qh, .ref qx, .ref qc, .ref qa, .ref qb, .ref qd, .int (iI fm), .ref qp, .ref qq])), (q, eL t.2.1 4 (v4 (x1 - x3) (x1 + x2 - x3) (-x0 + x1 + x2) (-x0 + x2))), (qg, eL t.2.1 4 (v4 (-x2 + x3) (-x2) (x0 - x2) (x1 - x2))), (qh, eL t.2.1 4 (v4 (-x1 + x2) (-x1 + x3) (-x1) (x0 - x1)))] := hD
  refine z_iconst hC d_Mo_overG_13 ?_
  refine lv_istore_n (lv' := [(2, .int (iI 0)), (0, .ref o), (1, .ref q)]) hC.1 hC.2.1 d_Mo_overG_14 rfl hl (by decide) rfl (fun ls hl => ?_)
  refine lv_iload_n hC.1 hC.2.1 d_Mo_overG_15 rfl (lv_at hl 0 rfl) ?_
  refine z_iconst hC d_Mo_overG_16 ?_
  refine z_icmp_ge (tgt := 38) hC d_Mo_overG_17 (by decide) (by decide) (by decide) (fun h => absurd h (by decide)) (fun _ => ?_)
  refine lv_aload_n hC.1 hC.2.1 d_Mo_overG_20 rfl (lv_at hl 2 rfl) ?_
  refine lv_iload_n hC.1 hC.2.1 d_Mo_overG_21 rfl (lv_at hl 0 rfl) ?_
  refine lv_dup2_11 hC.1 hC.2.1 d_Mo_overG_22 rfl rfl ?_
  refine z_lald hC hK hP 2 rfl (by decide) d_Mo_overG_23 ?_
  refine z_topl (z := x1 - x3) rfl ?_
  refine lv_aload_n hC.1 hC.2.1 d_Mo_overG_24 rfl (lv_at hl 1 rfl) ?_
  refine z_get (ci := 5) (C := R_Mo) (T := F_Mo) (N := 21) (v := .ref qw) hC in_Mo hK hP 1 rfl rfl 10 (by decide) k_463 rfl d_Mo_overG_25 ?_
  refine lv_iload_n hC.1 hC.2.1 d_Mo_overG_28 rfl (lv_at hl 0 rfl) ?_
  refine z_lald hC hK hP 0 rfl (by decide) d_Mo_overG_29 ?_
  refine z_topl (z := x0) rfl ?_
  refine z_lsub hC d_Mo_overG_30 ?_
  refine z_topl (z := -x0 + x1 - x3) (by omega) ?_
  refine z_last (ws' := [(qw, eL t.2.1 4 (v4 x0 x1 x2 x3)), (o, .inr (5, [.int (iI cd), .int (iI z), .int (iI lv), .ref qT, .ref qC, .ref qF, .ref qY, .ref qZ, .ref qu, .ref qv, .ref qw, .ref qg, .ref qh, .ref qx, .ref qc, .ref qa, .ref qb, .ref qd, .int (iI fm), .ref qp, .ref qq])), (q, eL t.2.1 4 (uZ (v4 (x1 - x3) (x1 + x2 - x3) (-x0 + x1 + x2) (-x0 + x2)) 0 (-x0 + x1 - x3))), (qg, eL t.2.1 4 (v4 (-x2 + x3) (-x2) (x0 - x2) (x1 - x2))), (qh, eL t.2.1 4 (v4 (-x1 + x2) (-x1 + x3) (-x1) (x0 - x1)))]) hC hK hP hD hS 2 rfl (by decide) rfl d_Mo_overG_31 (fun H locs hP hD hS => ?_)
  rw [v4_u0] at hP hD
  refine lv_iinc (v := iI 1) (lv' := [(2, .int (iI 1)), (0, .ref o), (1, .ref q)]) hC.1 hC.2.1 d_Mo_overG_32 hl (k := 0) rfl (z_inc (by omega)) (by decide) rfl (fun ls hl => ?_)
  refine z_goto (tgt := 15) hC d_Mo_overG_35 (by decide) ?_
  refine lv_iload_n hC.1 hC.2.1 d_Mo_overG_15 rfl (lv_at hl 0 rfl) ?_
  refine z_iconst hC d_Mo_overG_16 ?_
  refine z_icmp_ge (tgt := 38) hC d_Mo_overG_17 (by decide) (by decide) (by decide) (fun h => absurd h (by decide)) (fun _ => ?_)
  refine lv_aload_n hC.1 hC.2.1 d_Mo_overG_20 rfl (lv_at hl 2 rfl) ?_
  refine lv_iload_n hC.1 hC.2.1 d_Mo_overG_21 rfl (lv_at hl 0 rfl) ?_
  refine lv_dup2_11 hC.1 hC.2.1 d_Mo_overG_22 rfl rfl ?_
  refine z_lald hC hK hP 2 rfl (by decide) d_Mo_overG_23 ?_
  refine z_topl (z := x1 + x2 - x3) rfl ?_
  refine lv_aload_n hC.1 hC.2.1 d_Mo_overG_24 rfl (lv_at hl 1 rfl) ?_
  refine z_get (ci := 5) (C := R_Mo) (T := F_Mo) (N := 21) (v := .ref qw) hC in_Mo hK hP 1 rfl rfl 10 (by decide) k_463 rfl d_Mo_overG_25 ?_
  refine lv_iload_n hC.1 hC.2.1 d_Mo_overG_28 rfl (lv_at hl 0 rfl) ?_
  refine z_lald hC hK hP 0 rfl (by decide) d_Mo_overG_29 ?_
  refine z_topl (z := x1) rfl ?_
  refine z_lsub hC d_Mo_overG_30 ?_
  refine z_topl (z := x2 - x3) (by omega) ?_
  refine z_last (ws' := [(qw, eL t.2.1 4 (v4 x0 x1 x2 x3)), (o, .inr (5, [.int (iI cd), .int (iI z), .int (iI lv), .ref qT, .ref qC, .ref qF, .ref qY, .ref qZ, .ref qu, .ref qv, .ref qw, .ref qg, .ref qh, .ref qx, .ref qc, .ref qa, .ref qb, .ref qd, .int (iI fm), .ref qp, .ref qq])), (q, eL t.2.1 4 (uZ (v4 (-x0 + x1 - x3) (x1 + x2 - x3) (-x0 + x1 + x2) (-x0 + x2)) 1 (x2 - x3))), (qg, eL t.2.1 4 (v4 (-x2 + x3) (-x2) (x0 - x2) (x1 - x2))), (qh, eL t.2.1 4 (v4 (-x1 + x2) (-x1 + x3) (-x1) (x0 - x1)))]) hC hK hP hD hS 2 rfl (by decide) rfl d_Mo_overG_31 (fun H locs hP hD hS => ?_)
  rw [v4_u1] at hP hD
  refine lv_iinc (v := iI 2) (lv' := [(2, .int (iI 2)), (0, .ref o), (1, .ref q)]) hC.1 hC.2.1 d_Mo_overG_32 hl (k := 0) rfl (z_inc (by omega)) (by decide) rfl (fun ls hl => ?_)
  refine z_goto (tgt := 15) hC d_Mo_overG_35 (by decide) ?_
  refine lv_iload_n hC.1 hC.2.1 d_Mo_overG_15 rfl (lv_at hl 0 rfl) ?_
  refine z_iconst hC d_Mo_overG_16 ?_
  refine z_icmp_ge (tgt := 38) hC d_Mo_overG_17 (by decide) (by decide) (by decide) (fun h => absurd h (by decide)) (fun _ => ?_)
  refine lv_aload_n hC.1 hC.2.1 d_Mo_overG_20 rfl (lv_at hl 2 rfl) ?_
  refine lv_iload_n hC.1 hC.2.1 d_Mo_overG_21 rfl (lv_at hl 0 rfl) ?_
  refine lv_dup2_11 hC.1 hC.2.1 d_Mo_overG_22 rfl rfl ?_
  refine z_lald hC hK hP 2 rfl (by decide) d_Mo_overG_23 ?_
  refine z_topl (z := -x0 + x1 + x2) rfl ?_
  refine lv_aload_n hC.1 hC.2.1 d_Mo_overG_24 rfl (lv_at hl 1 rfl) ?_
  refine z_get (ci := 5) (C := R_Mo) (T := F_Mo) (N := 21) (v := .ref qw) hC in_Mo hK hP 1 rfl rfl 10 (by decide) k_463 rfl d_Mo_overG_25 ?_
  refine lv_iload_n hC.1 hC.2.1 d_Mo_overG_28 rfl (lv_at hl 0 rfl) ?_
  refine z_lald hC hK hP 0 rfl (by decide) d_Mo_overG_29 ?_
  refine z_topl (z := x2) rfl ?_
  refine z_lsub hC d_Mo_overG_30 ?_
  refine z_topl (z := -x0 + x1) (by omega) ?_
  refine z_last (ws' := [(qw, eL t.2.1 4 (v4 x0 x1 x2 x3)), (o, .inr (5, [.int (iI cd), .int (iI z), .int (iI lv), .ref qT, .ref qC, .ref qF, .ref qY, .ref qZ, .ref qu, .ref qv, .ref qw, .ref qg, .ref qh, .ref qx, .ref qc, .ref qa, .ref qb, .ref qd, .int (iI fm), .ref qp, .ref qq])), (q, eL t.2.1 4 (uZ (v4 (-x0 + x1 - x3) (x2 - x3) (-x0 + x1 + x2) (-x0 + x2)) 2 (-x0 + x1))), (qg, eL t.2.1 4 (v4 (-x2 + x3) (-x2) (x0 - x2) (x1 - x2))), (qh, eL t.2.1 4 (v4 (-x1 + x2) (-x1 + x3) (-x1) (x0 - x1)))]) hC hK hP hD hS 2 rfl (by decide) rfl d_Mo_overG_31 (fun H locs hP hD hS => ?_)
  rw [v4_u2] at hP hD
  refine lv_iinc (v := iI 3) (lv' := [(2, .int (iI 3)), (0, .ref o), (1, .ref q)]) hC.1 hC.2.1 d_Mo_overG_32 hl (k := 0) rfl (z_inc (by omega)) (by decide) rfl (fun ls hl => ?_)
  refine z_goto (tgt := 15) hC d_Mo_overG_35 (by decide) ?_
  refine lv_iload_n hC.1 hC.2.1 d_Mo_overG_15 rfl (lv_at hl 0 rfl) ?_
  refine z_iconst hC d_Mo_overG_16 ?_
  refine z_icmp_ge (tgt := 38) hC d_Mo_overG_17 (by decide) (by decide) (by decide) (fun h => absurd h (by decide)) (fun _ => ?_)
  refine lv_aload_n hC.1 hC.2.1 d_Mo_overG_20 rfl (lv_at hl 2 rfl) ?_
  refine lv_iload_n hC.1 hC.2.1 d_Mo_overG_21 rfl (lv_at hl 0 rfl) ?_
  refine lv_dup2_11 hC.1 hC.2.1 d_Mo_overG_22 rfl rfl ?_
  refine z_lald hC hK hP 2 rfl (by decide) d_Mo_overG_23 ?_
  refine z_topl (z := -x0 + x2) rfl ?_
  refine lv_aload_n hC.1 hC.2.1 d_Mo_overG_24 rfl (lv_at hl 1 rfl) ?_
  refine z_get (ci := 5) (C := R_Mo) (T := F_Mo) (N := 21) (v := .ref qw) hC in_Mo hK hP 1 rfl rfl 10 (by decide) k_463 rfl d_Mo_overG_25 ?_
  refine lv_iload_n hC.1 hC.2.1 d_Mo_overG_28 rfl (lv_at hl 0 rfl) ?_
  refine z_lald hC hK hP 0 rfl (by decide) d_Mo_overG_29 ?_
  refine z_topl (z := x3) rfl ?_
  refine z_lsub hC d_Mo_overG_30 ?_
  refine z_topl (z := -x0 + x2 - x3) (by omega) ?_
  refine z_last (ws' := [(qw, eL t.2.1 4 (v4 x0 x1 x2 x3)), (o, .inr (5, [.int (iI cd), .int (iI z), .int (iI lv), .ref qT, .ref qC, .ref qF, .ref qY, .ref qZ, .ref qu, .ref qv, .ref qw, .ref qg, .ref qh, .ref qx, .ref qc, .ref qa, .ref qb, .ref qd, .int (iI fm), .ref qp, .ref qq])), (q, eL t.2.1 4 (uZ (v4 (-x0 + x1 - x3) (x2 - x3) (-x0 + x1) (-x0 + x2)) 3 (-x0 + x2 - x3))), (qg, eL t.2.1 4 (v4 (-x2 + x3) (-x2) (x0 - x2) (x1 - x2))), (qh, eL t.2.1 4 (v4 (-x1 + x2) (-x1 + x3) (-x1) (x0 - x1)))]) hC hK hP hD hS 2 rfl (by decide) rfl d_Mo_overG_31 (fun H locs hP hD hS => ?_)
  rw [v4_u3] at hP hD
  refine lv_iinc (v := iI 4) (lv' := [(2, .int (iI 4)), (0, .ref o), (1, .ref q)]) hC.1 hC.2.1 d_Mo_overG_32 hl (k := 0) rfl (z_inc (by omega)) (by decide) rfl (fun ls hl => ?_)
  refine z_goto (tgt := 15) hC d_Mo_overG_35 (by decide) ?_
  refine lv_iload_n hC.1 hC.2.1 d_Mo_overG_15 rfl (lv_at hl 0 rfl) ?_
  refine z_iconst hC d_Mo_overG_16 ?_
  refine z_icmp_ge (tgt := 38) hC d_Mo_overG_17 (by decide) (by decide) (by decide) (fun _ => ?_) (fun h => absurd h (by decide))
  have ev_q : (v4 (-x0 + x1 - x3) (x2 - x3) (-x0 + x1) (-x0 + x2 - x3)) = (v4 r0 r1 r2 r3) := by rw [show r0 = -x0 + x1 - x3 by omega, show r1 = x2 - x3 by omega, show r2 = -x0 + x1 by omega, show r3 = -x0 + x2 - x3 by omega]
  rw [ev_q] at hP hD
  have ev_qg : (v4 (-x2 + x3) (-x2) (x0 - x2) (x1 - x2)) = (v4 s0 s1 s2 s3) := by rw [show s0 = -x2 + x3 by omega, show s1 = -x2 by omega, show s2 = x0 - x2 by omega, show s3 = x1 - x2 by omega]
  rw [ev_qg] at hP hD
  have ev_qh : (v4 (-x1 + x2) (-x1 + x3) (-x1) (x0 - x1)) = (v4 k0 k1 k2 k3) := by rw [show k0 = -x1 + x2 by omega, show k1 = -x1 + x3 by omega, show k2 = -x1 by omega, show k3 = x0 - x1 by omega]
  rw [ev_qh] at hP hD
  have hP9 := hP.sub (ws' := [(o, .inr (5, [.int (iI cd), .int (iI z), .int (iI lv), .ref qT, .ref qC, .ref qF, .ref qY, .ref qZ, .ref qu, .ref qv, .ref qw, .ref qg, .ref qh, .ref qx, .ref qc, .ref qa, .ref qb, .ref qd, .int (iI fm), .ref qp, .ref qq])), (q, eL t.2.1 4 (v4 r0 r1 r2 r3)), (qg, eL t.2.1 4 (v4 s0 s1 s2 s3)), (qh, eL t.2.1 4 (v4 k0 k1 k2 k3)), (qw, eL t.2.1 4 (v4 x0 x1 x2 x3))]) [1, 2, 3, 4, 0] rfl
  have hD9 := hD.sub (ws' := [(o, .inr (5, [.int (iI cd), .int (iI z), .int (iI lv), .ref qT, .ref qC, .ref qF, .ref qY, .ref qZ, .ref qu, .ref qv, .ref qw, .ref qg, .ref qh, .ref qx, .ref qc, .ref qa, .ref qb, .ref qd, .int (iI fm), .ref qp, .ref qq])), (q, eL t.2.1 4 (v4 r0 r1 r2 r3)), (qg, eL t.2.1 4 (v4 s0 s1 s2 s3)), (qh, eL t.2.1 4 (v4 k0 k1 k2 k3)), (qw, eL t.2.1 4 (v4 x0 x1 x2 x3))]) [1, 2, 3, 4, 0] (by decide) rfl
  exact ret () _ _ 38 _ d_Mo_overG_38 trivial hP9 hD9 hS
