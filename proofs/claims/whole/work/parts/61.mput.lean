theorem ye_Mo_set : ye y_Mo_set R_Mo 2 := by unfold ye; decide +kernel
abbrev rm_Mo_set : Room := { frames := 0, cells := 0, slots := 0, locals := 0 }
set_option maxHeartbeats 4000000 in
set_option maxRecDepth 100000 in
theorem c_Mo_set (l : Launch) (D : va_G) (t : vt) (ts : Nat → Nat) (o qT qC qF qY qZ qu qv qw qg qh qx qc qa qb qd qp qq : Nat) (cd z lv fm : Int) (q : Nat) (F : Int → Int) (x0 x1 x2 x3 : Int) (i1 : Int) (hi1 : 0 ≤ i1 ∧ i1 + 3 < 14400) (sz : Nat) : Met l y_Mo_set (.code y_Mo_set b_Mo_set 4 none :: tb_ws) rm_Mo_set (MP D t ts [.ref o, .int (iI i1), .ref q] [(o, .inr (5, [.int (iI cd), .int (iI z), .int (iI lv), .ref qT, .ref qC, .ref qF, .ref qY, .ref qZ, .ref qu, .ref qv, .ref qw, .ref qg, .ref qh, .ref qx, .ref qc, .ref qa, .ref qb, .ref qd, .int (iI fm), .ref qp, .ref qq])), (qC, eI t.1 14400 F), (q, eL t.2.1 4 (v4 x0 x1 x2 x3))] sz) (va_Qv (fun _ : Unit => True) (MB D (va_A [(o, .inr (5, [.int (iI cd), .int (iI z), .int (iI lv), .ref qT, .ref qC, .ref qF, .ref qY, .ref qZ, .ref qu, .ref qv, .ref qw, .ref qg, .ref qh, .ref qx, .ref qc, .ref qa, .ref qb, .ref qd, .int (iI fm), .ref qp, .ref qq])), (qC, eI t.1 14400 F), (q, eL t.2.1 4 (v4 x0 x1 x2 x3))] sz) (fun _ : Unit => [(o, .inr (5, [.int (iI cd), .int (iI z), .int (iI lv), .ref qT, .ref qC, .ref qF, .ref qY, .ref qZ, .ref qu, .ref qv, .ref qw, .ref qg, .ref qh, .ref qx, .ref qc, .ref qa, .ref qb, .ref qd, .int (iI fm), .ref qp, .ref qq])), (qC, eI t.1 14400 (st4 F i1 x0 x1 x2 x3)), (q, eL t.2.1 4 (v4 x0 x1 x2 x3))])) (va_A [(o, .inr (5, [.int (iI cd), .int (iI z), .int (iI lv), .ref qT, .ref qC, .ref qF, .ref qY, .ref qZ, .ref qu, .ref qv, .ref qw, .ref qg, .ref qh, .ref qx, .ref qc, .ref qa, .ref qb, .ref qd, .int (iI fm), .ref qp, .ref qq])), (qC, eI t.1 14400 F), (q, eL t.2.1 4 (v4 x0 x1 x2 x3))] sz)) 0 0 (va_A [(o, .inr (5, [.int (iI cd), .int (iI z), .int (iI lv), .ref qT, .ref qC, .ref qF, .ref qY, .ref qZ, .ref qu, .ref qv, .ref qw, .ref qg, .ref qh, .ref qx, .ref qc, .ref qa, .ref qb, .ref qd, .int (iI fm), .ref qp, .ref qq])), (qC, eI t.1 14400 F), (q, eL t.2.1 4 (v4 x0 x1 x2 x3))] sz) := by
  refine m_v (by decide +kernel) (Nat.le_of_ble_eq_true rfl) ?_
  intro zp ze zs zm zb zt zc zQ A ls hC hA hP hK hD hE hS hl ret
  have hl : lv_has ls 4 [(0, .ref o), (1, .int (iI i1)), (2, .ref q)] := hl
  refine z_iconst hC d_Mo_set_0 ?_
  refine lv_istore_n (lv' := [(3, .int (iI 0)), (0, .ref o), (1, .int (iI i1)), (2, .ref q)]) hC.1 hC.2.1 d_Mo_set_1 rfl hl (by decide) rfl (fun ls hl => ?_)
  refine lv_iload_n hC.1 hC.2.1 d_Mo_set_2 rfl (lv_at hl 0 rfl) ?_
  refine z_iconst hC d_Mo_set_3 ?_
  refine z_icmp_ge (tgt := 25) hC d_Mo_set_4 (by decide) (by decide) (by decide) (fun h => absurd h (by decide)) (fun _ => ?_)
  refine lv_aload_n hC.1 hC.2.1 d_Mo_set_7 rfl (lv_at hl 1 rfl) ?_
  refine z_get (ci := 5) (C := R_Mo) (T := F_Mo) (N := 21) (v := .ref qC) hC in_Mo hK hP 0 rfl rfl 4 (by decide) k_457 rfl d_Mo_set_8 ?_
  refine lv_iload_n hC.1 hC.2.1 d_Mo_set_11 rfl (lv_at hl 2 rfl) ?_
  refine lv_iload_n hC.1 hC.2.1 d_Mo_set_12 rfl (lv_at hl 0 rfl) ?_
  refine z_iadd hC d_Mo_set_13 ?_
  refine z_topi (z := i1) (by omega) ?_
  refine lv_aload_n hC.1 hC.2.1 d_Mo_set_14 rfl (lv_at hl 3 rfl) ?_
  refine lv_iload_n hC.1 hC.2.1 d_Mo_set_15 rfl (lv_at hl 0 rfl) ?_
  refine z_lald hC hK hP 2 rfl (by decide) d_Mo_set_16 ?_
  refine z_topl (z := x0) rfl ?_
  refine z_l2i hC d_Mo_set_17 ?_
  refine z_iast (ws' := [(o, .inr (5, [.int (iI cd), .int (iI z), .int (iI lv), .ref qT, .ref qC, .ref qF, .ref qY, .ref qZ, .ref qu, .ref qv, .ref qw, .ref qg, .ref qh, .ref qx, .ref qc, .ref qa, .ref qb, .ref qd, .int (iI fm), .ref qp, .ref qq])), (qC, eI t.1 14400 (uZ F i1 x0)), (q, eL t.2.1 4 (v4 x0 x1 x2 x3))]) hC hK hP hD hS 1 rfl (by omega) rfl d_Mo_set_18 (fun H locs hP hD hS => ?_)
  refine lv_iinc (v := iI 1) (lv' := [(3, .int (iI 1)), (0, .ref o), (1, .int (iI i1)), (2, .ref q)]) hC.1 hC.2.1 d_Mo_set_19 hl (k := 0) rfl (z_inc (by omega)) (by decide) rfl (fun ls hl => ?_)
  refine z_goto (tgt := 2) hC d_Mo_set_22 (by decide) ?_
  refine lv_iload_n hC.1 hC.2.1 d_Mo_set_2 rfl (lv_at hl 0 rfl) ?_
  refine z_iconst hC d_Mo_set_3 ?_
  refine z_icmp_ge (tgt := 25) hC d_Mo_set_4 (by decide) (by decide) (by decide) (fun h => absurd h (by decide)) (fun _ => ?_)
  refine lv_aload_n hC.1 hC.2.1 d_Mo_set_7 rfl (lv_at hl 1 rfl) ?_
  refine z_get (ci := 5) (C := R_Mo) (T := F_Mo) (N := 21) (v := .ref qC) hC in_Mo hK hP 0 rfl rfl 4 (by decide) k_457 rfl d_Mo_set_8 ?_
  refine lv_iload_n hC.1 hC.2.1 d_Mo_set_11 rfl (lv_at hl 2 rfl) ?_
  refine lv_iload_n hC.1 hC.2.1 d_Mo_set_12 rfl (lv_at hl 0 rfl) ?_
  refine z_iadd hC d_Mo_set_13 ?_
  refine lv_aload_n hC.1 hC.2.1 d_Mo_set_14 rfl (lv_at hl 3 rfl) ?_
  refine lv_iload_n hC.1 hC.2.1 d_Mo_set_15 rfl (lv_at hl 0 rfl) ?_
  refine z_lald hC hK hP 2 rfl (by decide) d_Mo_set_16 ?_
  refine z_topl (z := x1) rfl ?_
  refine z_l2i hC d_Mo_set_17 ?_
  refine z_iast (ws' := [(o, .inr (5, [.int (iI cd), .int (iI z), .int (iI lv), .ref qT, .ref qC, .ref qF, .ref qY, .ref qZ, .ref qu, .ref qv, .ref qw, .ref qg, .ref qh, .ref qx, .ref qc, .ref qa, .ref qb, .ref qd, .int (iI fm), .ref qp, .ref qq])), (qC, eI t.1 14400 (uZ (uZ F i1 x0) (i1 + 1) x1)), (q, eL t.2.1 4 (v4 x0 x1 x2 x3))]) hC hK hP hD hS 1 rfl (by omega) rfl d_Mo_set_18 (fun H locs hP hD hS => ?_)
  refine lv_iinc (v := iI 2) (lv' := [(3, .int (iI 2)), (0, .ref o), (1, .int (iI i1)), (2, .ref q)]) hC.1 hC.2.1 d_Mo_set_19 hl (k := 0) rfl (z_inc (by omega)) (by decide) rfl (fun ls hl => ?_)
  refine z_goto (tgt := 2) hC d_Mo_set_22 (by decide) ?_
  refine lv_iload_n hC.1 hC.2.1 d_Mo_set_2 rfl (lv_at hl 0 rfl) ?_
  refine z_iconst hC d_Mo_set_3 ?_
  refine z_icmp_ge (tgt := 25) hC d_Mo_set_4 (by decide) (by decide) (by decide) (fun h => absurd h (by decide)) (fun _ => ?_)
  refine lv_aload_n hC.1 hC.2.1 d_Mo_set_7 rfl (lv_at hl 1 rfl) ?_
  refine z_get (ci := 5) (C := R_Mo) (T := F_Mo) (N := 21) (v := .ref qC) hC in_Mo hK hP 0 rfl rfl 4 (by decide) k_457 rfl d_Mo_set_8 ?_
  refine lv_iload_n hC.1 hC.2.1 d_Mo_set_11 rfl (lv_at hl 2 rfl) ?_
  refine lv_iload_n hC.1 hC.2.1 d_Mo_set_12 rfl (lv_at hl 0 rfl) ?_
  refine z_iadd hC d_Mo_set_13 ?_
  refine lv_aload_n hC.1 hC.2.1 d_Mo_set_14 rfl (lv_at hl 3 rfl) ?_
  refine lv_iload_n hC.1 hC.2.1 d_Mo_set_15 rfl (lv_at hl 0 rfl) ?_
  refine z_lald hC hK hP 2 rfl (by decide) d_Mo_set_16 ?_
  refine z_topl (z := x2) rfl ?_
  refine z_l2i hC d_Mo_set_17 ?_
  refine z_iast (ws' := [(o, .inr (5, [.int (iI cd), .int (iI z), .int (iI lv), .ref qT, .ref qC, .ref qF, .ref qY, .ref qZ, .ref qu, .ref qv, .ref qw, .ref qg, .ref qh, .ref qx, .ref qc, .ref qa, .ref qb, .ref qd, .int (iI fm), .ref qp, .ref qq])), (qC, eI t.1 14400 (uZ (uZ (uZ F i1 x0) (i1 + 1) x1) (i1 + 2) x2)), (q, eL t.2.1 4 (v4 x0 x1 x2 x3))]) hC hK hP hD hS 1 rfl (by omega) rfl d_Mo_set_18 (fun H locs hP hD hS => ?_)
  refine lv_iinc (v := iI 3) (lv' := [(3, .int (iI 3)), (0, .ref o), (1, .int (iI i1)), (2, .ref q)]) hC.1 hC.2.1 d_Mo_set_19 hl (k := 0) rfl (z_inc (by omega)) (by decide) rfl (fun ls hl => ?_)
  refine z_goto (tgt := 2) hC d_Mo_set_22 (by decide) ?_
  refine lv_iload_n hC.1 hC.2.1 d_Mo_set_2 rfl (lv_at hl 0 rfl) ?_
  refine z_iconst hC d_Mo_set_3 ?_
  refine z_icmp_ge (tgt := 25) hC d_Mo_set_4 (by decide) (by decide) (by decide) (fun h => absurd h (by decide)) (fun _ => ?_)
  refine lv_aload_n hC.1 hC.2.1 d_Mo_set_7 rfl (lv_at hl 1 rfl) ?_
  refine z_get (ci := 5) (C := R_Mo) (T := F_Mo) (N := 21) (v := .ref qC) hC in_Mo hK hP 0 rfl rfl 4 (by decide) k_457 rfl d_Mo_set_8 ?_
  refine lv_iload_n hC.1 hC.2.1 d_Mo_set_11 rfl (lv_at hl 2 rfl) ?_
  refine lv_iload_n hC.1 hC.2.1 d_Mo_set_12 rfl (lv_at hl 0 rfl) ?_
  refine z_iadd hC d_Mo_set_13 ?_
  refine lv_aload_n hC.1 hC.2.1 d_Mo_set_14 rfl (lv_at hl 3 rfl) ?_
  refine lv_iload_n hC.1 hC.2.1 d_Mo_set_15 rfl (lv_at hl 0 rfl) ?_
  refine z_lald hC hK hP 2 rfl (by decide) d_Mo_set_16 ?_
  refine z_topl (z := x3) rfl ?_
  refine z_l2i hC d_Mo_set_17 ?_
  refine z_iast (ws' := [(o, .inr (5, [.int (iI cd), .int (iI z), .int (iI lv), .ref qT, .ref qC, .ref qF, .ref qY, .ref qZ, .ref qu, .ref qv, .ref qw, .ref qg, .ref qh, .ref qx, .ref qc, .ref qa, .ref qb, .ref qd, .int (iI fm), .ref qp, .ref qq])), (qC, eI t.1 14400 (uZ (uZ (uZ (uZ F i1 x0) (i1 + 1) x1) (i1 + 2) x2) (i1 + 3) x3)), (q, eL t.2.1 4 (v4 x0 x1 x2 x3))]) hC hK hP hD hS 1 rfl (by omega) rfl d_Mo_set_18 (fun H locs hP hD hS => ?_)
  refine lv_iinc (v := iI 4) (lv' := [(3, .int (iI 4)), (0, .ref o), (1, .int (iI i1)), (2, .ref q)]) hC.1 hC.2.1 d_Mo_set_19 hl (k := 0) rfl (z_inc (by omega)) (by decide) rfl (fun ls hl => ?_)
  refine z_goto (tgt := 2) hC d_Mo_set_22 (by decide) ?_
  refine lv_iload_n hC.1 hC.2.1 d_Mo_set_2 rfl (lv_at hl 0 rfl) ?_
  refine z_iconst hC d_Mo_set_3 ?_
  refine z_icmp_ge (tgt := 25) hC d_Mo_set_4 (by decide) (by decide) (by decide) (fun _ => ?_) (fun h => absurd h (by decide))
  have hP9 := hP.sub (ws' := [(o, .inr (5, [.int (iI cd), .int (iI z), .int (iI lv), .ref qT, .ref qC, .ref qF, .ref qY, .ref qZ, .ref qu, .ref qv, .ref qw, .ref qg, .ref qh, .ref qx, .ref qc, .ref qa, .ref qb, .ref qd, .int (iI fm), .ref qp, .ref qq])), (qC, eI t.1 14400 (uZ (uZ (uZ (uZ F i1 x0) (i1 + 1) x1) (i1 + 2) x2) (i1 + 3) x3)), (q, eL t.2.1 4 (v4 x0 x1 x2 x3))]) [0, 1, 2] rfl
  have hD9 := hD.sub (ws' := [(o, .inr (5, [.int (iI cd), .int (iI z), .int (iI lv), .ref qT, .ref qC, .ref qF, .ref qY, .ref qZ, .ref qu, .ref qv, .ref qw, .ref qg, .ref qh, .ref qx, .ref qc, .ref qa, .ref qb, .ref qd, .int (iI fm), .ref qp, .ref qq])), (qC, eI t.1 14400 (uZ (uZ (uZ (uZ F i1 x0) (i1 + 1) x1) (i1 + 2) x2) (i1 + 3) x3)), (q, eL t.2.1 4 (v4 x0 x1 x2 x3))]) [0, 1, 2] (by decide) rfl
  exact ret () _ _ 25 _ d_Mo_set_25 trivial hP9 hD9 hS
theorem ye_Mo_put : ye y_Mo_put R_Mo 1 := by unfold ye; decide +kernel
abbrev rm_Mo_put : Room := { frames := 1, cells := 0, slots := 0, locals := 23 }
set_option maxHeartbeats 4000000 in
set_option maxRecDepth 100000 in
theorem c_Mo_put (l : Launch) (D : va_G) (t : vt) (ts : Nat → Nat) (o qT qC qF qY qZ qu qv qw qg qh qx qc qa qb qd qp qq : Nat) (cd z lv fm : Int) (T F : Int → Int) (x0 x1 x2 x3 : Int) (y0 y1 y2 y3 : Int) (c0 c1 c2 c3 : Int) (y : Int) (hz : 0 ≤ z ∧ z < 400) (z1 : Int) (hz1 : z1 = z + 1) (sz : Nat) : Met l y_Mo_put (.code y_Mo_put b_Mo_put 2 none :: tb_ws) rm_Mo_put (MP D t ts [.ref o, .int (iI y)] [(o, .inr (5, [.int (iI cd), .int (iI z), .int (iI lv), .ref qT, .ref qC, .ref qF, .ref qY, .ref qZ, .ref qu, .ref qv, .ref qw, .ref qg, .ref qh, .ref qx, .ref qc, .ref qa, .ref qb, .ref qd, .int (iI fm), .ref qp, .ref qq])), (qT, eI t.1 1200 T), (qC, eI t.1 14400 F), (qa, eL t.2.1 4 (v4 x0 x1 x2 x3)), (qb, eL t.2.1 4 (v4 y0 y1 y2 y3)), (qd, eL t.2.1 4 (v4 c0 c1 c2 c3))] sz) (va_Qv (fun _ : Unit => True) (MB D (va_A [(o, .inr (5, [.int (iI cd), .int (iI z), .int (iI lv), .ref qT, .ref qC, .ref qF, .ref qY, .ref qZ, .ref qu, .ref qv, .ref qw, .ref qg, .ref qh, .ref qx, .ref qc, .ref qa, .ref qb, .ref qd, .int (iI fm), .ref qp, .ref qq])), (qT, eI t.1 1200 T), (qC, eI t.1 14400 F), (qa, eL t.2.1 4 (v4 x0 x1 x2 x3)), (qb, eL t.2.1 4 (v4 y0 y1 y2 y3)), (qd, eL t.2.1 4 (v4 c0 c1 c2 c3))] sz) (fun _ : Unit => [(o, .inr (5, [.int (iI cd), .int (iI z1), .int (iI lv), .ref qT, .ref qC, .ref qF, .ref qY, .ref qZ, .ref qu, .ref qv, .ref qw, .ref qg, .ref qh, .ref qx, .ref qc, .ref qa, .ref qb, .ref qd, .int (iI fm), .ref qp, .ref qq])), (qT, eI t.1 1200 (uZ T z y)), (qC, eI t.1 14400 (pu12 F z x0 x1 x2 x3 y0 y1 y2 y3 c0 c1 c2 c3)), (qa, eL t.2.1 4 (v4 x0 x1 x2 x3)), (qb, eL t.2.1 4 (v4 y0 y1 y2 y3)), (qd, eL t.2.1 4 (v4 c0 c1 c2 c3))])) (va_A [(o, .inr (5, [.int (iI cd), .int (iI z), .int (iI lv), .ref qT, .ref qC, .ref qF, .ref qY, .ref qZ, .ref qu, .ref qv, .ref qw, .ref qg, .ref qh, .ref qx, .ref qc, .ref qa, .ref qb, .ref qd, .int (iI fm), .ref qp, .ref qq])), (qT, eI t.1 1200 T), (qC, eI t.1 14400 F), (qa, eL t.2.1 4 (v4 x0 x1 x2 x3)), (qb, eL t.2.1 4 (v4 y0 y1 y2 y3)), (qd, eL t.2.1 4 (v4 c0 c1 c2 c3))] sz)) 0 0 (va_A [(o, .inr (5, [.int (iI cd), .int (iI z), .int (iI lv), .ref qT, .ref qC, .ref qF, .ref qY, .ref qZ, .ref qu, .ref qv, .ref qw, .ref qg, .ref qh, .ref qx, .ref qc, .ref qa, .ref qb, .ref qd, .int (iI fm), .ref qp, .ref qq])), (qT, eI t.1 1200 T), (qC, eI t.1 14400 F), (qa, eL t.2.1 4 (v4 x0 x1 x2 x3)), (qb, eL t.2.1 4 (v4 y0 y1 y2 y3)), (qd, eL t.2.1 4 (v4 c0 c1 c2 c3))] sz) := by
  refine m_v (by decide +kernel) (Nat.le_of_ble_eq_true rfl) ?_
  intro zp ze zs zm zb zt zc zQ A ls hC hA hP hK hD hE hS hl ret
  have hl : lv_has ls 2 [(0, .ref o), (1, .int (iI y))] := hl
  refine lv_aload_n hC.1 hC.2.1 d_Mo_put_0 rfl (lv_at hl 0 rfl) ?_
  refine z_get (ci := 5) (C := R_Mo) (T := F_Mo) (N := 21) (v := .ref qT) hC in_Mo hK hP 0 rfl rfl 3 (by decide) k_456 rfl d_Mo_put_1 ?_
  refine lv_aload_n hC.1 hC.2.1 d_Mo_put_4 rfl (lv_at hl 0 rfl) ?_
  refine z_get (ci := 5) (C := R_Mo) (T := F_Mo) (N := 21) (v := .int (iI z)) hC in_Mo hK hP 0 rfl rfl 1 (by decide) k_454 rfl d_Mo_put_5 ?_
  refine lv_iload_n hC.1 hC.2.1 d_Mo_put_8 rfl (lv_at hl 1 rfl) ?_
  refine z_iast (ws' := [(o, .inr (5, [.int (iI cd), .int (iI z), .int (iI lv), .ref qT, .ref qC, .ref qF, .ref qY, .ref qZ, .ref qu, .ref qv, .ref qw, .ref qg, .ref qh, .ref qx, .ref qc, .ref qa, .ref qb, .ref qd, .int (iI fm), .ref qp, .ref qq])), (qT, eI t.1 1200 (uZ T z y)), (qC, eI t.1 14400 F), (qa, eL t.2.1 4 (v4 x0 x1 x2 x3)), (qb, eL t.2.1 4 (v4 y0 y1 y2 y3)), (qd, eL t.2.1 4 (v4 c0 c1 c2 c3))]) hC hK hP hD hS 1 rfl (by omega) rfl d_Mo_put_9 (fun H locs hP hD hS => ?_)
  refine lv_aload_n hC.1 hC.2.1 d_Mo_put_10 rfl (lv_at hl 0 rfl) ?_
  refine lv_aload_n hC.1 hC.2.1 d_Mo_put_11 rfl (lv_at hl 0 rfl) ?_
  refine lv_aload_n hC.1 hC.2.1 d_Mo_put_12 rfl (lv_at hl 0 rfl) ?_
  refine z_get (ci := 5) (C := R_Mo) (T := F_Mo) (N := 21) (v := .int (iI z)) hC in_Mo hK hP 0 rfl rfl 1 (by decide) k_454 rfl d_Mo_put_13 ?_
  refine z_iconst hC d_Mo_put_16 ?_
  refine z_roVi (As := [.int (iI z), .int (iI 0)]) (rest := [.ref o]) hC (c_Mo_at l D t ts o z 0 (12 * z) (by omega)) (cw_V hC k_537 k_539 kp_26 k_6 k_540 ye_Mo_at (by decide)) hP hK hE hS [] rfl 0 (ci := 5) rfl rfl rfl rfl hl.1 rfl (Nat.le_of_ble_eq_true rfl) ⟨Nat.le_of_ble_eq_true rfl, Nat.le_of_ble_eq_true rfl⟩ d_Mo_put_17 ?_
  refine lv_aload_n hC.1 hC.2.1 d_Mo_put_20 rfl (lv_at hl 0 rfl) ?_
  refine z_get (ci := 5) (C := R_Mo) (T := F_Mo) (N := 21) (v := .ref qa) hC in_Mo hK hP 0 rfl rfl 15 (by decide) k_468 rfl d_Mo_put_21 ?_
  refine z_mVv (As := [.int (iI (12 * z)), .ref qa]) (rest := []) (wr := [(qT, eI t.1 1200 (uZ T z y)), (qb, eL t.2.1 4 (v4 y0 y1 y2 y3)), (qd, eL t.2.1 4 (v4 c0 c1 c2 c3))]) hC (c_Mo_set l D t ts o qT qC qF qY qZ qu qv qw qg qh qx qc qa qb qd qp qq cd z lv fm qa F x0 x1 x2 x3 (12 * z) (by omega) _) (cw_V hC k_541 k_543 kp_27 k_6 k_544 ye_Mo_set (by decide)) hP hD hK hE hS hA [0, 2, 3] [1, 4, 5] (by decide) rfl rfl (by decide) (by decide) 0 (ci := 5) rfl rfl rfl rfl hl.1 rfl (Nat.le_of_ble_eq_true rfl) ⟨Nat.le_of_ble_eq_true rfl, Nat.le_of_ble_eq_true rfl⟩ d_Mo_put_24 (fun u1 H locs eu1 hP hD hS => ?_)
  have hP : va_P D classes [(qT, eI t.1 1200 (uZ T z y)), (qb, eL t.2.1 4 (v4 y0 y1 y2 y3)), (qd, eL t.2.1 4 (v4 c0 c1 c2 c3)), (o, .inr (5, [.int (iI cd), .int (iI z), .int (iI lv), .ref qT, .ref qC, .ref qF, .ref qY, .ref qZ, .ref qu, .ref qv, .ref qw, .ref qg, .ref qh, .ref qx, .ref qc, .ref qa, .ref qb, .ref qd, .int (iI fm), .ref qp, .ref qq])), (qC, eI t.1 14400 (st4 F (12 * z) x0 x1 x2 x3)), (qa, eL t.2.1 4 (v4 x0 x1 x2 x3))] H := hP
  have hD : va_D A [(qT, eI t.1 1200 (uZ T z y)), (qb, eL t.2.1 4 (v4 y0 y1 y2 y3)), (qd, eL t.2.1 4 (v4 c0 c1 c2 c3)), (o, .inr (5, [.int (iI cd), .int (iI z), .int (iI lv), .ref qT, .ref qC, .ref qF, .ref qY, .ref qZ, .ref qu, .ref qv, .ref qw, .ref qg, .ref qh, .ref qx, .ref qc, .ref qa, .ref qb, .ref qd, .int (iI fm), .ref qp, .ref qq])), (qC, eI t.1 14400 (st4 F (12 * z) x0 x1 x2 x3)), (qa, eL t.2.1 4 (v4 x0 x1 x2 x3))] := hD
  refine lv_aload_n hC.1 hC.2.1 d_Mo_put_27 rfl (lv_at hl 0 rfl) ?_
  refine lv_aload_n hC.1 hC.2.1 d_Mo_put_28 rfl (lv_at hl 0 rfl) ?_
  refine lv_aload_n hC.1 hC.2.1 d_Mo_put_29 rfl (lv_at hl 0 rfl) ?_
  refine z_get (ci := 5) (C := R_Mo) (T := F_Mo) (N := 21) (v := .int (iI z)) hC in_Mo hK hP 3 rfl rfl 1 (by decide) k_454 rfl d_Mo_put_30 ?_
  refine z_iconst hC d_Mo_put_33 ?_
  refine z_roVi (As := [.int (iI z), .int (iI 1)]) (rest := [.ref o]) hC (c_Mo_at l D t ts o z 1 (12 * z + 4) (by omega)) (cw_V hC k_537 k_539 kp_26 k_6 k_540 ye_Mo_at (by decide)) hP hK hE hS [] rfl 3 (ci := 5) rfl rfl rfl rfl hl.1 rfl (Nat.le_of_ble_eq_true rfl) ⟨Nat.le_of_ble_eq_true rfl, Nat.le_of_ble_eq_true rfl⟩ d_Mo_put_34 ?_
  refine lv_aload_n hC.1 hC.2.1 d_Mo_put_37 rfl (lv_at hl 0 rfl) ?_
  refine z_get (ci := 5) (C := R_Mo) (T := F_Mo) (N := 21) (v := .ref qb) hC in_Mo hK hP 3 rfl rfl 16 (by decide) k_469 rfl d_Mo_put_38 ?_
  refine z_mVv (As := [.int (iI (12 * z + 4)), .ref qb]) (rest := []) (wr := [(qT, eI t.1 1200 (uZ T z y)), (qd, eL t.2.1 4 (v4 c0 c1 c2 c3)), (qa, eL t.2.1 4 (v4 x0 x1 x2 x3))]) hC (c_Mo_set l D t ts o qT qC qF qY qZ qu qv qw qg qh qx qc qa qb qd qp qq cd z lv fm qb (st4 F (12 * z) x0 x1 x2 x3) y0 y1 y2 y3 (12 * z + 4) (by omega) _) (cw_V hC k_541 k_543 kp_27 k_6 k_544 ye_Mo_set (by decide)) hP hD hK hE hS hA [3, 4, 1] [0, 2, 5] (by decide) rfl rfl (by decide) (by decide) 3 (ci := 5) rfl rfl rfl rfl hl.1 rfl (Nat.le_of_ble_eq_true rfl) ⟨Nat.le_of_ble_eq_true rfl, Nat.le_of_ble_eq_true rfl⟩ d_Mo_put_41 (fun u2 H locs eu2 hP hD hS => ?_)
  have hP : va_P D classes [(qT, eI t.1 1200 (uZ T z y)), (qd, eL t.2.1 4 (v4 c0 c1 c2 c3)), (qa, eL t.2.1 4 (v4 x0 x1 x2 x3)), (o, .inr (5, [.int (iI cd), .int (iI z), .int (iI lv), .ref qT, .ref qC, .ref qF, .ref qY, .ref qZ, .ref qu, .ref qv, .ref qw, .ref qg, .ref qh, .ref qx, .ref qc, .ref qa, .ref qb, .ref qd, .int (iI fm), .ref qp, .ref qq])), (qC, eI t.1 14400 (st4 (st4 F (12 * z) x0 x1 x2 x3) (12 * z + 4) y0 y1 y2 y3)), (qb, eL t.2.1 4 (v4 y0 y1 y2 y3))] H := hP
  have hD : va_D A [(qT, eI t.1 1200 (uZ T z y)), (qd, eL t.2.1 4 (v4 c0 c1 c2 c3)), (qa, eL t.2.1 4 (v4 x0 x1 x2 x3)), (o, .inr (5, [.int (iI cd), .int (iI z), .int (iI lv), .ref qT, .ref qC, .ref qF, .ref qY, .ref qZ, .ref qu, .ref qv, .ref qw, .ref qg, .ref qh, .ref qx, .ref qc, .ref qa, .ref qb, .ref qd, .int (iI fm), .ref qp, .ref qq])), (qC, eI t.1 14400 (st4 (st4 F (12 * z) x0 x1 x2 x3) (12 * z + 4) y0 y1 y2 y3)), (qb, eL t.2.1 4 (v4 y0 y1 y2 y3))] := hD
  refine lv_aload_n hC.1 hC.2.1 d_Mo_put_44 rfl (lv_at hl 0 rfl) ?_
  refine lv_aload_n hC.1 hC.2.1 d_Mo_put_45 rfl (lv_at hl 0 rfl) ?_
  refine lv_aload_n hC.1 hC.2.1 d_Mo_put_46 rfl (lv_at hl 0 rfl) ?_
  refine z_get (ci := 5) (C := R_Mo) (T := F_Mo) (N := 21) (v := .int (iI z)) hC in_Mo hK hP 3 rfl rfl 1 (by decide) k_454 rfl d_Mo_put_47 ?_
  refine z_iconst hC d_Mo_put_50 ?_
  refine z_roVi (As := [.int (iI z), .int (iI 2)]) (rest := [.ref o]) hC (c_Mo_at l D t ts o z 2 (12 * z + 8) (by omega)) (cw_V hC k_537 k_539 kp_26 k_6 k_540 ye_Mo_at (by decide)) hP hK hE hS [] rfl 3 (ci := 5) rfl rfl rfl rfl hl.1 rfl (Nat.le_of_ble_eq_true rfl) ⟨Nat.le_of_ble_eq_true rfl, Nat.le_of_ble_eq_true rfl⟩ d_Mo_put_51 ?_
  refine lv_aload_n hC.1 hC.2.1 d_Mo_put_54 rfl (lv_at hl 0 rfl) ?_
  refine z_get (ci := 5) (C := R_Mo) (T := F_Mo) (N := 21) (v := .ref qd) hC in_Mo hK hP 3 rfl rfl 17 (by decide) k_470 rfl d_Mo_put_55 ?_
  refine z_mVv (As := [.int (iI (12 * z + 8)), .ref qd]) (rest := []) (wr := [(qT, eI t.1 1200 (uZ T z y)), (qa, eL t.2.1 4 (v4 x0 x1 x2 x3)), (qb, eL t.2.1 4 (v4 y0 y1 y2 y3))]) hC (c_Mo_set l D t ts o qT qC qF qY qZ qu qv qw qg qh qx qc qa qb qd qp qq cd z lv fm qd (st4 (st4 F (12 * z) x0 x1 x2 x3) (12 * z + 4) y0 y1 y2 y3) c0 c1 c2 c3 (12 * z + 8) (by omega) _) (cw_V hC k_541 k_543 kp_27 k_6 k_544 ye_Mo_set (by decide)) hP hD hK hE hS hA [3, 4, 1] [0, 2, 5] (by decide) rfl rfl (by decide) (by decide) 3 (ci := 5) rfl rfl rfl rfl hl.1 rfl (Nat.le_of_ble_eq_true rfl) ⟨Nat.le_of_ble_eq_true rfl, Nat.le_of_ble_eq_true rfl⟩ d_Mo_put_58 (fun u3 H locs eu3 hP hD hS => ?_)
  have hP : va_P D classes [(qT, eI t.1 1200 (uZ T z y)), (qa, eL t.2.1 4 (v4 x0 x1 x2 x3)), (qb, eL t.2.1 4 (v4 y0 y1 y2 y3)), (o, .inr (5, [.int (iI cd), .int (iI z), .int (iI lv), .ref qT, .ref qC, .ref qF, .ref qY, .ref qZ, .ref qu, .ref qv, .ref qw, .ref qg, .ref qh, .ref qx, .ref qc, .ref qa, .ref qb, .ref qd, .int (iI fm), .ref qp, .ref qq])), (qC, eI t.1 14400 (st4 (st4 (st4 F (12 * z) x0 x1 x2 x3) (12 * z + 4) y0 y1 y2 y3) (12 * z + 8) c0 c1 c2 c3)), (qd, eL t.2.1 4 (v4 c0 c1 c2 c3))] H := hP
  have hD : va_D A [(qT, eI t.1 1200 (uZ T z y)), (qa, eL t.2.1 4 (v4 x0 x1 x2 x3)), (qb, eL t.2.1 4 (v4 y0 y1 y2 y3)), (o, .inr (5, [.int (iI cd), .int (iI z), .int (iI lv), .ref qT, .ref qC, .ref qF, .ref qY, .ref qZ, .ref qu, .ref qv, .ref qw, .ref qg, .ref qh, .ref qx, .ref qc, .ref qa, .ref qb, .ref qd, .int (iI fm), .ref qp, .ref qq])), (qC, eI t.1 14400 (st4 (st4 (st4 F (12 * z) x0 x1 x2 x3) (12 * z + 4) y0 y1 y2 y3) (12 * z + 8) c0 c1 c2 c3)), (qd, eL t.2.1 4 (v4 c0 c1 c2 c3))] := hD
  refine lv_aload_n hC.1 hC.2.1 d_Mo_put_61 rfl (lv_at hl 0 rfl) ?_
  refine lv_dup hC.1 hC.2.1 d_Mo_put_62 rfl ?_
  refine z_get (ci := 5) (C := R_Mo) (T := F_Mo) (N := 21) (v := .int (iI z)) hC in_Mo hK hP 3 rfl rfl 1 (by decide) k_454 rfl d_Mo_put_63 ?_
  refine z_iconst hC d_Mo_put_66 ?_
  refine z_iadd hC d_Mo_put_67 ?_
  refine z_put (ci := 5) (C := R_Mo) (T := F_Mo) (N := 21) (v := .int (iI (z + 1))) (ws' := [(qT, eI t.1 1200 (uZ T z y)), (qa, eL t.2.1 4 (v4 x0 x1 x2 x3)), (qb, eL t.2.1 4 (v4 y0 y1 y2 y3)), (o, .inr (5, [.int (iI cd), .int (iI (z + 1)), .int (iI lv), .ref qT, .ref qC, .ref qF, .ref qY, .ref qZ, .ref qu, .ref qv, .ref qw, .ref qg, .ref qh, .ref qx, .ref qc, .ref qa, .ref qb, .ref qd, .int (iI fm), .ref qp, .ref qq])), (qC, eI t.1 14400 (st4 (st4 (st4 F (12 * z) x0 x1 x2 x3) (12 * z + 4) y0 y1 y2 y3) (12 * z + 8) c0 c1 c2 c3)), (qd, eL t.2.1 4 (v4 c0 c1 c2 c3))]) hC in_Mo t_Mo t_Mo_ok n_Mo hK hP hD hS 3 rfl rfl 1 (by decide) k_454 rfl rfl rfl (Nat.le_of_ble_eq_true rfl) rfl d_Mo_put_68 (fun H locs hP hD hS => ?_)
  rw [← hz1] at hP hD
  have hP9 := hP.sub (ws' := [(o, .inr (5, [.int (iI cd), .int (iI z1), .int (iI lv), .ref qT, .ref qC, .ref qF, .ref qY, .ref qZ, .ref qu, .ref qv, .ref qw, .ref qg, .ref qh, .ref qx, .ref qc, .ref qa, .ref qb, .ref qd, .int (iI fm), .ref qp, .ref qq])), (qT, eI t.1 1200 (uZ T z y)), (qC, eI t.1 14400 (st4 (st4 (st4 F (12 * z) x0 x1 x2 x3) (12 * z + 4) y0 y1 y2 y3) (12 * z + 8) c0 c1 c2 c3)), (qa, eL t.2.1 4 (v4 x0 x1 x2 x3)), (qb, eL t.2.1 4 (v4 y0 y1 y2 y3)), (qd, eL t.2.1 4 (v4 c0 c1 c2 c3))]) [3, 0, 4, 1, 2, 5] rfl
  have hD9 := hD.sub (ws' := [(o, .inr (5, [.int (iI cd), .int (iI z1), .int (iI lv), .ref qT, .ref qC, .ref qF, .ref qY, .ref qZ, .ref qu, .ref qv, .ref qw, .ref qg, .ref qh, .ref qx, .ref qc, .ref qa, .ref qb, .ref qd, .int (iI fm), .ref qp, .ref qq])), (qT, eI t.1 1200 (uZ T z y)), (qC, eI t.1 14400 (st4 (st4 (st4 F (12 * z) x0 x1 x2 x3) (12 * z + 4) y0 y1 y2 y3) (12 * z + 8) c0 c1 c2 c3)), (qa, eL t.2.1 4 (v4 x0 x1 x2 x3)), (qb, eL t.2.1 4 (v4 y0 y1 y2 y3)), (qd, eL t.2.1 4 (v4 c0 c1 c2 c3))]) [3, 0, 4, 1, 2, 5] (by decide) rfl
  exact ret () _ _ 71 _ d_Mo_put_71 trivial hP9 hD9 hS
theorem ye_Mo_spread : ye y_Mo_spread R_Mo 3 := by unfold ye; decide +kernel
abbrev rm_Mo_spread : Room := { frames := 2, cells := 0, slots := 0, locals := 46 }
set_option maxHeartbeats 4000000 in
set_option maxRecDepth 100000 in
theorem c_Mo_spread (l : Launch) (D : va_G) (t : vt) (ts : Nat → Nat) (o qT qC qF qY qZ qu qv qw qg qh qx qc qa qb qd qp qq : Nat) (cd z lv fm : Int) (x0 x1 x2 x3 : Int) (y0 y1 y2 y3 : Int) (c0 c1 c2 c3 : Int) (g0 g1 g2 g3 : Int) (h0 h1 h2 h3 : Int) (y k j : Int) (hk : 0 ≤ k ∧ k ≤ 9) (hj : 0 ≤ j ∧ j ≤ 9) (r0 r1 r2 r3 : Int) (f_r0 : r0 = z_UNITS (4 * k)) (f_r1 : r1 = z_UNITS (4 * k + 1)) (f_r2 : r2 = z_UNITS (4 * k + 2)) (f_r3 : r3 = z_UNITS (4 * k + 3)) (m0 m1 m2 m3 : Int) (f_m0 : m0 = z_UNITS (4 * j)) (f_m1 : m1 = z_UNITS (4 * j + 1)) (f_m2 : m2 = z_UNITS (4 * j + 2)) (f_m3 : m3 = z_UNITS (4 * j + 3)) (b0 b1 b2 b3 : Int) (f_b0 : b0 = x0 + r0) (f_b1 : b1 = x1 + r1) (f_b2 : b2 = x2 + r2) (f_b3 : b3 = x3 + r3) (d0 d1 d2 d3 : Int) (f_d0 : d0 = x0 + m0) (f_d1 : d1 = x1 + m1) (f_d2 : d2 = x2 + m2) (f_d3 : d3 = x3 + m3) (sz : Nat) : Met l y_Mo_spread (.code y_Mo_spread b_Mo_spread 5 none :: tb_ws) rm_Mo_spread (MP D t ts [.ref o, .int (iI y), .int (iI k), .int (iI j)] [(o, .inr (5, [.int (iI cd), .int (iI z), .int (iI lv), .ref qT, .ref qC, .ref qF, .ref qY, .ref qZ, .ref qu, .ref qv, .ref qw, .ref qg, .ref qh, .ref qx, .ref qc, .ref qa, .ref qb, .ref qd, .int (iI fm), .ref qp, .ref qq])), (qa, eL t.2.1 4 (v4 x0 x1 x2 x3)), (qb, eL t.2.1 4 (v4 y0 y1 y2 y3)), (qd, eL t.2.1 4 (v4 c0 c1 c2 c3)), (qu, eL t.2.1 4 (v4 g0 g1 g2 g3)), (qv, eL t.2.1 4 (v4 h0 h1 h2 h3))] sz) (va_Qv (fun _ : Unit => True) (MB D (va_A [(o, .inr (5, [.int (iI cd), .int (iI z), .int (iI lv), .ref qT, .ref qC, .ref qF, .ref qY, .ref qZ, .ref qu, .ref qv, .ref qw, .ref qg, .ref qh, .ref qx, .ref qc, .ref qa, .ref qb, .ref qd, .int (iI fm), .ref qp, .ref qq])), (qa, eL t.2.1 4 (v4 x0 x1 x2 x3)), (qb, eL t.2.1 4 (v4 y0 y1 y2 y3)), (qd, eL t.2.1 4 (v4 c0 c1 c2 c3)), (qu, eL t.2.1 4 (v4 g0 g1 g2 g3)), (qv, eL t.2.1 4 (v4 h0 h1 h2 h3))] sz) (fun _ : Unit => [(o, .inr (5, [.int (iI cd), .int (iI z), .int (iI lv), .ref qT, .ref qC, .ref qF, .ref qY, .ref qZ, .ref qu, .ref qv, .ref qw, .ref qg, .ref qh, .ref qx, .ref qc, .ref qa, .ref qb, .ref qd, .int (iI fm), .ref qp, .ref qq])), (qa, eL t.2.1 4 (v4 x0 x1 x2 x3)), (qb, eL t.2.1 4 (v4 b0 b1 b2 b3)), (qd, eL t.2.1 4 (v4 d0 d1 d2 d3)), (qu, eL t.2.1 4 (v4 r0 r1 r2 r3)), (qv, eL t.2.1 4 (v4 m0 m1 m2 m3))])) (va_A [(o, .inr (5, [.int (iI cd), .int (iI z), .int (iI lv), .ref qT, .ref qC, .ref qF, .ref qY, .ref qZ, .ref qu, .ref qv, .ref qw, .ref qg, .ref qh, .ref qx, .ref qc, .ref qa, .ref qb, .ref qd, .int (iI fm), .ref qp, .ref qq])), (qa, eL t.2.1 4 (v4 x0 x1 x2 x3)), (qb, eL t.2.1 4 (v4 y0 y1 y2 y3)), (qd, eL t.2.1 4 (v4 c0 c1 c2 c3)), (qu, eL t.2.1 4 (v4 g0 g1 g2 g3)), (qv, eL t.2.1 4 (v4 h0 h1 h2 h3))] sz)) 0 0 (va_A [(o, .inr (5, [.int (iI cd), .int (iI z), .int (iI lv), .ref qT, .ref qC, .ref qF, .ref qY, .ref qZ, .ref qu, .ref qv, .ref qw, .ref qg, .ref qh, .ref qx, .ref qc, .ref qa, .ref qb, .ref qd, .int (iI fm), .ref qp, .ref qq])), (qa, eL t.2.1 4 (v4 x0 x1 x2 x3)), (qb, eL t.2.1 4 (v4 y0 y1 y2 y3)), (qd, eL t.2.1 4 (v4 c0 c1 c2 c3)), (qu, eL t.2.1 4 (v4 g0 g1 g2 g3)), (qv, eL t.2.1 4 (v4 h0 h1 h2 h3))] sz) := by
  refine m_v (by decide +kernel) (Nat.le_of_ble_eq_true rfl) ?_
  intro zp ze zs zm zb zt zc zQ A ls hC hA hP hK hD hE hS hl ret
  have hl : lv_has ls 5 [(0, .ref o), (1, .int (iI y)), (2, .int (iI k)), (3, .int (iI j))] := hl
  refine lv_aload_n hC.1 hC.2.1 d_Mo_spread_0 rfl (lv_at hl 0 rfl) ?_
  refine lv_aload_n hC.1 hC.2.1 d_Mo_spread_1 rfl (lv_at hl 0 rfl) ?_
  refine z_get (ci := 5) (C := R_Mo) (T := F_Mo) (N := 21) (v := .ref qu) hC in_Mo hK hP 0 rfl rfl 8 (by decide) k_461 rfl d_Mo_spread_2 ?_
  refine lv_iload_n hC.1 hC.2.1 d_Mo_spread_5 rfl (lv_at hl 2 rfl) ?_
  refine z_mVv (As := [.ref qu, .int (iI k)]) (rest := []) (wr := [(qa, eL t.2.1 4 (v4 x0 x1 x2 x3)), (qb, eL t.2.1 4 (v4 y0 y1 y2 y3)), (qd, eL t.2.1 4 (v4 c0 c1 c2 c3)), (qv, eL t.2.1 4 (v4 h0 h1 h2 h3))]) hC (c_Mo_direction l D t ts o qT qC qF qY qZ qu qv qw qg qh qx qc qa qb qd qp qq cd z lv fm qu g0 g1 g2 g3 k (by omega) (z_UNITS (4 * k)) (z_UNITS (4 * k + 1)) (z_UNITS (4 * k + 2)) (z_UNITS (4 * k + 3)) (congrArg z_UNITS (by omega)) (congrArg z_UNITS (by omega)) (congrArg z_UNITS (by omega)) (congrArg z_UNITS (by omega)) _) (cw_V hC k_526 k_528 kp_24 k_6 k_529 ye_Mo_direction (by decide)) hP hD hK hE hS hA [0, 4] [1, 2, 3, 5] (by decide) rfl rfl (by decide) (by decide) 0 (ci := 5) rfl rfl rfl rfl hl.1 rfl (Nat.le_of_ble_eq_true rfl) ⟨Nat.le_of_ble_eq_true rfl, Nat.le_of_ble_eq_true rfl⟩ d_Mo_spread_6 (fun u1 H locs eu1 hP hD hS => ?_)
  have hP : va_P D classes [(qa, eL t.2.1 4 (v4 x0 x1 x2 x3)), (qb, eL t.2.1 4 (v4 y0 y1 y2 y3)), (qd, eL t.2.1 4 (v4 c0 c1 c2 c3)), (qv, eL t.2.1 4 (v4 h0 h1 h2 h3)), (o, .inr (5, [.int (iI cd), .int (iI z), .int (iI lv), .ref qT, .ref qC, .ref qF, .ref qY, .ref qZ, .ref qu, .ref qv, .ref qw, .ref qg, .ref qh, .ref qx, .ref qc, .ref qa, .ref qb, .ref qd, .int (iI fm), .ref qp, .ref qq])), (qu, eL t.2.1 4 (v4 (z_UNITS (4 * k)) (z_UNITS (4 * k + 1)) (z_UNITS (4 * k + 2)) (z_UNITS (4 * k + 3))))] H := hP
  have hD : va_D A [(qa, eL t.2.1 4 (v4 x0 x1 x2 x3)), (qb, eL t.2.1 4 (v4 y0 y1 y2 y3)), (qd, eL t.2.1 4 (v4 c0 c1 c2 c3)), (qv, eL t.2.1 4 (v4 h0 h1 h2 h3)), (o, .inr (5, [.int (iI cd), .int (iI z), .int (iI lv), .ref qT, .ref qC, .ref qF, .ref qY, .ref qZ, .ref qu, .ref qv, .ref qw, .ref qg, .ref qh, .ref qx, .ref qc, .ref qa, .ref qb, .ref qd, .int (iI fm), .ref qp, .ref qq])), (qu, eL t.2.1 4 (v4 (z_UNITS (4 * k)) (z_UNITS (4 * k + 1)) (z_UNITS (4 * k + 2)) (z_UNITS (4 * k + 3))))] := hD
  refine lv_aload_n hC.1 hC.2.1 d_Mo_spread_9 rfl (lv_at hl 0 rfl) ?_
  refine lv_aload_n hC.1 hC.2.1 d_Mo_spread_10 rfl (lv_at hl 0 rfl) ?_
  refine z_get (ci := 5) (C := R_Mo) (T := F_Mo) (N := 21) (v := .ref qv) hC in_Mo hK hP 4 rfl rfl 9 (by decide) k_462 rfl d_Mo_spread_11 ?_
  refine lv_iload_n hC.1 hC.2.1 d_Mo_spread_14 rfl (lv_at hl 3 rfl) ?_
  refine z_mVv (As := [.ref qv, .int (iI j)]) (rest := []) (wr := [(qa, eL t.2.1 4 (v4 x0 x1 x2 x3)), (qb, eL t.2.1 4 (v4 y0 y1 y2 y3)), (qd, eL t.2.1 4 (v4 c0 c1 c2 c3)), (qu, eL t.2.1 4 (v4 (z_UNITS (4 * k)) (z_UNITS (4 * k + 1)) (z_UNITS (4 * k + 2)) (z_UNITS (4 * k + 3))))]) hC (c_Mo_direction l D t ts o qT qC qF qY qZ qu qv qw qg qh qx qc qa qb qd qp qq cd z lv fm qv h0 h1 h2 h3 j (by omega) (z_UNITS (4 * j)) (z_UNITS (4 * j + 1)) (z_UNITS (4 * j + 2)) (z_UNITS (4 * j + 3)) (congrArg z_UNITS (by omega)) (congrArg z_UNITS (by omega)) (congrArg z_UNITS (by omega)) (congrArg z_UNITS (by omega)) _) (cw_V hC k_526 k_528 kp_24 k_6 k_529 ye_Mo_direction (by decide)) hP hD hK hE hS hA [4, 3] [0, 1, 2, 5] (by decide) rfl rfl (by decide) (by decide) 4 (ci := 5) rfl rfl rfl rfl hl.1 rfl (Nat.le_of_ble_eq_true rfl) ⟨Nat.le_of_ble_eq_true rfl, Nat.le_of_ble_eq_true rfl⟩ d_Mo_spread_15 (fun u2 H locs eu2 hP hD hS => ?_)
  have hP : va_P D classes [(qa, eL t.2.1 4 (v4 x0 x1 x2 x3)), (qb, eL t.2.1 4 (v4 y0 y1 y2 y3)), (qd, eL t.2.1 4 (v4 c0 c1 c2 c3)), (qu, eL t.2.1 4 (v4 (z_UNITS (4 * k)) (z_UNITS (4 * k + 1)) (z_UNITS (4 * k + 2)) (z_UNITS (4 * k + 3)))), (o, .inr (5, [.int (iI cd), .int (iI z), .int (iI lv), .ref qT, .ref qC, .ref qF, .ref qY, .ref qZ, .ref qu, .ref qv, .ref qw, .ref qg, .ref qh, .ref qx, .ref qc, .ref qa, .ref qb, .ref qd, .int (iI fm), .ref qp, .ref qq])), (qv, eL t.2.1 4 (v4 (z_UNITS (4 * j)) (z_UNITS (4 * j + 1)) (z_UNITS (4 * j + 2)) (z_UNITS (4 * j + 3))))] H := hP
  have hD : va_D A [(qa, eL t.2.1 4 (v4 x0 x1 x2 x3)), (qb, eL t.2.1 4 (v4 y0 y1 y2 y3)), (qd, eL t.2.1 4 (v4 c0 c1 c2 c3)), (qu, eL t.2.1 4 (v4 (z_UNITS (4 * k)) (z_UNITS (4 * k + 1)) (z_UNITS (4 * k + 2)) (z_UNITS (4 * k + 3)))), (o, .inr (5, [.int (iI cd), .int (iI z), .int (iI lv), .ref qT, .ref qC, .ref qF, .ref qY, .ref qZ, .ref qu, .ref qv, .ref qw, .ref qg, .ref qh, .ref qx, .ref qc, .ref qa, .ref qb, .ref qd, .int (iI fm), .ref qp, .ref qq])), (qv, eL t.2.1 4 (v4 (z_UNITS (4 * j)) (z_UNITS (4 * j + 1)) (z_UNITS (4 * j + 2)) (z_UNITS (4 * j + 3))))] := hD
  refine z_iconst hC d_Mo_spread_18 ?_
  refine lv_istore (lv' := [(4, .int (iI 0)), (0, .ref o), (1, .int (iI y)), (2, .int (iI k)), (3, .int (iI j))]) hC.1 hC.2.1 d_Mo_spread_19 hl (by decide) rfl (fun ls hl => ?_)
  refine lv_iload hC.1 hC.2.1 d_Mo_spread_21 (lv_at hl 0 rfl) ?_
  refine z_iconst hC d_Mo_spread_23 ?_
  refine z_icmp_ge (tgt := 77) hC d_Mo_spread_24 (by decide) (by decide) (by decide) (fun h => absurd h (by decide)) (fun _ => ?_)
  refine lv_aload_n hC.1 hC.2.1 d_Mo_spread_27 rfl (lv_at hl 1 rfl) ?_
  refine z_get (ci := 5) (C := R_Mo) (T := F_Mo) (N := 21) (v := .ref qb) hC in_Mo hK hP 4 rfl rfl 16 (by decide) k_469 rfl d_Mo_spread_28 ?_
  refine lv_iload hC.1 hC.2.1 d_Mo_spread_31 (lv_at hl 0 rfl) ?_
  refine lv_aload_n hC.1 hC.2.1 d_Mo_spread_33 rfl (lv_at hl 1 rfl) ?_
  refine z_get (ci := 5) (C := R_Mo) (T := F_Mo) (N := 21) (v := .ref qa) hC in_Mo hK hP 4 rfl rfl 15 (by decide) k_468 rfl d_Mo_spread_34 ?_
  refine lv_iload hC.1 hC.2.1 d_Mo_spread_37 (lv_at hl 0 rfl) ?_
  refine z_lald hC hK hP 0 rfl (by decide) d_Mo_spread_39 ?_
  refine z_topl (z := x0) rfl ?_
  refine lv_aload_n hC.1 hC.2.1 d_Mo_spread_40 rfl (lv_at hl 1 rfl) ?_
  refine z_get (ci := 5) (C := R_Mo) (T := F_Mo) (N := 21) (v := .ref qu) hC in_Mo hK hP 4 rfl rfl 8 (by decide) k_461 rfl d_Mo_spread_41 ?_
  refine lv_iload hC.1 hC.2.1 d_Mo_spread_44 (lv_at hl 0 rfl) ?_
  refine z_lald hC hK hP 3 rfl (by decide) d_Mo_spread_46 ?_
  refine z_topl (z := z_UNITS (4 * k)) rfl ?_
  refine z_ladd hC d_Mo_spread_47 ?_
  refine z_topl (z := x0 + z_UNITS (4 * k)) (by omega) ?_
  refine z_last (ws' := [(qa, eL t.2.1 4 (v4 x0 x1 x2 x3)), (qb, eL t.2.1 4 (uZ (v4 y0 y1 y2 y3) 0 (x0 + z_UNITS (4 * k)))), (qd, eL t.2.1 4 (v4 c0 c1 c2 c3)), (qu, eL t.2.1 4 (v4 (z_UNITS (4 * k)) (z_UNITS (4 * k + 1)) (z_UNITS (4 * k + 2)) (z_UNITS (4 * k + 3)))), (o, .inr (5, [.int (iI cd), .int (iI z), .int (iI lv), .ref qT, .ref qC, .ref qF, .ref qY, .ref qZ, .ref qu, .ref qv, .ref qw, .ref qg, .ref qh, .ref qx, .ref qc, .ref qa, .ref qb, .ref qd, .int (iI fm), .ref qp, .ref qq])), (qv, eL t.2.1 4 (v4 (z_UNITS (4 * j)) (z_UNITS (4 * j + 1)) (z_UNITS (4 * j + 2)) (z_UNITS (4 * j + 3))))]) hC hK hP hD hS 1 rfl (by decide) rfl d_Mo_spread_48 (fun H locs hP hD hS => ?_)
  rw [v4_u0] at hP hD
  refine lv_aload_n hC.1 hC.2.1 d_Mo_spread_49 rfl (lv_at hl 1 rfl) ?_
  refine z_get (ci := 5) (C := R_Mo) (T := F_Mo) (N := 21) (v := .ref qd) hC in_Mo hK hP 4 rfl rfl 17 (by decide) k_470 rfl d_Mo_spread_50 ?_
  refine lv_iload hC.1 hC.2.1 d_Mo_spread_53 (lv_at hl 0 rfl) ?_
  refine lv_aload_n hC.1 hC.2.1 d_Mo_spread_55 rfl (lv_at hl 1 rfl) ?_
  refine z_get (ci := 5) (C := R_Mo) (T := F_Mo) (N := 21) (v := .ref qa) hC in_Mo hK hP 4 rfl rfl 15 (by decide) k_468 rfl d_Mo_spread_56 ?_
  refine lv_iload hC.1 hC.2.1 d_Mo_spread_59 (lv_at hl 0 rfl) ?_
  refine z_lald hC hK hP 0 rfl (by decide) d_Mo_spread_61 ?_
  refine z_topl (z := x0) rfl ?_
  refine lv_aload_n hC.1 hC.2.1 d_Mo_spread_62 rfl (lv_at hl 1 rfl) ?_
  refine z_get (ci := 5) (C := R_Mo) (T := F_Mo) (N := 21) (v := .ref qv) hC in_Mo hK hP 4 rfl rfl 9 (by decide) k_462 rfl d_Mo_spread_63 ?_
  refine lv_iload hC.1 hC.2.1 d_Mo_spread_66 (lv_at hl 0 rfl) ?_
  refine z_lald hC hK hP 5 rfl (by decide) d_Mo_spread_68 ?_
  refine z_topl (z := z_UNITS (4 * j)) rfl ?_
  refine z_ladd hC d_Mo_spread_69 ?_
  refine z_topl (z := x0 + z_UNITS (4 * j)) (by omega) ?_
  refine z_last (ws' := [(qa, eL t.2.1 4 (v4 x0 x1 x2 x3)), (qb, eL t.2.1 4 (v4 (x0 + z_UNITS (4 * k)) y1 y2 y3)), (qd, eL t.2.1 4 (uZ (v4 c0 c1 c2 c3) 0 (x0 + z_UNITS (4 * j)))), (qu, eL t.2.1 4 (v4 (z_UNITS (4 * k)) (z_UNITS (4 * k + 1)) (z_UNITS (4 * k + 2)) (z_UNITS (4 * k + 3)))), (o, .inr (5, [.int (iI cd), .int (iI z), .int (iI lv), .ref qT, .ref qC, .ref qF, .ref qY, .ref qZ, .ref qu, .ref qv, .ref qw, .ref qg, .ref qh, .ref qx, .ref qc, .ref qa, .ref qb, .ref qd, .int (iI fm), .ref qp, .ref qq])), (qv, eL t.2.1 4 (v4 (z_UNITS (4 * j)) (z_UNITS (4 * j + 1)) (z_UNITS (4 * j + 2)) (z_UNITS (4 * j + 3))))]) hC hK hP hD hS 2 rfl (by decide) rfl d_Mo_spread_70 (fun H locs hP hD hS => ?_)
  rw [v4_u0] at hP hD
  refine lv_iinc (v := iI 1) (lv' := [(4, .int (iI 1)), (0, .ref o), (1, .int (iI y)), (2, .int (iI k)), (3, .int (iI j))]) hC.1 hC.2.1 d_Mo_spread_71 hl (k := 0) rfl (z_inc (by omega)) (by decide) rfl (fun ls hl => ?_)
  refine z_goto (tgt := 21) hC d_Mo_spread_74 (by decide) ?_
  refine lv_iload hC.1 hC.2.1 d_Mo_spread_21 (lv_at hl 0 rfl) ?_
  refine z_iconst hC d_Mo_spread_23 ?_
  refine z_icmp_ge (tgt := 77) hC d_Mo_spread_24 (by decide) (by decide) (by decide) (fun h => absurd h (by decide)) (fun _ => ?_)
  refine lv_aload_n hC.1 hC.2.1 d_Mo_spread_27 rfl (lv_at hl 1 rfl) ?_
  refine z_get (ci := 5) (C := R_Mo) (T := F_Mo) (N := 21) (v := .ref qb) hC in_Mo hK hP 4 rfl rfl 16 (by decide) k_469 rfl d_Mo_spread_28 ?_
  refine lv_iload hC.1 hC.2.1 d_Mo_spread_31 (lv_at hl 0 rfl) ?_
  refine lv_aload_n hC.1 hC.2.1 d_Mo_spread_33 rfl (lv_at hl 1 rfl) ?_
  refine z_get (ci := 5) (C := R_Mo) (T := F_Mo) (N := 21) (v := .ref qa) hC in_Mo hK hP 4 rfl rfl 15 (by decide) k_468 rfl d_Mo_spread_34 ?_
  refine lv_iload hC.1 hC.2.1 d_Mo_spread_37 (lv_at hl 0 rfl) ?_
  refine z_lald hC hK hP 0 rfl (by decide) d_Mo_spread_39 ?_
  refine z_topl (z := x1) rfl ?_
  refine lv_aload_n hC.1 hC.2.1 d_Mo_spread_40 rfl (lv_at hl 1 rfl) ?_
  refine z_get (ci := 5) (C := R_Mo) (T := F_Mo) (N := 21) (v := .ref qu) hC in_Mo hK hP 4 rfl rfl 8 (by decide) k_461 rfl d_Mo_spread_41 ?_
  refine lv_iload hC.1 hC.2.1 d_Mo_spread_44 (lv_at hl 0 rfl) ?_
  refine z_lald hC hK hP 3 rfl (by decide) d_Mo_spread_46 ?_
  refine z_topl (z := z_UNITS (4 * k + 1)) rfl ?_
  refine z_ladd hC d_Mo_spread_47 ?_
  refine z_topl (z := x1 + z_UNITS (4 * k + 1)) (by omega) ?_
  refine z_last (ws' := [(qa, eL t.2.1 4 (v4 x0 x1 x2 x3)), (qb, eL t.2.1 4 (uZ (v4 (x0 + z_UNITS (4 * k)) y1 y2 y3) 1 (x1 + z_UNITS (4 * k + 1)))), (qd, eL t.2.1 4 (v4 (x0 + z_UNITS (4 * j)) c1 c2 c3)), (qu, eL t.2.1 4 (v4 (z_UNITS (4 * k)) (z_UNITS (4 * k + 1)) (z_UNITS (4 * k + 2)) (z_UNITS (4 * k + 3)))), (o, .inr (5, [.int (iI cd), .int (iI z), .int (iI lv), .ref qT, .ref qC, .ref qF, .ref qY, .ref qZ, .ref qu, .ref qv, .ref qw, .ref qg, .ref qh, .ref qx, .ref qc, .ref qa, .ref qb, .ref qd, .int (iI fm), .ref qp, .ref qq])), (qv, eL t.2.1 4 (v4 (z_UNITS (4 * j)) (z_UNITS (4 * j + 1)) (z_UNITS (4 * j + 2)) (z_UNITS (4 * j + 3))))]) hC hK hP hD hS 1 rfl (by decide) rfl d_Mo_spread_48 (fun H locs hP hD hS => ?_)
  rw [v4_u1] at hP hD
  refine lv_aload_n hC.1 hC.2.1 d_Mo_spread_49 rfl (lv_at hl 1 rfl) ?_
  refine z_get (ci := 5) (C := R_Mo) (T := F_Mo) (N := 21) (v := .ref qd) hC in_Mo hK hP 4 rfl rfl 17 (by decide) k_470 rfl d_Mo_spread_50 ?_
  refine lv_iload hC.1 hC.2.1 d_Mo_spread_53 (lv_at hl 0 rfl) ?_
  refine lv_aload_n hC.1 hC.2.1 d_Mo_spread_55 rfl (lv_at hl 1 rfl) ?_
  refine z_get (ci := 5) (C := R_Mo) (T := F_Mo) (N := 21) (v := .ref qa) hC in_Mo hK hP 4 rfl rfl 15 (by decide) k_468 rfl d_Mo_spread_56 ?_
  refine lv_iload hC.1 hC.2.1 d_Mo_spread_59 (lv_at hl 0 rfl) ?_
  refine z_lald hC hK hP 0 rfl (by decide) d_Mo_spread_61 ?_
  refine z_topl (z := x1) rfl ?_
  refine lv_aload_n hC.1 hC.2.1 d_Mo_spread_62 rfl (lv_at hl 1 rfl) ?_
  refine z_get (ci := 5) (C := R_Mo) (T := F_Mo) (N := 21) (v := .ref qv) hC in_Mo hK hP 4 rfl rfl 9 (by decide) k_462 rfl d_Mo_spread_63 ?_
  refine lv_iload hC.1 hC.2.1 d_Mo_spread_66 (lv_at hl 0 rfl) ?_
  refine z_lald hC hK hP 5 rfl (by decide) d_Mo_spread_68 ?_
  refine z_topl (z := z_UNITS (4 * j + 1)) rfl ?_
  refine z_ladd hC d_Mo_spread_69 ?_
  refine z_topl (z := x1 + z_UNITS (4 * j + 1)) (by omega) ?_
  refine z_last (ws' := [(qa, eL t.2.1 4 (v4 x0 x1 x2 x3)), (qb, eL t.2.1 4 (v4 (x0 + z_UNITS (4 * k)) (x1 + z_UNITS (4 * k + 1)) y2 y3)), (qd, eL t.2.1 4 (uZ (v4 (x0 + z_UNITS (4 * j)) c1 c2 c3) 1 (x1 + z_UNITS (4 * j + 1)))), (qu, eL t.2.1 4 (v4 (z_UNITS (4 * k)) (z_UNITS (4 * k + 1)) (z_UNITS (4 * k + 2)) (z_UNITS (4 * k + 3)))), (o, .inr (5, [.int (iI cd), .int (iI z), .int (iI lv), .ref qT, .ref qC, .ref qF, .ref qY, .ref qZ, .ref qu, .ref qv, .ref qw, .ref qg, .ref qh, .ref qx, .ref qc, .ref qa, .ref qb, .ref qd, .int (iI fm), .ref qp, .ref qq])), (qv, eL t.2.1 4 (v4 (z_UNITS (4 * j)) (z_UNITS (4 * j + 1)) (z_UNITS (4 * j + 2)) (z_UNITS (4 * j + 3))))]) hC hK hP hD hS 2 rfl (by decide) rfl d_Mo_spread_70 (fun H locs hP hD hS => ?_)
  rw [v4_u1] at hP hD
  refine lv_iinc (v := iI 2) (lv' := [(4, .int (iI 2)), (0, .ref o), (1, .int (iI y)), (2, .int (iI k)), (3, .int (iI j))]) hC.1 hC.2.1 d_Mo_spread_71 hl (k := 0) rfl (z_inc (by omega)) (by decide) rfl (fun ls hl => ?_)
  refine z_goto (tgt := 21) hC d_Mo_spread_74 (by decide) ?_
  refine lv_iload hC.1 hC.2.1 d_Mo_spread_21 (lv_at hl 0 rfl) ?_
  refine z_iconst hC d_Mo_spread_23 ?_
  refine z_icmp_ge (tgt := 77) hC d_Mo_spread_24 (by decide) (by decide) (by decide) (fun h => absurd h (by decide)) (fun _ => ?_)
  refine lv_aload_n hC.1 hC.2.1 d_Mo_spread_27 rfl (lv_at hl 1 rfl) ?_
  refine z_get (ci := 5) (C := R_Mo) (T := F_Mo) (N := 21) (v := .ref qb) hC in_Mo hK hP 4 rfl rfl 16 (by decide) k_469 rfl d_Mo_spread_28 ?_
  refine lv_iload hC.1 hC.2.1 d_Mo_spread_31 (lv_at hl 0 rfl) ?_
  refine lv_aload_n hC.1 hC.2.1 d_Mo_spread_33 rfl (lv_at hl 1 rfl) ?_
  refine z_get (ci := 5) (C := R_Mo) (T := F_Mo) (N := 21) (v := .ref qa) hC in_Mo hK hP 4 rfl rfl 15 (by decide) k_468 rfl d_Mo_spread_34 ?_
  refine lv_iload hC.1 hC.2.1 d_Mo_spread_37 (lv_at hl 0 rfl) ?_
  refine z_lald hC hK hP 0 rfl (by decide) d_Mo_spread_39 ?_
  refine z_topl (z := x2) rfl ?_
  refine lv_aload_n hC.1 hC.2.1 d_Mo_spread_40 rfl (lv_at hl 1 rfl) ?_
  refine z_get (ci := 5) (C := R_Mo) (T := F_Mo) (N := 21) (v := .ref qu) hC in_Mo hK hP 4 rfl rfl 8 (by decide) k_461 rfl d_Mo_spread_41 ?_
  refine lv_iload hC.1 hC.2.1 d_Mo_spread_44 (lv_at hl 0 rfl) ?_
  refine z_lald hC hK hP 3 rfl (by decide) d_Mo_spread_46 ?_
  refine z_topl (z := z_UNITS (4 * k + 2)) rfl ?_
  refine z_ladd hC d_Mo_spread_47 ?_
  refine z_topl (z := x2 + z_UNITS (4 * k + 2)) (by omega) ?_
  refine z_last (ws' := [(qa, eL t.2.1 4 (v4 x0 x1 x2 x3)), (qb, eL t.2.1 4 (uZ (v4 (x0 + z_UNITS (4 * k)) (x1 + z_UNITS (4 * k + 1)) y2 y3) 2 (x2 + z_UNITS (4 * k + 2)))), (qd, eL t.2.1 4 (v4 (x0 + z_UNITS (4 * j)) (x1 + z_UNITS (4 * j + 1)) c2 c3)), (qu, eL t.2.1 4 (v4 (z_UNITS (4 * k)) (z_UNITS (4 * k + 1)) (z_UNITS (4 * k + 2)) (z_UNITS (4 * k + 3)))), (o, .inr (5, [.int (iI cd), .int (iI z), .int (iI lv), .ref qT, .ref qC, .ref qF, .ref qY, .ref qZ, .ref qu, .ref qv, .ref qw, .ref qg, .ref qh, .ref qx, .ref qc, .ref qa, .ref qb, .ref qd, .int (iI fm), .ref qp, .ref qq])), (qv, eL t.2.1 4 (v4 (z_UNITS (4 * j)) (z_UNITS (4 * j + 1)) (z_UNITS (4 * j + 2)) (z_UNITS (4 * j + 3))))]) hC hK hP hD hS 1 rfl (by decide) rfl d_Mo_spread_48 (fun H locs hP hD hS => ?_)
  rw [v4_u2] at hP hD
  refine lv_aload_n hC.1 hC.2.1 d_Mo_spread_49 rfl (lv_at hl 1 rfl) ?_
  refine z_get (ci := 5) (C := R_Mo) (T := F_Mo) (N := 21) (v := .ref qd) hC in_Mo hK hP 4 rfl rfl 17 (by decide) k_470 rfl d_Mo_spread_50 ?_
  refine lv_iload hC.1 hC.2.1 d_Mo_spread_53 (lv_at hl 0 rfl) ?_
  refine lv_aload_n hC.1 hC.2.1 d_Mo_spread_55 rfl (lv_at hl 1 rfl) ?_
  refine z_get (ci := 5) (C := R_Mo) (T := F_Mo) (N := 21) (v := .ref qa) hC in_Mo hK hP 4 rfl rfl 15 (by decide) k_468 rfl d_Mo_spread_56 ?_
  refine lv_iload hC.1 hC.2.1 d_Mo_spread_59 (lv_at hl 0 rfl) ?_
  refine z_lald hC hK hP 0 rfl (by decide) d_Mo_spread_61 ?_
  refine z_topl (z := x2) rfl ?_
  refine lv_aload_n hC.1 hC.2.1 d_Mo_spread_62 rfl (lv_at hl 1 rfl) ?_
  refine z_get (ci := 5) (C := R_Mo) (T := F_Mo) (N := 21) (v := .ref qv) hC in_Mo hK hP 4 rfl rfl 9 (by decide) k_462 rfl d_Mo_spread_63 ?_
  refine lv_iload hC.1 hC.2.1 d_Mo_spread_66 (lv_at hl 0 rfl) ?_
  refine z_lald hC hK hP 5 rfl (by decide) d_Mo_spread_68 ?_
  refine z_topl (z := z_UNITS (4 * j + 2)) rfl ?_
  refine z_ladd hC d_Mo_spread_69 ?_
  refine z_topl (z := x2 + z_UNITS (4 * j + 2)) (by omega) ?_
  refine z_last (ws' := [(qa, eL t.2.1 4 (v4 x0 x1 x2 x3)), (qb, eL t.2.1 4 (v4 (x0 + z_UNITS (4 * k)) (x1 + z_UNITS (4 * k + 1)) (x2 + z_UNITS (4 * k + 2)) y3)), (qd, eL t.2.1 4 (uZ (v4 (x0 + z_UNITS (4 * j)) (x1 + z_UNITS (4 * j + 1)) c2 c3) 2 (x2 + z_UNITS (4 * j + 2)))), (qu, eL t.2.1 4 (v4 (z_UNITS (4 * k)) (z_UNITS (4 * k + 1)) (z_UNITS (4 * k + 2)) (z_UNITS (4 * k + 3)))), (o, .inr (5, [.int (iI cd), .int (iI z), .int (iI lv), .ref qT, .ref qC, .ref qF, .ref qY, .ref qZ, .ref qu, .ref qv, .ref qw, .ref qg, .ref qh, .ref qx, .ref qc, .ref qa, .ref qb, .ref qd, .int (iI fm), .ref qp, .ref qq])), (qv, eL t.2.1 4 (v4 (z_UNITS (4 * j)) (z_UNITS (4 * j + 1)) (z_UNITS (4 * j + 2)) (z_UNITS (4 * j + 3))))]) hC hK hP hD hS 2 rfl (by decide) rfl d_Mo_spread_70 (fun H locs hP hD hS => ?_)
  rw [v4_u2] at hP hD
  refine lv_iinc (v := iI 3) (lv' := [(4, .int (iI 3)), (0, .ref o), (1, .int (iI y)), (2, .int (iI k)), (3, .int (iI j))]) hC.1 hC.2.1 d_Mo_spread_71 hl (k := 0) rfl (z_inc (by omega)) (by decide) rfl (fun ls hl => ?_)
  refine z_goto (tgt := 21) hC d_Mo_spread_74 (by decide) ?_
  refine lv_iload hC.1 hC.2.1 d_Mo_spread_21 (lv_at hl 0 rfl) ?_
  refine z_iconst hC d_Mo_spread_23 ?_
  refine z_icmp_ge (tgt := 77) hC d_Mo_spread_24 (by decide) (by decide) (by decide) (fun h => absurd h (by decide)) (fun _ => ?_)
  refine lv_aload_n hC.1 hC.2.1 d_Mo_spread_27 rfl (lv_at hl 1 rfl) ?_
  refine z_get (ci := 5) (C := R_Mo) (T := F_Mo) (N := 21) (v := .ref qb) hC in_Mo hK hP 4 rfl rfl 16 (by decide) k_469 rfl d_Mo_spread_28 ?_
  refine lv_iload hC.1 hC.2.1 d_Mo_spread_31 (lv_at hl 0 rfl) ?_
  refine lv_aload_n hC.1 hC.2.1 d_Mo_spread_33 rfl (lv_at hl 1 rfl) ?_
  refine z_get (ci := 5) (C := R_Mo) (T := F_Mo) (N := 21) (v := .ref qa) hC in_Mo hK hP 4 rfl rfl 15 (by decide) k_468 rfl d_Mo_spread_34 ?_
  refine lv_iload hC.1 hC.2.1 d_Mo_spread_37 (lv_at hl 0 rfl) ?_
  refine z_lald hC hK hP 0 rfl (by decide) d_Mo_spread_39 ?_
  refine z_topl (z := x3) rfl ?_
  refine lv_aload_n hC.1 hC.2.1 d_Mo_spread_40 rfl (lv_at hl 1 rfl) ?_
  refine z_get (ci := 5) (C := R_Mo) (T := F_Mo) (N := 21) (v := .ref qu) hC in_Mo hK hP 4 rfl rfl 8 (by decide) k_461 rfl d_Mo_spread_41 ?_
  refine lv_iload hC.1 hC.2.1 d_Mo_spread_44 (lv_at hl 0 rfl) ?_
  refine z_lald hC hK hP 3 rfl (by decide) d_Mo_spread_46 ?_
  refine z_topl (z := z_UNITS (4 * k + 3)) rfl ?_
  refine z_ladd hC d_Mo_spread_47 ?_
  refine z_topl (z := x3 + z_UNITS (4 * k + 3)) (by omega) ?_
  refine z_last (ws' := [(qa, eL t.2.1 4 (v4 x0 x1 x2 x3)), (qb, eL t.2.1 4 (uZ (v4 (x0 + z_UNITS (4 * k)) (x1 + z_UNITS (4 * k + 1)) (x2 + z_UNITS (4 * k + 2)) y3) 3 (x3 + z_UNITS (4 * k + 3)))), (qd, eL t.2.1 4 (v4 (x0 + z_UNITS (4 * j)) (x1 + z_UNITS (4 * j + 1)) (x2 + z_UNITS (4 * j + 2)) c3)), (qu, eL t.2.1 4 (v4 (z_UNITS (4 * k)) (z_UNITS (4 * k + 1)) (z_UNITS (4 * k + 2)) (z_UNITS (4 * k + 3)))), (o, .inr (5, [.int (iI cd), .int (iI z), .int (iI lv), .ref qT, .ref qC, .ref qF, .ref qY, .ref qZ, .ref qu, .ref qv, .ref qw, .ref qg, .ref qh, .ref qx, .ref qc, .ref qa, .ref qb, .ref qd, .int (iI fm), .ref qp, .ref qq])), (qv, eL t.2.1 4 (v4 (z_UNITS (4 * j)) (z_UNITS (4 * j + 1)) (z_UNITS (4 * j + 2)) (z_UNITS (4 * j + 3))))]) hC hK hP hD hS 1 rfl (by decide) rfl d_Mo_spread_48 (fun H locs hP hD hS => ?_)
  rw [v4_u3] at hP hD
  refine lv_aload_n hC.1 hC.2.1 d_Mo_spread_49 rfl (lv_at hl 1 rfl) ?_
  refine z_get (ci := 5) (C := R_Mo) (T := F_Mo) (N := 21) (v := .ref qd) hC in_Mo hK hP 4 rfl rfl 17 (by decide) k_470 rfl d_Mo_spread_50 ?_
  refine lv_iload hC.1 hC.2.1 d_Mo_spread_53 (lv_at hl 0 rfl) ?_
  refine lv_aload_n hC.1 hC.2.1 d_Mo_spread_55 rfl (lv_at hl 1 rfl) ?_
  refine z_get (ci := 5) (C := R_Mo) (T := F_Mo) (N := 21) (v := .ref qa) hC in_Mo hK hP 4 rfl rfl 15 (by decide) k_468 rfl d_Mo_spread_56 ?_
  refine lv_iload hC.1 hC.2.1 d_Mo_spread_59 (lv_at hl 0 rfl) ?_
  refine z_lald hC hK hP 0 rfl (by decide) d_Mo_spread_61 ?_
  refine z_topl (z := x3) rfl ?_
  refine lv_aload_n hC.1 hC.2.1 d_Mo_spread_62 rfl (lv_at hl 1 rfl) ?_
  refine z_get (ci := 5) (C := R_Mo) (T := F_Mo) (N := 21) (v := .ref qv) hC in_Mo hK hP 4 rfl rfl 9 (by decide) k_462 rfl d_Mo_spread_63 ?_
  refine lv_iload hC.1 hC.2.1 d_Mo_spread_66 (lv_at hl 0 rfl) ?_
  refine z_lald hC hK hP 5 rfl (by decide) d_Mo_spread_68 ?_
  refine z_topl (z := z_UNITS (4 * j + 3)) rfl ?_
  refine z_ladd hC d_Mo_spread_69 ?_
  refine z_topl (z := x3 + z_UNITS (4 * j + 3)) (by omega) ?_
  refine z_last (ws' := [(qa, eL t.2.1 4 (v4 x0 x1 x2 x3)), (qb, eL t.2.1 4 (v4 (x0 + z_UNITS (4 * k)) (x1 + z_UNITS (4 * k + 1)) (x2 + z_UNITS (4 * k + 2)) (x3 + z_UNITS (4 * k + 3)))), (qd, eL t.2.1 4 (uZ (v4 (x0 + z_UNITS (4 * j)) (x1 + z_UNITS (4 * j + 1)) (x2 + z_UNITS (4 * j + 2)) c3) 3 (x3 + z_UNITS (4 * j + 3)))), (qu, eL t.2.1 4 (v4 (z_UNITS (4 * k)) (z_UNITS (4 * k + 1)) (z_UNITS (4 * k + 2)) (z_UNITS (4 * k + 3)))), (o, .inr (5, [.int (iI cd), .int (iI z), .int (iI lv), .ref qT, .ref qC, .ref qF, .ref qY, .ref qZ, .ref qu, .ref qv, .ref qw, .ref qg, .ref qh, .ref qx, .ref qc, .ref qa, .ref qb, .ref qd, .int (iI fm), .ref qp, .ref qq])), (qv, eL t.2.1 4 (v4 (z_UNITS (4 * j)) (z_UNITS (4 * j + 1)) (z_UNITS (4 * j + 2)) (z_UNITS (4 * j + 3))))]) hC hK hP hD hS 2 rfl (by decide) rfl d_Mo_spread_70 (fun H locs hP hD hS => ?_)
  rw [v4_u3] at hP hD
  refine lv_iinc (v := iI 4) (lv' := [(4, .int (iI 4)), (0, .ref o), (1, .int (iI y)), (2, .int (iI k)), (3, .int (iI j))]) hC.1 hC.2.1 d_Mo_spread_71 hl (k := 0) rfl (z_inc (by omega)) (by decide) rfl (fun ls hl => ?_)
  refine z_goto (tgt := 21) hC d_Mo_spread_74 (by decide) ?_
  refine lv_iload hC.1 hC.2.1 d_Mo_spread_21 (lv_at hl 0 rfl) ?_
  refine z_iconst hC d_Mo_spread_23 ?_
  refine z_icmp_ge (tgt := 77) hC d_Mo_spread_24 (by decide) (by decide) (by decide) (fun _ => ?_) (fun h => absurd h (by decide))
  have ev_qu : (v4 (z_UNITS (4 * k)) (z_UNITS (4 * k + 1)) (z_UNITS (4 * k + 2)) (z_UNITS (4 * k + 3))) = (v4 r0 r1 r2 r3) := by rw [show r0 = z_UNITS (4 * k) by omega, show r1 = z_UNITS (4 * k + 1) by omega, show r2 = z_UNITS (4 * k + 2) by omega, show r3 = z_UNITS (4 * k + 3) by omega]
  rw [ev_qu] at hP hD
  have ev_qv : (v4 (z_UNITS (4 * j)) (z_UNITS (4 * j + 1)) (z_UNITS (4 * j + 2)) (z_UNITS (4 * j + 3))) = (v4 m0 m1 m2 m3) := by rw [show m0 = z_UNITS (4 * j) by omega, show m1 = z_UNITS (4 * j + 1) by omega, show m2 = z_UNITS (4 * j + 2) by omega, show m3 = z_UNITS (4 * j + 3) by omega]
  rw [ev_qv] at hP hD
  have ev_qb : (v4 (x0 + z_UNITS (4 * k)) (x1 + z_UNITS (4 * k + 1)) (x2 + z_UNITS (4 * k + 2)) (x3 + z_UNITS (4 * k + 3))) = (v4 b0 b1 b2 b3) := by rw [show b0 = x0 + z_UNITS (4 * k) by omega, show b1 = x1 + z_UNITS (4 * k + 1) by omega, show b2 = x2 + z_UNITS (4 * k + 2) by omega, show b3 = x3 + z_UNITS (4 * k + 3) by omega]
  rw [ev_qb] at hP hD
  have ev_qd : (v4 (x0 + z_UNITS (4 * j)) (x1 + z_UNITS (4 * j + 1)) (x2 + z_UNITS (4 * j + 2)) (x3 + z_UNITS (4 * j + 3))) = (v4 d0 d1 d2 d3) := by rw [show d0 = x0 + z_UNITS (4 * j) by omega, show d1 = x1 + z_UNITS (4 * j + 1) by omega, show d2 = x2 + z_UNITS (4 * j + 2) by omega, show d3 = x3 + z_UNITS (4 * j + 3) by omega]
  rw [ev_qd] at hP hD
  have hP9 := hP.sub (ws' := [(o, .inr (5, [.int (iI cd), .int (iI z), .int (iI lv), .ref qT, .ref qC, .ref qF, .ref qY, .ref qZ, .ref qu, .ref qv, .ref qw, .ref qg, .ref qh, .ref qx, .ref qc, .ref qa, .ref qb, .ref qd, .int (iI fm), .ref qp, .ref qq])), (qa, eL t.2.1 4 (v4 x0 x1 x2 x3)), (qb, eL t.2.1 4 (v4 b0 b1 b2 b3)), (qd, eL t.2.1 4 (v4 d0 d1 d2 d3)), (qu, eL t.2.1 4 (v4 r0 r1 r2 r3)), (qv, eL t.2.1 4 (v4 m0 m1 m2 m3))]) [4, 0, 1, 2, 3, 5] rfl
  have hD9 := hD.sub (ws' := [(o, .inr (5, [.int (iI cd), .int (iI z), .int (iI lv), .ref qT, .ref qC, .ref qF, .ref qY, .ref qZ, .ref qu, .ref qv, .ref qw, .ref qg, .ref qh, .ref qx, .ref qc, .ref qa, .ref qb, .ref qd, .int (iI fm), .ref qp, .ref qq])), (qa, eL t.2.1 4 (v4 x0 x1 x2 x3)), (qb, eL t.2.1 4 (v4 b0 b1 b2 b3)), (qd, eL t.2.1 4 (v4 d0 d1 d2 d3)), (qu, eL t.2.1 4 (v4 r0 r1 r2 r3)), (qv, eL t.2.1 4 (v4 m0 m1 m2 m3))]) [4, 0, 1, 2, 3, 5] (by decide) rfl
  exact ret () _ _ 77 _ d_Mo_spread_77 trivial hP9 hD9 hS
theorem ye_Mo_get : ye y_Mo_get R_Mo 3 := by unfold ye; decide +kernel
abbrev rm_Mo_get : Room := { frames := 1, cells := 0, slots := 0, locals := 22 }
set_option maxHeartbeats 4000000 in
set_option maxRecDepth 100000 in
theorem c_Mo_get (l : Launch) (D : va_G) (t : vt) (ts : Nat → Nat) (o qT qC qF qY qZ qu qv qw qg qh qx qc qa qb qd qp qq : Nat) (cd z lv fm : Int) (q : Nat) (F : Int → Int) (x0 x1 x2 x3 : Int) (n c : Int) (hn : 0 ≤ n ∧ n < 1200) (hc : 0 ≤ c ∧ c ≤ 2) (hF : bF F) (r0 r1 r2 r3 : Int) (f_r0 : r0 = F (4 * c + 12 * n)) (f_r1 : r1 = F (4 * c + 12 * n + 1)) (f_r2 : r2 = F (4 * c + 12 * n + 2)) (f_r3 : r3 = F (4 * c + 12 * n + 3)) (sz : Nat) : Met l y_Mo_get (.code y_Mo_get b_Mo_get 5 none :: tb_ws) rm_Mo_get (MP D t ts [.ref o, .ref q, .int (iI n), .int (iI c)] [(o, .inr (5, [.int (iI cd), .int (iI z), .int (iI lv), .ref qT, .ref qC, .ref qF, .ref qY, .ref qZ, .ref qu, .ref qv, .ref qw, .ref qg, .ref qh, .ref qx, .ref qc, .ref qa, .ref qb, .ref qd, .int (iI fm), .ref qp, .ref qq])), (qC, eI t.1 14400 F), (q, eL t.2.1 4 (v4 x0 x1 x2 x3))] sz) (va_Qv (fun _ : Unit => True) (MB D (va_A [(o, .inr (5, [.int (iI cd), .int (iI z), .int (iI lv), .ref qT, .ref qC, .ref qF, .ref qY, .ref qZ, .ref qu, .ref qv, .ref qw, .ref qg, .ref qh, .ref qx, .ref qc, .ref qa, .ref qb, .ref qd, .int (iI fm), .ref qp, .ref qq])), (qC, eI t.1 14400 F), (q, eL t.2.1 4 (v4 x0 x1 x2 x3))] sz) (fun _ : Unit => [(o, .inr (5, [.int (iI cd), .int (iI z), .int (iI lv), .ref qT, .ref qC, .ref qF, .ref qY, .ref qZ, .ref qu, .ref qv, .ref qw, .ref qg, .ref qh, .ref qx, .ref qc, .ref qa, .ref qb, .ref qd, .int (iI fm), .ref qp, .ref qq])), (qC, eI t.1 14400 F), (q, eL t.2.1 4 (v4 r0 r1 r2 r3))])) (va_A [(o, .inr (5, [.int (iI cd), .int (iI z), .int (iI lv), .ref qT, .ref qC, .ref qF, .ref qY, .ref qZ, .ref qu, .ref qv, .ref qw, .ref qg, .ref qh, .ref qx, .ref qc, .ref qa, .ref qb, .ref qd, .int (iI fm), .ref qp, .ref qq])), (qC, eI t.1 14400 F), (q, eL t.2.1 4 (v4 x0 x1 x2 x3))] sz)) 0 0 (va_A [(o, .inr (5, [.int (iI cd), .int (iI z), .int (iI lv), .ref qT, .ref qC, .ref qF, .ref qY, .ref qZ, .ref qu, .ref qv, .ref qw, .ref qg, .ref qh, .ref qx, .ref qc, .ref qa, .ref qb, .ref qd, .int (iI fm), .ref qp, .ref qq])), (qC, eI t.1 14400 F), (q, eL t.2.1 4 (v4 x0 x1 x2 x3))] sz) := by
  refine m_v (by decide +kernel) (Nat.le_of_ble_eq_true rfl) ?_
  intro zp ze zs zm zb zt zc zQ A ls hC hA hP hK hD hE hS hl ret
  have hl : lv_has ls 5 [(0, .ref o), (1, .ref q), (2, .int (iI n)), (3, .int (iI c))] := hl
  refine z_iconst hC d_Mo_get_0 ?_
  refine lv_istore (lv' := [(4, .int (iI 0)), (0, .ref o), (1, .ref q), (2, .int (iI n)), (3, .int (iI c))]) hC.1 hC.2.1 d_Mo_get_1 hl (by decide) rfl (fun ls hl => ?_)
  refine lv_iload hC.1 hC.2.1 d_Mo_get_3 (lv_at hl 0 rfl) ?_
  refine z_iconst hC d_Mo_get_5 ?_
  refine z_icmp_ge (tgt := 34) hC d_Mo_get_6 (by decide) (by decide) (by decide) (fun h => absurd h (by decide)) (fun _ => ?_)
  refine lv_aload_n hC.1 hC.2.1 d_Mo_get_9 rfl (lv_at hl 2 rfl) ?_
  refine lv_iload hC.1 hC.2.1 d_Mo_get_10 (lv_at hl 0 rfl) ?_
  refine lv_aload_n hC.1 hC.2.1 d_Mo_get_12 rfl (lv_at hl 1 rfl) ?_
  refine z_get (ci := 5) (C := R_Mo) (T := F_Mo) (N := 21) (v := .ref qC) hC in_Mo hK hP 0 rfl rfl 4 (by decide) k_457 rfl d_Mo_get_13 ?_
  refine lv_aload_n hC.1 hC.2.1 d_Mo_get_16 rfl (lv_at hl 1 rfl) ?_
  refine lv_iload_n hC.1 hC.2.1 d_Mo_get_17 rfl (lv_at hl 3 rfl) ?_
  refine lv_iload_n hC.1 hC.2.1 d_Mo_get_18 rfl (lv_at hl 4 rfl) ?_
  refine z_roVi (As := [.int (iI n), .int (iI c)]) (rest := [.ref qC, .int (iI 0), .ref q]) hC (c_Mo_at l D t ts o n c (4 * c + 12 * n) (by omega)) (cw_V hC k_537 k_539 kp_26 k_6 k_540 ye_Mo_at (by decide)) hP hK hE hS [] rfl 0 (ci := 5) rfl rfl rfl rfl hl.1 rfl (Nat.le_of_ble_eq_true rfl) ⟨Nat.le_of_ble_eq_true rfl, Nat.le_of_ble_eq_true rfl⟩ d_Mo_get_19 ?_
  refine lv_iload hC.1 hC.2.1 d_Mo_get_22 (lv_at hl 0 rfl) ?_
  refine z_iadd hC d_Mo_get_24 ?_
  refine z_topi (z := 4 * c + 12 * n) (by omega) ?_
  refine z_iald hC hK hP 1 rfl (by omega) d_Mo_get_25 ?_
  refine z_i2l hC d_Mo_get_26 (by have := hF (4 * c + 12 * n); omega) ?_
  refine z_last (ws' := [(o, .inr (5, [.int (iI cd), .int (iI z), .int (iI lv), .ref qT, .ref qC, .ref qF, .ref qY, .ref qZ, .ref qu, .ref qv, .ref qw, .ref qg, .ref qh, .ref qx, .ref qc, .ref qa, .ref qb, .ref qd, .int (iI fm), .ref qp, .ref qq])), (qC, eI t.1 14400 F), (q, eL t.2.1 4 (uZ (v4 x0 x1 x2 x3) 0 (F (4 * c + 12 * n))))]) hC hK hP hD hS 2 rfl (by decide) rfl d_Mo_get_27 (fun H locs hP hD hS => ?_)
  rw [v4_u0] at hP hD
  refine lv_iinc (v := iI 1) (lv' := [(4, .int (iI 1)), (0, .ref o), (1, .ref q), (2, .int (iI n)), (3, .int (iI c))]) hC.1 hC.2.1 d_Mo_get_28 hl (k := 0) rfl (z_inc (by omega)) (by decide) rfl (fun ls hl => ?_)
  refine z_goto (tgt := 3) hC d_Mo_get_31 (by decide) ?_
  refine lv_iload hC.1 hC.2.1 d_Mo_get_3 (lv_at hl 0 rfl) ?_
  refine z_iconst hC d_Mo_get_5 ?_
  refine z_icmp_ge (tgt := 34) hC d_Mo_get_6 (by decide) (by decide) (by decide) (fun h => absurd h (by decide)) (fun _ => ?_)
  refine lv_aload_n hC.1 hC.2.1 d_Mo_get_9 rfl (lv_at hl 2 rfl) ?_
  refine lv_iload hC.1 hC.2.1 d_Mo_get_10 (lv_at hl 0 rfl) ?_
  refine lv_aload_n hC.1 hC.2.1 d_Mo_get_12 rfl (lv_at hl 1 rfl) ?_
  refine z_get (ci := 5) (C := R_Mo) (T := F_Mo) (N := 21) (v := .ref qC) hC in_Mo hK hP 0 rfl rfl 4 (by decide) k_457 rfl d_Mo_get_13 ?_
  refine lv_aload_n hC.1 hC.2.1 d_Mo_get_16 rfl (lv_at hl 1 rfl) ?_
  refine lv_iload_n hC.1 hC.2.1 d_Mo_get_17 rfl (lv_at hl 3 rfl) ?_
  refine lv_iload_n hC.1 hC.2.1 d_Mo_get_18 rfl (lv_at hl 4 rfl) ?_
  refine z_roVi (As := [.int (iI n), .int (iI c)]) (rest := [.ref qC, .int (iI 1), .ref q]) hC (c_Mo_at l D t ts o n c (4 * c + 12 * n) (by omega)) (cw_V hC k_537 k_539 kp_26 k_6 k_540 ye_Mo_at (by decide)) hP hK hE hS [] rfl 0 (ci := 5) rfl rfl rfl rfl hl.1 rfl (Nat.le_of_ble_eq_true rfl) ⟨Nat.le_of_ble_eq_true rfl, Nat.le_of_ble_eq_true rfl⟩ d_Mo_get_19 ?_
  refine lv_iload hC.1 hC.2.1 d_Mo_get_22 (lv_at hl 0 rfl) ?_
  refine z_iadd hC d_Mo_get_24 ?_
  refine z_topi (z := 4 * c + 12 * n + 1) (by omega) ?_
  refine z_iald hC hK hP 1 rfl (by omega) d_Mo_get_25 ?_
  refine z_i2l hC d_Mo_get_26 (by have := hF (4 * c + 12 * n + 1); omega) ?_
  refine z_last (ws' := [(o, .inr (5, [.int (iI cd), .int (iI z), .int (iI lv), .ref qT, .ref qC, .ref qF, .ref qY, .ref qZ, .ref qu, .ref qv, .ref qw, .ref qg, .ref qh, .ref qx, .ref qc, .ref qa, .ref qb, .ref qd, .int (iI fm), .ref qp, .ref qq])), (qC, eI t.1 14400 F), (q, eL t.2.1 4 (uZ (v4 (F (4 * c + 12 * n)) x1 x2 x3) 1 (F (4 * c + 12 * n + 1))))]) hC hK hP hD hS 2 rfl (by decide) rfl d_Mo_get_27 (fun H locs hP hD hS => ?_)
  rw [v4_u1] at hP hD
  refine lv_iinc (v := iI 2) (lv' := [(4, .int (iI 2)), (0, .ref o), (1, .ref q), (2, .int (iI n)), (3, .int (iI c))]) hC.1 hC.2.1 d_Mo_get_28 hl (k := 0) rfl (z_inc (by omega)) (by decide) rfl (fun ls hl => ?_)
  refine z_goto (tgt := 3) hC d_Mo_get_31 (by decide) ?_
  refine lv_iload hC.1 hC.2.1 d_Mo_get_3 (lv_at hl 0 rfl) ?_
  refine z_iconst hC d_Mo_get_5 ?_
  refine z_icmp_ge (tgt := 34) hC d_Mo_get_6 (by decide) (by decide) (by decide) (fun h => absurd h (by decide)) (fun _ => ?_)
  refine lv_aload_n hC.1 hC.2.1 d_Mo_get_9 rfl (lv_at hl 2 rfl) ?_
  refine lv_iload hC.1 hC.2.1 d_Mo_get_10 (lv_at hl 0 rfl) ?_
  refine lv_aload_n hC.1 hC.2.1 d_Mo_get_12 rfl (lv_at hl 1 rfl) ?_
  refine z_get (ci := 5) (C := R_Mo) (T := F_Mo) (N := 21) (v := .ref qC) hC in_Mo hK hP 0 rfl rfl 4 (by decide) k_457 rfl d_Mo_get_13 ?_
  refine lv_aload_n hC.1 hC.2.1 d_Mo_get_16 rfl (lv_at hl 1 rfl) ?_
  refine lv_iload_n hC.1 hC.2.1 d_Mo_get_17 rfl (lv_at hl 3 rfl) ?_
  refine lv_iload_n hC.1 hC.2.1 d_Mo_get_18 rfl (lv_at hl 4 rfl) ?_
  refine z_roVi (As := [.int (iI n), .int (iI c)]) (rest := [.ref qC, .int (iI 2), .ref q]) hC (c_Mo_at l D t ts o n c (4 * c + 12 * n) (by omega)) (cw_V hC k_537 k_539 kp_26 k_6 k_540 ye_Mo_at (by decide)) hP hK hE hS [] rfl 0 (ci := 5) rfl rfl rfl rfl hl.1 rfl (Nat.le_of_ble_eq_true rfl) ⟨Nat.le_of_ble_eq_true rfl, Nat.le_of_ble_eq_true rfl⟩ d_Mo_get_19 ?_
  refine lv_iload hC.1 hC.2.1 d_Mo_get_22 (lv_at hl 0 rfl) ?_
  refine z_iadd hC d_Mo_get_24 ?_
  refine z_topi (z := 4 * c + 12 * n + 2) (by omega) ?_
  refine z_iald hC hK hP 1 rfl (by omega) d_Mo_get_25 ?_
  refine z_i2l hC d_Mo_get_26 (by have := hF (4 * c + 12 * n + 2); omega) ?_
  refine z_last (ws' := [(o, .inr (5, [.int (iI cd), .int (iI z), .int (iI lv), .ref qT, .ref qC, .ref qF, .ref qY, .ref qZ, .ref qu, .ref qv, .ref qw, .ref qg, .ref qh, .ref qx, .ref qc, .ref qa, .ref qb, .ref qd, .int (iI fm), .ref qp, .ref qq])), (qC, eI t.1 14400 F), (q, eL t.2.1 4 (uZ (v4 (F (4 * c + 12 * n)) (F (4 * c + 12 * n + 1)) x2 x3) 2 (F (4 * c + 12 * n + 2))))]) hC hK hP hD hS 2 rfl (by decide) rfl d_Mo_get_27 (fun H locs hP hD hS => ?_)
  rw [v4_u2] at hP hD
  refine lv_iinc (v := iI 3) (lv' := [(4, .int (iI 3)), (0, .ref o), (1, .ref q), (2, .int (iI n)), (3, .int (iI c))]) hC.1 hC.2.1 d_Mo_get_28 hl (k := 0) rfl (z_inc (by omega)) (by decide) rfl (fun ls hl => ?_)
  refine z_goto (tgt := 3) hC d_Mo_get_31 (by decide) ?_
  refine lv_iload hC.1 hC.2.1 d_Mo_get_3 (lv_at hl 0 rfl) ?_
  refine z_iconst hC d_Mo_get_5 ?_
  refine z_icmp_ge (tgt := 34) hC d_Mo_get_6 (by decide) (by decide) (by decide) (fun h => absurd h (by decide)) (fun _ => ?_)
  refine lv_aload_n hC.1 hC.2.1 d_Mo_get_9 rfl (lv_at hl 2 rfl) ?_
  refine lv_iload hC.1 hC.2.1 d_Mo_get_10 (lv_at hl 0 rfl) ?_
  refine lv_aload_n hC.1 hC.2.1 d_Mo_get_12 rfl (lv_at hl 1 rfl) ?_
  refine z_get (ci := 5) (C := R_Mo) (T := F_Mo) (N := 21) (v := .ref qC) hC in_Mo hK hP 0 rfl rfl 4 (by decide) k_457 rfl d_Mo_get_13 ?_
  refine lv_aload_n hC.1 hC.2.1 d_Mo_get_16 rfl (lv_at hl 1 rfl) ?_
  refine lv_iload_n hC.1 hC.2.1 d_Mo_get_17 rfl (lv_at hl 3 rfl) ?_
  refine lv_iload_n hC.1 hC.2.1 d_Mo_get_18 rfl (lv_at hl 4 rfl) ?_
  refine z_roVi (As := [.int (iI n), .int (iI c)]) (rest := [.ref qC, .int (iI 3), .ref q]) hC (c_Mo_at l D t ts o n c (4 * c + 12 * n) (by omega)) (cw_V hC k_537 k_539 kp_26 k_6 k_540 ye_Mo_at (by decide)) hP hK hE hS [] rfl 0 (ci := 5) rfl rfl rfl rfl hl.1 rfl (Nat.le_of_ble_eq_true rfl) ⟨Nat.le_of_ble_eq_true rfl, Nat.le_of_ble_eq_true rfl⟩ d_Mo_get_19 ?_
  refine lv_iload hC.1 hC.2.1 d_Mo_get_22 (lv_at hl 0 rfl) ?_
  refine z_iadd hC d_Mo_get_24 ?_
  refine z_topi (z := 4 * c + 12 * n + 3) (by omega) ?_
  refine z_iald hC hK hP 1 rfl (by omega) d_Mo_get_25 ?_
  refine z_i2l hC d_Mo_get_26 (by have := hF (4 * c + 12 * n + 3); omega) ?_
  refine z_last (ws' := [(o, .inr (5, [.int (iI cd), .int (iI z), .int (iI lv), .ref qT, .ref qC, .ref qF, .ref qY, .ref qZ, .ref qu, .ref qv, .ref qw, .ref qg, .ref qh, .ref qx, .ref qc, .ref qa, .ref qb, .ref qd, .int (iI fm), .ref qp, .ref qq])), (qC, eI t.1 14400 F), (q, eL t.2.1 4 (uZ (v4 (F (4 * c + 12 * n)) (F (4 * c + 12 * n + 1)) (F (4 * c + 12 * n + 2)) x3) 3 (F (4 * c + 12 * n + 3))))]) hC hK hP hD hS 2 rfl (by decide) rfl d_Mo_get_27 (fun H locs hP hD hS => ?_)
  rw [v4_u3] at hP hD
  refine lv_iinc (v := iI 4) (lv' := [(4, .int (iI 4)), (0, .ref o), (1, .ref q), (2, .int (iI n)), (3, .int (iI c))]) hC.1 hC.2.1 d_Mo_get_28 hl (k := 0) rfl (z_inc (by omega)) (by decide) rfl (fun ls hl => ?_)
  refine z_goto (tgt := 3) hC d_Mo_get_31 (by decide) ?_
  refine lv_iload hC.1 hC.2.1 d_Mo_get_3 (lv_at hl 0 rfl) ?_
  refine z_iconst hC d_Mo_get_5 ?_
  refine z_icmp_ge (tgt := 34) hC d_Mo_get_6 (by decide) (by decide) (by decide) (fun _ => ?_) (fun h => absurd h (by decide))
  have ev_q : (v4 (F (4 * c + 12 * n)) (F (4 * c + 12 * n + 1)) (F (4 * c + 12 * n + 2)) (F (4 * c + 12 * n + 3))) = (v4 r0 r1 r2 r3) := by rw [show r0 = F (4 * c + 12 * n) by omega, show r1 = F (4 * c + 12 * n + 1) by omega, show r2 = F (4 * c + 12 * n + 2) by omega, show r3 = F (4 * c + 12 * n + 3) by omega]
  rw [ev_q] at hP hD
  have hP9 := hP.sub (ws' := [(o, .inr (5, [.int (iI cd), .int (iI z), .int (iI lv), .ref qT, .ref qC, .ref qF, .ref qY, .ref qZ, .ref qu, .ref qv, .ref qw, .ref qg, .ref qh, .ref qx, .ref qc, .ref qa, .ref qb, .ref qd, .int (iI fm), .ref qp, .ref qq])), (qC, eI t.1 14400 F), (q, eL t.2.1 4 (v4 r0 r1 r2 r3))]) [0, 1, 2] rfl
  have hD9 := hD.sub (ws' := [(o, .inr (5, [.int (iI cd), .int (iI z), .int (iI lv), .ref qT, .ref qC, .ref qF, .ref qY, .ref qZ, .ref qu, .ref qv, .ref qw, .ref qg, .ref qh, .ref qx, .ref qc, .ref qa, .ref qb, .ref qd, .int (iI fm), .ref qp, .ref qq])), (qC, eI t.1 14400 F), (q, eL t.2.1 4 (v4 r0 r1 r2 r3))]) [0, 1, 2] (by decide) rfl
  exact ret () _ _ 34 _ d_Mo_get_34 trivial hP9 hD9 hS
theorem ye_Mo_golden : ye y_Mo_golden R_Mo 3 := by unfold ye; decide +kernel
abbrev rm_Mo_golden : Room := { frames := 3, cells := 0, slots := 0, locals := 66 }
set_option maxHeartbeats 4000000 in
set_option maxRecDepth 100000 in
theorem c_Mo_golden (l : Launch) (D : va_G) (t : vt) (ts : Nat → Nat) (o qT qC qF qY qZ qu qv qw qg qh qx qc qa qb qd qp qq : Nat) (cd z lv fm : Int) (q q1 q2 : Nat) (p0 p1 p2 p3 : Int) (x0 x1 x2 x3 : Int) (y0 y1 y2 y3 : Int) (g0 g1 g2 g3 : Int) (h0 h1 h2 h3 : Int) (w0 w1 w2 w3 : Int) (r0 r1 r2 r3 : Int) (f_r0 : r0 = 2 * x0 - x1 + x3 - y0 + y1 - y3) (f_r1 : r1 = x1 - x2 + x3 + y2 - y3) (f_r2 : r2 = x0 - x1 + x2 - y0 + y1) (f_r3 : r3 = x0 - x2 + 2 * x3 - y0 + y2 - y3) (s0 s1 s2 s3 : Int) (f_s0 : s0 = x2 - x3 - y2 + y3) (f_s1 : s1 = x2 - y2) (f_s2 : s2 = -x0 + x2 + y0 - y2) (f_s3 : s3 = -x1 + x2 + y1 - y2) (k0 k1 k2 k3 : Int) (f_k0 : k0 = x1 - x2 - y1 + y2) (f_k1 : k1 = x1 - x3 - y1 + y3) (f_k2 : k2 = x1 - y1) (f_k3 : k3 = -x0 + x1 + y0 - y1) (t0 t1 t2 t3 : Int) (f_t0 : t0 = -x0 + y0) (f_t1 : t1 = -x1 + y1) (f_t2 : t2 = -x2 + y2) (f_t3 : t3 = -x3 + y3) (sz : Nat) : Met l y_Mo_golden (.code y_Mo_golden b_Mo_golden 5 none :: tb_ws) rm_Mo_golden (MP D t ts [.ref o, .ref q, .ref q1, .ref q2] [(o, .inr (5, [.int (iI cd), .int (iI z), .int (iI lv), .ref qT, .ref qC, .ref qF, .ref qY, .ref qZ, .ref qu, .ref qv, .ref qw, .ref qg, .ref qh, .ref qx, .ref qc, .ref qa, .ref qb, .ref qd, .int (iI fm), .ref qp, .ref qq])), (q, eL t.2.1 4 (v4 p0 p1 p2 p3)), (q1, eL t.2.1 4 (v4 x0 x1 x2 x3)), (q2, eL t.2.1 4 (v4 y0 y1 y2 y3)), (qg, eL t.2.1 4 (v4 g0 g1 g2 g3)), (qh, eL t.2.1 4 (v4 h0 h1 h2 h3)), (qw, eL t.2.1 4 (v4 w0 w1 w2 w3))] sz) (va_Qv (fun _ : Unit => True) (MB D (va_A [(o, .inr (5, [.int (iI cd), .int (iI z), .int (iI lv), .ref qT, .ref qC, .ref qF, .ref qY, .ref qZ, .ref qu, .ref qv, .ref qw, .ref qg, .ref qh, .ref qx, .ref qc, .ref qa, .ref qb, .ref qd, .int (iI fm), .ref qp, .ref qq])), (q, eL t.2.1 4 (v4 p0 p1 p2 p3)), (q1, eL t.2.1 4 (v4 x0 x1 x2 x3)), (q2, eL t.2.1 4 (v4 y0 y1 y2 y3)), (qg, eL t.2.1 4 (v4 g0 g1 g2 g3)), (qh, eL t.2.1 4 (v4 h0 h1 h2 h3)), (qw, eL t.2.1 4 (v4 w0 w1 w2 w3))] sz) (fun _ : Unit => [(o, .inr (5, [.int (iI cd), .int (iI z), .int (iI lv), .ref qT, .ref qC, .ref qF, .ref qY, .ref qZ, .ref qu, .ref qv, .ref qw, .ref qg, .ref qh, .ref qx, .ref qc, .ref qa, .ref qb, .ref qd, .int (iI fm), .ref qp, .ref qq])), (q, eL t.2.1 4 (v4 r0 r1 r2 r3)), (q1, eL t.2.1 4 (v4 x0 x1 x2 x3)), (q2, eL t.2.1 4 (v4 y0 y1 y2 y3)), (qg, eL t.2.1 4 (v4 s0 s1 s2 s3)), (qh, eL t.2.1 4 (v4 k0 k1 k2 k3)), (qw, eL t.2.1 4 (v4 t0 t1 t2 t3))])) (va_A [(o, .inr (5, [.int (iI cd), .int (iI z), .int (iI lv), .ref qT, .ref qC, .ref qF, .ref qY, .ref qZ, .ref qu, .ref qv, .ref qw, .ref qg, .ref qh, .ref qx, .ref qc, .ref qa, .ref qb, .ref qd, .int (iI fm), .ref qp, .ref qq])), (q, eL t.2.1 4 (v4 p0 p1 p2 p3)), (q1, eL t.2.1 4 (v4 x0 x1 x2 x3)), (q2, eL t.2.1 4 (v4 y0 y1 y2 y3)), (qg, eL t.2.1 4 (v4 g0 g1 g2 g3)), (qh, eL t.2.1 4 (v4 h0 h1 h2 h3)), (qw, eL t.2.1 4 (v4 w0 w1 w2 w3))] sz)) 0 0 (va_A [(o, .inr (5, [.int (iI cd), .int (iI z), .int (iI lv), .ref qT, .ref qC, .ref qF, .ref qY, .ref qZ, .ref qu, .ref qv, .ref qw, .ref qg, .ref qh, .ref qx, .ref qc, .ref qa, .ref qb, .ref qd, .int (iI fm), .ref qp, .ref qq])), (q, eL t.2.1 4 (v4 p0 p1 p2 p3)), (q1, eL t.2.1 4 (v4 x0 x1 x2 x3)), (q2, eL t.2.1 4 (v4 y0 y1 y2 y3)), (qg, eL t.2.1 4 (v4 g0 g1 g2 g3)), (qh, eL t.2.1 4 (v4 h0 h1 h2 h3)), (qw, eL t.2.1 4 (v4 w0 w1 w2 w3))] sz) := by
  refine m_v (by decide +kernel) (Nat.le_of_ble_eq_true rfl) ?_
  intro zp ze zs zm zb zt zc zQ A ls hC hA hP hK hD hE hS hl ret
  have hl : lv_has ls 5 [(0, .ref o), (1, .ref q), (2, .ref q1), (3, .ref q2)] := hl
  refine z_iconst hC d_Mo_golden_0 ?_
  refine lv_istore (lv' := [(4, .int (iI 0)), (0, .ref o), (1, .ref q), (2, .ref q1), (3, .ref q2)]) hC.1 hC.2.1 d_Mo_golden_1 hl (by decide) rfl (fun ls hl => ?_)
  refine lv_iload hC.1 hC.2.1 d_Mo_golden_3 (lv_at hl 0 rfl) ?_
  refine z_iconst hC d_Mo_golden_5 ?_
  refine z_icmp_ge (tgt := 28) hC d_Mo_golden_6 (by decide) (by decide) (by decide) (fun h => absurd h (by decide)) (fun _ => ?_)
  refine lv_aload_n hC.1 hC.2.1 d_Mo_golden_9 rfl (lv_at hl 2 rfl) ?_
  refine lv_iload hC.1 hC.2.1 d_Mo_golden_10 (lv_at hl 0 rfl) ?_
  refine lv_aload_n hC.1 hC.2.1 d_Mo_golden_12 rfl (lv_at hl 4 rfl) ?_
  refine lv_iload hC.1 hC.2.1 d_Mo_golden_13 (lv_at hl 0 rfl) ?_
  refine z_lald hC hK hP 3 rfl (by decide) d_Mo_golden_15 ?_
  refine z_topl (z := y0) rfl ?_
  refine lv_aload_n hC.1 hC.2.1 d_Mo_golden_16 rfl (lv_at hl 3 rfl) ?_
  refine lv_iload hC.1 hC.2.1 d_Mo_golden_17 (lv_at hl 0 rfl) ?_
  refine z_lald hC hK hP 2 rfl (by decide) d_Mo_golden_19 ?_
  refine z_topl (z := x0) rfl ?_
  refine z_lsub hC d_Mo_golden_20 ?_
  refine z_topl (z := -x0 + y0) (by omega) ?_
  refine z_last (ws' := [(o, .inr (5, [.int (iI cd), .int (iI z), .int (iI lv), .ref qT, .ref qC, .ref qF, .ref qY, .ref qZ, .ref qu, .ref qv, .ref qw, .ref qg, .ref qh, .ref qx, .ref qc, .ref qa, .ref qb, .ref qd, .int (iI fm), .ref qp, .ref qq])), (q, eL t.2.1 4 (uZ (v4 p0 p1 p2 p3) 0 (-x0 + y0))), (q1, eL t.2.1 4 (v4 x0 x1 x2 x3)), (q2, eL t.2.1 4 (v4 y0 y1 y2 y3)), (qg, eL t.2.1 4 (v4 g0 g1 g2 g3)), (qh, eL t.2.1 4 (v4 h0 h1 h2 h3)), (qw, eL t.2.1 4 (v4 w0 w1 w2 w3))]) hC hK hP hD hS 1 rfl (by decide) rfl d_Mo_golden_21 (fun H locs hP hD hS => ?_)
  rw [v4_u0] at hP hD
  refine lv_iinc (v := iI 1) (lv' := [(4, .int (iI 1)), (0, .ref o), (1, .ref q), (2, .ref q1), (3, .ref q2)]) hC.1 hC.2.1 d_Mo_golden_22 hl (k := 0) rfl (z_inc (by omega)) (by decide) rfl (fun ls hl => ?_)
  refine z_goto (tgt := 3) hC d_Mo_golden_25 (by decide) ?_
  refine lv_iload hC.1 hC.2.1 d_Mo_golden_3 (lv_at hl 0 rfl) ?_
  refine z_iconst hC d_Mo_golden_5 ?_
  refine z_icmp_ge (tgt := 28) hC d_Mo_golden_6 (by decide) (by decide) (by decide) (fun h => absurd h (by decide)) (fun _ => ?_)
  refine lv_aload_n hC.1 hC.2.1 d_Mo_golden_9 rfl (lv_at hl 2 rfl) ?_
  refine lv_iload hC.1 hC.2.1 d_Mo_golden_10 (lv_at hl 0 rfl) ?_
  refine lv_aload_n hC.1 hC.2.1 d_Mo_golden_12 rfl (lv_at hl 4 rfl) ?_
  refine lv_iload hC.1 hC.2.1 d_Mo_golden_13 (lv_at hl 0 rfl) ?_
  refine z_lald hC hK hP 3 rfl (by decide) d_Mo_golden_15 ?_
  refine z_topl (z := y1) rfl ?_
  refine lv_aload_n hC.1 hC.2.1 d_Mo_golden_16 rfl (lv_at hl 3 rfl) ?_
  refine lv_iload hC.1 hC.2.1 d_Mo_golden_17 (lv_at hl 0 rfl) ?_
  refine z_lald hC hK hP 2 rfl (by decide) d_Mo_golden_19 ?_
  refine z_topl (z := x1) rfl ?_
  refine z_lsub hC d_Mo_golden_20 ?_
  refine z_topl (z := -x1 + y1) (by omega) ?_
  refine z_last (ws' := [(o, .inr (5, [.int (iI cd), .int (iI z), .int (iI lv), .ref qT, .ref qC, .ref qF, .ref qY, .ref qZ, .ref qu, .ref qv, .ref qw, .ref qg, .ref qh, .ref qx, .ref qc, .ref qa, .ref qb, .ref qd, .int (iI fm), .ref qp, .ref qq])), (q, eL t.2.1 4 (uZ (v4 (-x0 + y0) p1 p2 p3) 1 (-x1 + y1))), (q1, eL t.2.1 4 (v4 x0 x1 x2 x3)), (q2, eL t.2.1 4 (v4 y0 y1 y2 y3)), (qg, eL t.2.1 4 (v4 g0 g1 g2 g3)), (qh, eL t.2.1 4 (v4 h0 h1 h2 h3)), (qw, eL t.2.1 4 (v4 w0 w1 w2 w3))]) hC hK hP hD hS 1 rfl (by decide) rfl d_Mo_golden_21 (fun H locs hP hD hS => ?_)
  rw [v4_u1] at hP hD
  refine lv_iinc (v := iI 2) (lv' := [(4, .int (iI 2)), (0, .ref o), (1, .ref q), (2, .ref q1), (3, .ref q2)]) hC.1 hC.2.1 d_Mo_golden_22 hl (k := 0) rfl (z_inc (by omega)) (by decide) rfl (fun ls hl => ?_)
  refine z_goto (tgt := 3) hC d_Mo_golden_25 (by decide) ?_
  refine lv_iload hC.1 hC.2.1 d_Mo_golden_3 (lv_at hl 0 rfl) ?_
  refine z_iconst hC d_Mo_golden_5 ?_
  refine z_icmp_ge (tgt := 28) hC d_Mo_golden_6 (by decide) (by decide) (by decide) (fun h => absurd h (by decide)) (fun _ => ?_)
  refine lv_aload_n hC.1 hC.2.1 d_Mo_golden_9 rfl (lv_at hl 2 rfl) ?_
  refine lv_iload hC.1 hC.2.1 d_Mo_golden_10 (lv_at hl 0 rfl) ?_
  refine lv_aload_n hC.1 hC.2.1 d_Mo_golden_12 rfl (lv_at hl 4 rfl) ?_
  refine lv_iload hC.1 hC.2.1 d_Mo_golden_13 (lv_at hl 0 rfl) ?_
  refine z_lald hC hK hP 3 rfl (by decide) d_Mo_golden_15 ?_
  refine z_topl (z := y2) rfl ?_
  refine lv_aload_n hC.1 hC.2.1 d_Mo_golden_16 rfl (lv_at hl 3 rfl) ?_
  refine lv_iload hC.1 hC.2.1 d_Mo_golden_17 (lv_at hl 0 rfl) ?_
  refine z_lald hC hK hP 2 rfl (by decide) d_Mo_golden_19 ?_
  refine z_topl (z := x2) rfl ?_
  refine z_lsub hC d_Mo_golden_20 ?_
  refine z_topl (z := -x2 + y2) (by omega) ?_
  refine z_last (ws' := [(o, .inr (5, [.int (iI cd), .int (iI z), .int (iI lv), .ref qT, .ref qC, .ref qF, .ref qY, .ref qZ, .ref qu, .ref qv, .ref qw, .ref qg, .ref qh, .ref qx, .ref qc, .ref qa, .ref qb, .ref qd, .int (iI fm), .ref qp, .ref qq])), (q, eL t.2.1 4 (uZ (v4 (-x0 + y0) (-x1 + y1) p2 p3) 2 (-x2 + y2))), (q1, eL t.2.1 4 (v4 x0 x1 x2 x3)), (q2, eL t.2.1 4 (v4 y0 y1 y2 y3)), (qg, eL t.2.1 4 (v4 g0 g1 g2 g3)), (qh, eL t.2.1 4 (v4 h0 h1 h2 h3)), (qw, eL t.2.1 4 (v4 w0 w1 w2 w3))]) hC hK hP hD hS 1 rfl (by decide) rfl d_Mo_golden_21 (fun H locs hP hD hS => ?_)
  rw [v4_u2] at hP hD
  refine lv_iinc (v := iI 3) (lv' := [(4, .int (iI 3)), (0, .ref o), (1, .ref q), (2, .ref q1), (3, .ref q2)]) hC.1 hC.2.1 d_Mo_golden_22 hl (k := 0) rfl (z_inc (by omega)) (by decide) rfl (fun ls hl => ?_)
  refine z_goto (tgt := 3) hC d_Mo_golden_25 (by decide) ?_
  refine lv_iload hC.1 hC.2.1 d_Mo_golden_3 (lv_at hl 0 rfl) ?_
  refine z_iconst hC d_Mo_golden_5 ?_
  refine z_icmp_ge (tgt := 28) hC d_Mo_golden_6 (by decide) (by decide) (by decide) (fun h => absurd h (by decide)) (fun _ => ?_)
  refine lv_aload_n hC.1 hC.2.1 d_Mo_golden_9 rfl (lv_at hl 2 rfl) ?_
  refine lv_iload hC.1 hC.2.1 d_Mo_golden_10 (lv_at hl 0 rfl) ?_
  refine lv_aload_n hC.1 hC.2.1 d_Mo_golden_12 rfl (lv_at hl 4 rfl) ?_
  refine lv_iload hC.1 hC.2.1 d_Mo_golden_13 (lv_at hl 0 rfl) ?_
  refine z_lald hC hK hP 3 rfl (by decide) d_Mo_golden_15 ?_
  refine z_topl (z := y3) rfl ?_
  refine lv_aload_n hC.1 hC.2.1 d_Mo_golden_16 rfl (lv_at hl 3 rfl) ?_
  refine lv_iload hC.1 hC.2.1 d_Mo_golden_17 (lv_at hl 0 rfl) ?_
  refine z_lald hC hK hP 2 rfl (by decide) d_Mo_golden_19 ?_
  refine z_topl (z := x3) rfl ?_
  refine z_lsub hC d_Mo_golden_20 ?_
  refine z_topl (z := -x3 + y3) (by omega) ?_
  refine z_last (ws' := [(o, .inr (5, [.int (iI cd), .int (iI z), .int (iI lv), .ref qT, .ref qC, .ref qF, .ref qY, .ref qZ, .ref qu, .ref qv, .ref qw, .ref qg, .ref qh, .ref qx, .ref qc, .ref qa, .ref qb, .ref qd, .int (iI fm), .ref qp, .ref qq])), (q, eL t.2.1 4 (uZ (v4 (-x0 + y0) (-x1 + y1) (-x2 + y2) p3) 3 (-x3 + y3))), (q1, eL t.2.1 4 (v4 x0 x1 x2 x3)), (q2, eL t.2.1 4 (v4 y0 y1 y2 y3)), (qg, eL t.2.1 4 (v4 g0 g1 g2 g3)), (qh, eL t.2.1 4 (v4 h0 h1 h2 h3)), (qw, eL t.2.1 4 (v4 w0 w1 w2 w3))]) hC hK hP hD hS 1 rfl (by decide) rfl d_Mo_golden_21 (fun H locs hP hD hS => ?_)
  rw [v4_u3] at hP hD
  refine lv_iinc (v := iI 4) (lv' := [(4, .int (iI 4)), (0, .ref o), (1, .ref q), (2, .ref q1), (3, .ref q2)]) hC.1 hC.2.1 d_Mo_golden_22 hl (k := 0) rfl (z_inc (by omega)) (by decide) rfl (fun ls hl => ?_)
  refine z_goto (tgt := 3) hC d_Mo_golden_25 (by decide) ?_
  refine lv_iload hC.1 hC.2.1 d_Mo_golden_3 (lv_at hl 0 rfl) ?_
  refine z_iconst hC d_Mo_golden_5 ?_
  refine z_icmp_ge (tgt := 28) hC d_Mo_golden_6 (by decide) (by decide) (by decide) (fun _ => ?_) (fun h => absurd h (by decide))
  refine lv_aload_n hC.1 hC.2.1 d_Mo_golden_28 rfl (lv_at hl 1 rfl) ?_
  refine lv_aload_n hC.1 hC.2.1 d_Mo_golden_29 rfl (lv_at hl 2 rfl) ?_
  refine z_mVv (As := [.ref q]) (rest := []) (wr := [(q1, eL t.2.1 4 (v4 x0 x1 x2 x3)), (q2, eL t.2.1 4 (v4 y0 y1 y2 y3))]) hC (c_Mo_overG l D t ts o qT qC qF qY qZ qu qv qw qg qh qx qc qa qb qd qp qq cd z lv fm q (-x0 + y0) (-x1 + y1) (-x2 + y2) (-x3 + y3) g0 g1 g2 g3 h0 h1 h2 h3 w0 w1 w2 w3 (x0 - x1 + x3 - y0 + y1 - y3) (-x2 + x3 + y2 - y3) (x0 - x1 - y0 + y1) (x0 - x2 + x3 - y0 + y2 - y3) (by omega) (by omega) (by omega) (by omega) (x2 - x3 - y2 + y3) (x2 - y2) (-x0 + x2 + y0 - y2) (-x1 + x2 + y1 - y2) (by omega) (by omega) (by omega) (by omega) (x1 - x2 - y1 + y2) (x1 - x3 - y1 + y3) (x1 - y1) (-x0 + x1 + y0 - y1) (by omega) (by omega) (by omega) (by omega) _) (cw_V hC k_659 k_661 kp_50 k_6 k_662 ye_Mo_overG (by decide)) hP hD hK hE hS hA [0, 1, 4, 5, 6] [2, 3] (by decide) rfl rfl (by decide) (by decide) 0 (ci := 5) rfl rfl rfl rfl hl.1 rfl (Nat.le_of_ble_eq_true rfl) ⟨Nat.le_of_ble_eq_true rfl, Nat.le_of_ble_eq_true rfl⟩ d_Mo_golden_30 (fun u1 H locs eu1 hP hD hS => ?_)
  have hP : va_P D classes [(q1, eL t.2.1 4 (v4 x0 x1 x2 x3)), (q2, eL t.2.1 4 (v4 y0 y1 y2 y3)), (o, .inr (5, [.int (iI cd), .int (iI z), .int (iI lv), .ref qT, .ref qC, .ref qF, .ref qY, .ref qZ, .ref qu, .ref qv, .ref qw, .ref qg, .ref qh, .ref qx, .ref qc, .ref qa, .ref qb, .ref qd, .int (iI fm), .ref qp, .ref qq])), (q, eL t.2.1 4 (v4 (x0 - x1 + x3 - y0 + y1 - y3) (-x2 + x3 + y2 - y3) (x0 - x1 - y0 + y1) (x0 - x2 + x3 - y0 + y2 - y3))), (qg, eL t.2.1 4 (v4 (x2 - x3 - y2 + y3) (x2 - y2) (-x0 + x2 + y0 - y2) (-x1 + x2 + y1 - y2))), (qh, eL t.2.1 4 (v4 (x1 - x2 - y1 + y2) (x1 - x3 - y1 + y3) (x1 - y1) (-x0 + x1 + y0 - y1))), (qw, eL t.2.1 4 (v4 (-x0 + y0) (-x1 + y1) (-x2 + y2) (-x3 + y3)))] H := hP
  have hD : va_D A [(q1, eL t.2.1 4 (v4 x0 x1 x2 x3)), (q2, eL t.2.1 4 (v4 y0 y1 y2 y3)), (o, .inr (5, [.int (iI cd), .int (iI z), .int (iI lv), .ref qT, .ref qC, .ref qF, .ref qY, .ref qZ, .ref qu, .ref qv, .ref qw, .ref qg, .ref qh, .ref qx, .ref qc, .ref qa, .ref qb, .ref qd, .int (iI fm), .ref qp, .ref qq])), (q, eL t.2.1 4 (v4 (x0 - x1 + x3 - y0 + y1 - y3) (-x2 + x3 + y2 - y3) (x0 - x1 - y0 + y1) (x0 - x2 + x3 - y0 + y2 - y3))), (qg, eL t.2.1 4 (v4 (x2 - x3 - y2 + y3) (x2 - y2) (-x0 + x2 + y0 - y2) (-x1 + x2 + y1 - y2))), (qh, eL t.2.1 4 (v4 (x1 - x2 - y1 + y2) (x1 - x3 - y1 + y3) (x1 - y1) (-x0 + x1 + y0 - y1))), (qw, eL t.2.1 4 (v4 (-x0 + y0) (-x1 + y1) (-x2 + y2) (-x3 + y3)))] := hD
  refine z_iconst hC d_Mo_golden_33 ?_
  refine lv_istore (lv' := [(4, .int (iI 0)), (0, .ref o), (1, .ref q), (2, .ref q1), (3, .ref q2)]) hC.1 hC.2.1 d_Mo_golden_34 hl (by decide) rfl (fun ls hl => ?_)
  refine lv_iload hC.1 hC.2.1 d_Mo_golden_36 (lv_at hl 0 rfl) ?_
  refine z_iconst hC d_Mo_golden_38 ?_
  refine z_icmp_ge (tgt := 59) hC d_Mo_golden_39 (by decide) (by decide) (by decide) (fun h => absurd h (by decide)) (fun _ => ?_)
  refine lv_aload_n hC.1 hC.2.1 d_Mo_golden_42 rfl (lv_at hl 2 rfl) ?_
  refine lv_iload hC.1 hC.2.1 d_Mo_golden_43 (lv_at hl 0 rfl) ?_
  refine lv_dup2_11 hC.1 hC.2.1 d_Mo_golden_45 rfl rfl ?_
  refine z_lald hC hK hP 3 rfl (by decide) d_Mo_golden_46 ?_
  refine z_topl (z := x0 - x1 + x3 - y0 + y1 - y3) rfl ?_
  refine lv_aload_n hC.1 hC.2.1 d_Mo_golden_47 rfl (lv_at hl 3 rfl) ?_
  refine lv_iload hC.1 hC.2.1 d_Mo_golden_48 (lv_at hl 0 rfl) ?_
  refine z_lald hC hK hP 0 rfl (by decide) d_Mo_golden_50 ?_
  refine z_topl (z := x0) rfl ?_
  refine z_ladd hC d_Mo_golden_51 ?_
  refine z_topl (z := 2 * x0 - x1 + x3 - y0 + y1 - y3) (by omega) ?_
  refine z_last (ws' := [(q1, eL t.2.1 4 (v4 x0 x1 x2 x3)), (q2, eL t.2.1 4 (v4 y0 y1 y2 y3)), (o, .inr (5, [.int (iI cd), .int (iI z), .int (iI lv), .ref qT, .ref qC, .ref qF, .ref qY, .ref qZ, .ref qu, .ref qv, .ref qw, .ref qg, .ref qh, .ref qx, .ref qc, .ref qa, .ref qb, .ref qd, .int (iI fm), .ref qp, .ref qq])), (q, eL t.2.1 4 (uZ (v4 (x0 - x1 + x3 - y0 + y1 - y3) (-x2 + x3 + y2 - y3) (x0 - x1 - y0 + y1) (x0 - x2 + x3 - y0 + y2 - y3)) 0 (2 * x0 - x1 + x3 - y0 + y1 - y3))), (qg, eL t.2.1 4 (v4 (x2 - x3 - y2 + y3) (x2 - y2) (-x0 + x2 + y0 - y2) (-x1 + x2 + y1 - y2))), (qh, eL t.2.1 4 (v4 (x1 - x2 - y1 + y2) (x1 - x3 - y1 + y3) (x1 - y1) (-x0 + x1 + y0 - y1))), (qw, eL t.2.1 4 (v4 (-x0 + y0) (-x1 + y1) (-x2 + y2) (-x3 + y3)))]) hC hK hP hD hS 3 rfl (by decide) rfl d_Mo_golden_52 (fun H locs hP hD hS => ?_)
  rw [v4_u0] at hP hD
  refine lv_iinc (v := iI 1) (lv' := [(4, .int (iI 1)), (0, .ref o), (1, .ref q), (2, .ref q1), (3, .ref q2)]) hC.1 hC.2.1 d_Mo_golden_53 hl (k := 0) rfl (z_inc (by omega)) (by decide) rfl (fun ls hl => ?_)
  refine z_goto (tgt := 36) hC d_Mo_golden_56 (by decide) ?_
  refine lv_iload hC.1 hC.2.1 d_Mo_golden_36 (lv_at hl 0 rfl) ?_
  refine z_iconst hC d_Mo_golden_38 ?_
  refine z_icmp_ge (tgt := 59) hC d_Mo_golden_39 (by decide) (by decide) (by decide) (fun h => absurd h (by decide)) (fun _ => ?_)
  refine lv_aload_n hC.1 hC.2.1 d_Mo_golden_42 rfl (lv_at hl 2 rfl) ?_
  refine lv_iload hC.1 hC.2.1 d_Mo_golden_43 (lv_at hl 0 rfl) ?_
  refine lv_dup2_11 hC.1 hC.2.1 d_Mo_golden_45 rfl rfl ?_
  refine z_lald hC hK hP 3 rfl (by decide) d_Mo_golden_46 ?_
  refine z_topl (z := -x2 + x3 + y2 - y3) rfl ?_
  refine lv_aload_n hC.1 hC.2.1 d_Mo_golden_47 rfl (lv_at hl 3 rfl) ?_
  refine lv_iload hC.1 hC.2.1 d_Mo_golden_48 (lv_at hl 0 rfl) ?_
  refine z_lald hC hK hP 0 rfl (by decide) d_Mo_golden_50 ?_
  refine z_topl (z := x1) rfl ?_
  refine z_ladd hC d_Mo_golden_51 ?_
  refine z_topl (z := x1 - x2 + x3 + y2 - y3) (by omega) ?_
  refine z_last (ws' := [(q1, eL t.2.1 4 (v4 x0 x1 x2 x3)), (q2, eL t.2.1 4 (v4 y0 y1 y2 y3)), (o, .inr (5, [.int (iI cd), .int (iI z), .int (iI lv), .ref qT, .ref qC, .ref qF, .ref qY, .ref qZ, .ref qu, .ref qv, .ref qw, .ref qg, .ref qh, .ref qx, .ref qc, .ref qa, .ref qb, .ref qd, .int (iI fm), .ref qp, .ref qq])), (q, eL t.2.1 4 (uZ (v4 (2 * x0 - x1 + x3 - y0 + y1 - y3) (-x2 + x3 + y2 - y3) (x0 - x1 - y0 + y1) (x0 - x2 + x3 - y0 + y2 - y3)) 1 (x1 - x2 + x3 + y2 - y3))), (qg, eL t.2.1 4 (v4 (x2 - x3 - y2 + y3) (x2 - y2) (-x0 + x2 + y0 - y2) (-x1 + x2 + y1 - y2))), (qh, eL t.2.1 4 (v4 (x1 - x2 - y1 + y2) (x1 - x3 - y1 + y3) (x1 - y1) (-x0 + x1 + y0 - y1))), (qw, eL t.2.1 4 (v4 (-x0 + y0) (-x1 + y1) (-x2 + y2) (-x3 + y3)))]) hC hK hP hD hS 3 rfl (by decide) rfl d_Mo_golden_52 (fun H locs hP hD hS => ?_)
  rw [v4_u1] at hP hD
  refine lv_iinc (v := iI 2) (lv' := [(4, .int (iI 2)), (0, .ref o), (1, .ref q), (2, .ref q1), (3, .ref q2)]) hC.1 hC.2.1 d_Mo_golden_53 hl (k := 0) rfl (z_inc (by omega)) (by decide) rfl (fun ls hl => ?_)
  refine z_goto (tgt := 36) hC d_Mo_golden_56 (by decide) ?_
  refine lv_iload hC.1 hC.2.1 d_Mo_golden_36 (lv_at hl 0 rfl) ?_
  refine z_iconst hC d_Mo_golden_38 ?_
  refine z_icmp_ge (tgt := 59) hC d_Mo_golden_39 (by decide) (by decide) (by decide) (fun h => absurd h (by decide)) (fun _ => ?_)
  refine lv_aload_n hC.1 hC.2.1 d_Mo_golden_42 rfl (lv_at hl 2 rfl) ?_
  refine lv_iload hC.1 hC.2.1 d_Mo_golden_43 (lv_at hl 0 rfl) ?_
  refine lv_dup2_11 hC.1 hC.2.1 d_Mo_golden_45 rfl rfl ?_
  refine z_lald hC hK hP 3 rfl (by decide) d_Mo_golden_46 ?_
  refine z_topl (z := x0 - x1 - y0 + y1) rfl ?_
  refine lv_aload_n hC.1 hC.2.1 d_Mo_golden_47 rfl (lv_at hl 3 rfl) ?_
  refine lv_iload hC.1 hC.2.1 d_Mo_golden_48 (lv_at hl 0 rfl) ?_
  refine z_lald hC hK hP 0 rfl (by decide) d_Mo_golden_50 ?_
  refine z_topl (z := x2) rfl ?_
  refine z_ladd hC d_Mo_golden_51 ?_
  refine z_topl (z := x0 - x1 + x2 - y0 + y1) (by omega) ?_
  refine z_last (ws' := [(q1, eL t.2.1 4 (v4 x0 x1 x2 x3)), (q2, eL t.2.1 4 (v4 y0 y1 y2 y3)), (o, .inr (5, [.int (iI cd), .int (iI z), .int (iI lv), .ref qT, .ref qC, .ref qF, .ref qY, .ref qZ, .ref qu, .ref qv, .ref qw, .ref qg, .ref qh, .ref qx, .ref qc, .ref qa, .ref qb, .ref qd, .int (iI fm), .ref qp, .ref qq])), (q, eL t.2.1 4 (uZ (v4 (2 * x0 - x1 + x3 - y0 + y1 - y3) (x1 - x2 + x3 + y2 - y3) (x0 - x1 - y0 + y1) (x0 - x2 + x3 - y0 + y2 - y3)) 2 (x0 - x1 + x2 - y0 + y1))), (qg, eL t.2.1 4 (v4 (x2 - x3 - y2 + y3) (x2 - y2) (-x0 + x2 + y0 - y2) (-x1 + x2 + y1 - y2))), (qh, eL t.2.1 4 (v4 (x1 - x2 - y1 + y2) (x1 - x3 - y1 + y3) (x1 - y1) (-x0 + x1 + y0 - y1))), (qw, eL t.2.1 4 (v4 (-x0 + y0) (-x1 + y1) (-x2 + y2) (-x3 + y3)))]) hC hK hP hD hS 3 rfl (by decide) rfl d_Mo_golden_52 (fun H locs hP hD hS => ?_)
  rw [v4_u2] at hP hD
  refine lv_iinc (v := iI 3) (lv' := [(4, .int (iI 3)), (0, .ref o), (1, .ref q), (2, .ref q1), (3, .ref q2)]) hC.1 hC.2.1 d_Mo_golden_53 hl (k := 0) rfl (z_inc (by omega)) (by decide) rfl (fun ls hl => ?_)
  refine z_goto (tgt := 36) hC d_Mo_golden_56 (by decide) ?_
  refine lv_iload hC.1 hC.2.1 d_Mo_golden_36 (lv_at hl 0 rfl) ?_
  refine z_iconst hC d_Mo_golden_38 ?_
  refine z_icmp_ge (tgt := 59) hC d_Mo_golden_39 (by decide) (by decide) (by decide) (fun h => absurd h (by decide)) (fun _ => ?_)
  refine lv_aload_n hC.1 hC.2.1 d_Mo_golden_42 rfl (lv_at hl 2 rfl) ?_
  refine lv_iload hC.1 hC.2.1 d_Mo_golden_43 (lv_at hl 0 rfl) ?_
  refine lv_dup2_11 hC.1 hC.2.1 d_Mo_golden_45 rfl rfl ?_
  refine z_lald hC hK hP 3 rfl (by decide) d_Mo_golden_46 ?_
  refine z_topl (z := x0 - x2 + x3 - y0 + y2 - y3) rfl ?_
  refine lv_aload_n hC.1 hC.2.1 d_Mo_golden_47 rfl (lv_at hl 3 rfl) ?_
  refine lv_iload hC.1 hC.2.1 d_Mo_golden_48 (lv_at hl 0 rfl) ?_
  refine z_lald hC hK hP 0 rfl (by decide) d_Mo_golden_50 ?_
  refine z_topl (z := x3) rfl ?_
  refine z_ladd hC d_Mo_golden_51 ?_
  refine z_topl (z := x0 - x2 + 2 * x3 - y0 + y2 - y3) (by omega) ?_
  refine z_last (ws' := [(q1, eL t.2.1 4 (v4 x0 x1 x2 x3)), (q2, eL t.2.1 4 (v4 y0 y1 y2 y3)), (o, .inr (5, [.int (iI cd), .int (iI z), .int (iI lv), .ref qT, .ref qC, .ref qF, .ref qY, .ref qZ, .ref qu, .ref qv, .ref qw, .ref qg, .ref qh, .ref qx, .ref qc, .ref qa, .ref qb, .ref qd, .int (iI fm), .ref qp, .ref qq])), (q, eL t.2.1 4 (uZ (v4 (2 * x0 - x1 + x3 - y0 + y1 - y3) (x1 - x2 + x3 + y2 - y3) (x0 - x1 + x2 - y0 + y1) (x0 - x2 + x3 - y0 + y2 - y3)) 3 (x0 - x2 + 2 * x3 - y0 + y2 - y3))), (qg, eL t.2.1 4 (v4 (x2 - x3 - y2 + y3) (x2 - y2) (-x0 + x2 + y0 - y2) (-x1 + x2 + y1 - y2))), (qh, eL t.2.1 4 (v4 (x1 - x2 - y1 + y2) (x1 - x3 - y1 + y3) (x1 - y1) (-x0 + x1 + y0 - y1))), (qw, eL t.2.1 4 (v4 (-x0 + y0) (-x1 + y1) (-x2 + y2) (-x3 + y3)))]) hC hK hP hD hS 3 rfl (by decide) rfl d_Mo_golden_52 (fun H locs hP hD hS => ?_)
  rw [v4_u3] at hP hD
  refine lv_iinc (v := iI 4) (lv' := [(4, .int (iI 4)), (0, .ref o), (1, .ref q), (2, .ref q1), (3, .ref q2)]) hC.1 hC.2.1 d_Mo_golden_53 hl (k := 0) rfl (z_inc (by omega)) (by decide) rfl (fun ls hl => ?_)
  refine z_goto (tgt := 36) hC d_Mo_golden_56 (by decide) ?_
  refine lv_iload hC.1 hC.2.1 d_Mo_golden_36 (lv_at hl 0 rfl) ?_
  refine z_iconst hC d_Mo_golden_38 ?_
  refine z_icmp_ge (tgt := 59) hC d_Mo_golden_39 (by decide) (by decide) (by decide) (fun _ => ?_) (fun h => absurd h (by decide))
  have ev_q : (v4 (2 * x0 - x1 + x3 - y0 + y1 - y3) (x1 - x2 + x3 + y2 - y3) (x0 - x1 + x2 - y0 + y1) (x0 - x2 + 2 * x3 - y0 + y2 - y3)) = (v4 r0 r1 r2 r3) := by rw [show r0 = 2 * x0 - x1 + x3 - y0 + y1 - y3 by omega, show r1 = x1 - x2 + x3 + y2 - y3 by omega, show r2 = x0 - x1 + x2 - y0 + y1 by omega, show r3 = x0 - x2 + 2 * x3 - y0 + y2 - y3 by omega]
  rw [ev_q] at hP hD
  have ev_qg : (v4 (x2 - x3 - y2 + y3) (x2 - y2) (-x0 + x2 + y0 - y2) (-x1 + x2 + y1 - y2)) = (v4 s0 s1 s2 s3) := by rw [show s0 = x2 - x3 - y2 + y3 by omega, show s1 = x2 - y2 by omega, show s2 = -x0 + x2 + y0 - y2 by omega, show s3 = -x1 + x2 + y1 - y2 by omega]
  rw [ev_qg] at hP hD
  have ev_qh : (v4 (x1 - x2 - y1 + y2) (x1 - x3 - y1 + y3) (x1 - y1) (-x0 + x1 + y0 - y1)) = (v4 k0 k1 k2 k3) := by rw [show k0 = x1 - x2 - y1 + y2 by omega, show k1 = x1 - x3 - y1 + y3 by omega, show k2 = x1 - y1 by omega, show k3 = -x0 + x1 + y0 - y1 by omega]
  rw [ev_qh] at hP hD
  have ev_qw : (v4 (-x0 + y0) (-x1 + y1) (-x2 + y2) (-x3 + y3)) = (v4 t0 t1 t2 t3) := by rw [show t0 = -x0 + y0 by omega, show t1 = -x1 + y1 by omega, show t2 = -x2 + y2 by omega, show t3 = -x3 + y3 by omega]
  rw [ev_qw] at hP hD
  have hP9 := hP.sub (ws' := [(o, .inr (5, [.int (iI cd), .int (iI z), .int (iI lv), .ref qT, .ref qC, .ref qF, .ref qY, .ref qZ, .ref qu, .ref qv, .ref qw, .ref qg, .ref qh, .ref qx, .ref qc, .ref qa, .ref qb, .ref qd, .int (iI fm), .ref qp, .ref qq])), (q, eL t.2.1 4 (v4 r0 r1 r2 r3)), (q1, eL t.2.1 4 (v4 x0 x1 x2 x3)), (q2, eL t.2.1 4 (v4 y0 y1 y2 y3)), (qg, eL t.2.1 4 (v4 s0 s1 s2 s3)), (qh, eL t.2.1 4 (v4 k0 k1 k2 k3)), (qw, eL t.2.1 4 (v4 t0 t1 t2 t3))]) [2, 3, 0, 1, 4, 5, 6] rfl
  have hD9 := hD.sub (ws' := [(o, .inr (5, [.int (iI cd), .int (iI z), .int (iI lv), .ref qT, .ref qC, .ref qF, .ref qY, .ref qZ, .ref qu, .ref qv, .ref qw, .ref qg, .ref qh, .ref qx, .ref qc, .ref qa, .ref qb, .ref qd, .int (iI fm), .ref qp, .ref qq])), (q, eL t.2.1 4 (v4 r0 r1 r2 r3)), (q1, eL t.2.1 4 (v4 x0 x1 x2 x3)), (q2, eL t.2.1 4 (v4 y0 y1 y2 y3)), (qg, eL t.2.1 4 (v4 s0 s1 s2 s3)), (qh, eL t.2.1 4 (v4 k0 k1 k2 k3)), (qw, eL t.2.1 4 (v4 t0 t1 t2 t3))]) [2, 3, 0, 1, 4, 5, 6] (by decide) rfl
  exact ret () _ _ 59 _ d_Mo_golden_59 trivial hP9 hD9 hS
theorem ye_Mo_emit : ye y_Mo_emit R_Mo 4 := by unfold ye; decide +kernel
abbrev rm_Mo_emit : Room := { frames := 0, cells := 0, slots := 0, locals := 0 }
set_option maxHeartbeats 4000000 in
set_option maxRecDepth 100000 in
theorem c_Mo_emit (l : Launch) (D : va_G) (t : vt) (ts : Nat → Nat) (o qT qC qF qY qZ qu qv qw qg qh qx qc qa qb qd qp qq : Nat) (cd z lv fm : Int) (q q1 q2 : Nat) (Yr Fr : Int → Int) (x0 x1 x2 x3 : Int) (y0 y1 y2 y3 : Int) (c0 c1 c2 c3 : Int) (y : Int) (hm : 0 ≤ fm ∧ fm < 1200) (fm1 : Int) (hf1 : fm1 = fm + 1) (sz : Nat) : Met l y_Mo_emit (.code y_Mo_emit b_Mo_emit 6 none :: tb_ws) rm_Mo_emit (MP D t ts [.ref o, .int (iI y), .ref q, .ref q1, .ref q2] [(o, .inr (5, [.int (iI cd), .int (iI z), .int (iI lv), .ref qT, .ref qC, .ref qF, .ref qY, .ref qZ, .ref qu, .ref qv, .ref qw, .ref qg, .ref qh, .ref qx, .ref qc, .ref qa, .ref qb, .ref qd, .int (iI fm), .ref qp, .ref qq])), (qF, eI t.1 14400 Fr), (qY, eI t.1 1200 Yr), (q, eL t.2.1 4 (v4 x0 x1 x2 x3)), (q1, eL t.2.1 4 (v4 y0 y1 y2 y3)), (q2, eL t.2.1 4 (v4 c0 c1 c2 c3))] sz) (va_Qv (fun _ : Unit => True) (MB D (va_A [(o, .inr (5, [.int (iI cd), .int (iI z), .int (iI lv), .ref qT, .ref qC, .ref qF, .ref qY, .ref qZ, .ref qu, .ref qv, .ref qw, .ref qg, .ref qh, .ref qx, .ref qc, .ref qa, .ref qb, .ref qd, .int (iI fm), .ref qp, .ref qq])), (qF, eI t.1 14400 Fr), (qY, eI t.1 1200 Yr), (q, eL t.2.1 4 (v4 x0 x1 x2 x3)), (q1, eL t.2.1 4 (v4 y0 y1 y2 y3)), (q2, eL t.2.1 4 (v4 c0 c1 c2 c3))] sz) (fun _ : Unit => [(o, .inr (5, [.int (iI cd), .int (iI z), .int (iI lv), .ref qT, .ref qC, .ref qF, .ref qY, .ref qZ, .ref qu, .ref qv, .ref qw, .ref qg, .ref qh, .ref qx, .ref qc, .ref qa, .ref qb, .ref qd, .int (iI fm1), .ref qp, .ref qq])), (qF, eI t.1 14400 (em12 Fr fm x0 x1 x2 x3 y0 y1 y2 y3 c0 c1 c2 c3)), (qY, eI t.1 1200 (uZ Yr fm y)), (q, eL t.2.1 4 (v4 x0 x1 x2 x3)), (q1, eL t.2.1 4 (v4 y0 y1 y2 y3)), (q2, eL t.2.1 4 (v4 c0 c1 c2 c3))])) (va_A [(o, .inr (5, [.int (iI cd), .int (iI z), .int (iI lv), .ref qT, .ref qC, .ref qF, .ref qY, .ref qZ, .ref qu, .ref qv, .ref qw, .ref qg, .ref qh, .ref qx, .ref qc, .ref qa, .ref qb, .ref qd, .int (iI fm), .ref qp, .ref qq])), (qF, eI t.1 14400 Fr), (qY, eI t.1 1200 Yr), (q, eL t.2.1 4 (v4 x0 x1 x2 x3)), (q1, eL t.2.1 4 (v4 y0 y1 y2 y3)), (q2, eL t.2.1 4 (v4 c0 c1 c2 c3))] sz)) 0 0 (va_A [(o, .inr (5, [.int (iI cd), .int (iI z), .int (iI lv), .ref qT, .ref qC, .ref qF, .ref qY, .ref qZ, .ref qu, .ref qv, .ref qw, .ref qg, .ref qh, .ref qx, .ref qc, .ref qa, .ref qb, .ref qd, .int (iI fm), .ref qp, .ref qq])), (qF, eI t.1 14400 Fr), (qY, eI t.1 1200 Yr), (q, eL t.2.1 4 (v4 x0 x1 x2 x3)), (q1, eL t.2.1 4 (v4 y0 y1 y2 y3)), (q2, eL t.2.1 4 (v4 c0 c1 c2 c3))] sz) := by
  refine m_v (by decide +kernel) (Nat.le_of_ble_eq_true rfl) ?_
  intro zp ze zs zm zb zt zc zQ A ls hC hA hP hK hD hE hS hl ret
  have hl : lv_has ls 6 [(0, .ref o), (1, .int (iI y)), (2, .ref q), (3, .ref q1), (4, .ref q2)] := hl
  refine lv_aload_n hC.1 hC.2.1 d_Mo_emit_0 rfl (lv_at hl 0 rfl) ?_
  refine z_get (ci := 5) (C := R_Mo) (T := F_Mo) (N := 21) (v := .ref qY) hC in_Mo hK hP 0 rfl rfl 6 (by decide) k_459 rfl d_Mo_emit_1 ?_
  refine lv_aload_n hC.1 hC.2.1 d_Mo_emit_4 rfl (lv_at hl 0 rfl) ?_
  refine z_get (ci := 5) (C := R_Mo) (T := F_Mo) (N := 21) (v := .int (iI fm)) hC in_Mo hK hP 0 rfl rfl 18 (by decide) k_471 rfl d_Mo_emit_5 ?_
  refine lv_iload_n hC.1 hC.2.1 d_Mo_emit_8 rfl (lv_at hl 1 rfl) ?_
  refine z_iast (ws' := [(o, .inr (5, [.int (iI cd), .int (iI z), .int (iI lv), .ref qT, .ref qC, .ref qF, .ref qY, .ref qZ, .ref qu, .ref qv, .ref qw, .ref qg, .ref qh, .ref qx, .ref qc, .ref qa, .ref qb, .ref qd, .int (iI fm), .ref qp, .ref qq])), (qF, eI t.1 14400 Fr), (qY, eI t.1 1200 (uZ Yr fm y)), (q, eL t.2.1 4 (v4 x0 x1 x2 x3)), (q1, eL t.2.1 4 (v4 y0 y1 y2 y3)), (q2, eL t.2.1 4 (v4 c0 c1 c2 c3))]) hC hK hP hD hS 2 rfl (by omega) rfl d_Mo_emit_9 (fun H locs hP hD hS => ?_)
  refine z_iconst hC d_Mo_emit_10 ?_
  refine lv_istore (lv' := [(5, .int (iI 0)), (0, .ref o), (1, .int (iI y)), (2, .ref q), (3, .ref q1), (4, .ref q2)]) hC.1 hC.2.1 d_Mo_emit_11 hl (by decide) rfl (fun ls hl => ?_)
  refine lv_iload hC.1 hC.2.1 d_Mo_emit_13 (lv_at hl 0 rfl) ?_
  refine z_iconst hC d_Mo_emit_15 ?_
  refine z_icmp_ge (tgt := 91) hC d_Mo_emit_16 (by decide) (by decide) (by decide) (fun h => absurd h (by decide)) (fun _ => ?_)
  refine lv_aload_n hC.1 hC.2.1 d_Mo_emit_19 rfl (lv_at hl 1 rfl) ?_
  refine z_get (ci := 5) (C := R_Mo) (T := F_Mo) (N := 21) (v := .ref qF) hC in_Mo hK hP 0 rfl rfl 5 (by decide) k_458 rfl d_Mo_emit_20 ?_
  refine z_bipush hC d_Mo_emit_23 (by decide) ?_
  refine lv_aload_n hC.1 hC.2.1 d_Mo_emit_25 rfl (lv_at hl 1 rfl) ?_
  refine z_get (ci := 5) (C := R_Mo) (T := F_Mo) (N := 21) (v := .int (iI fm)) hC in_Mo hK hP 0 rfl rfl 18 (by decide) k_471 rfl d_Mo_emit_26 ?_
  refine z_imul hC d_Mo_emit_29 ?_
  refine lv_iload hC.1 hC.2.1 d_Mo_emit_30 (lv_at hl 0 rfl) ?_
  refine z_iadd hC d_Mo_emit_32 ?_
  refine z_topi (z := 12 * fm) (by omega) ?_
  refine lv_aload_n hC.1 hC.2.1 d_Mo_emit_33 rfl (lv_at hl 3 rfl) ?_
  refine lv_iload hC.1 hC.2.1 d_Mo_emit_34 (lv_at hl 0 rfl) ?_
  refine z_lald hC hK hP 3 rfl (by decide) d_Mo_emit_36 ?_
  refine z_topl (z := x0) rfl ?_
  refine z_l2i hC d_Mo_emit_37 ?_
  refine z_iast (ws' := [(o, .inr (5, [.int (iI cd), .int (iI z), .int (iI lv), .ref qT, .ref qC, .ref qF, .ref qY, .ref qZ, .ref qu, .ref qv, .ref qw, .ref qg, .ref qh, .ref qx, .ref qc, .ref qa, .ref qb, .ref qd, .int (iI fm), .ref qp, .ref qq])), (qF, eI t.1 14400 (uZ Fr (12 * fm) x0)), (qY, eI t.1 1200 (uZ Yr fm y)), (q, eL t.2.1 4 (v4 x0 x1 x2 x3)), (q1, eL t.2.1 4 (v4 y0 y1 y2 y3)), (q2, eL t.2.1 4 (v4 c0 c1 c2 c3))]) hC hK hP hD hS 1 rfl (by omega) rfl d_Mo_emit_38 (fun H locs hP hD hS => ?_)
  refine lv_aload_n hC.1 hC.2.1 d_Mo_emit_39 rfl (lv_at hl 1 rfl) ?_
  refine z_get (ci := 5) (C := R_Mo) (T := F_Mo) (N := 21) (v := .ref qF) hC in_Mo hK hP 0 rfl rfl 5 (by decide) k_458 rfl d_Mo_emit_40 ?_
  refine z_bipush hC d_Mo_emit_43 (by decide) ?_
  refine lv_aload_n hC.1 hC.2.1 d_Mo_emit_45 rfl (lv_at hl 1 rfl) ?_
  refine z_get (ci := 5) (C := R_Mo) (T := F_Mo) (N := 21) (v := .int (iI fm)) hC in_Mo hK hP 0 rfl rfl 18 (by decide) k_471 rfl d_Mo_emit_46 ?_
  refine z_imul hC d_Mo_emit_49 ?_
  refine z_iconst hC d_Mo_emit_50 ?_
  refine z_iadd hC d_Mo_emit_51 ?_
  refine z_topi (z := 12 * fm + 4) (by omega) ?_
  refine lv_iload hC.1 hC.2.1 d_Mo_emit_52 (lv_at hl 0 rfl) ?_
  refine z_iadd hC d_Mo_emit_54 ?_
  refine z_topi (z := 12 * fm + 4) (by omega) ?_
  refine lv_aload_n hC.1 hC.2.1 d_Mo_emit_55 rfl (lv_at hl 4 rfl) ?_
  refine lv_iload hC.1 hC.2.1 d_Mo_emit_56 (lv_at hl 0 rfl) ?_
  refine z_lald hC hK hP 4 rfl (by decide) d_Mo_emit_58 ?_
  refine z_topl (z := y0) rfl ?_
  refine z_l2i hC d_Mo_emit_59 ?_
  refine z_iast (ws' := [(o, .inr (5, [.int (iI cd), .int (iI z), .int (iI lv), .ref qT, .ref qC, .ref qF, .ref qY, .ref qZ, .ref qu, .ref qv, .ref qw, .ref qg, .ref qh, .ref qx, .ref qc, .ref qa, .ref qb, .ref qd, .int (iI fm), .ref qp, .ref qq])), (qF, eI t.1 14400 (uZ (uZ Fr (12 * fm) x0) (12 * fm + 4) y0)), (qY, eI t.1 1200 (uZ Yr fm y)), (q, eL t.2.1 4 (v4 x0 x1 x2 x3)), (q1, eL t.2.1 4 (v4 y0 y1 y2 y3)), (q2, eL t.2.1 4 (v4 c0 c1 c2 c3))]) hC hK hP hD hS 1 rfl (by omega) rfl d_Mo_emit_60 (fun H locs hP hD hS => ?_)
  refine lv_aload_n hC.1 hC.2.1 d_Mo_emit_61 rfl (lv_at hl 1 rfl) ?_
  refine z_get (ci := 5) (C := R_Mo) (T := F_Mo) (N := 21) (v := .ref qF) hC in_Mo hK hP 0 rfl rfl 5 (by decide) k_458 rfl d_Mo_emit_62 ?_
  refine z_bipush hC d_Mo_emit_65 (by decide) ?_
  refine lv_aload_n hC.1 hC.2.1 d_Mo_emit_67 rfl (lv_at hl 1 rfl) ?_
  refine z_get (ci := 5) (C := R_Mo) (T := F_Mo) (N := 21) (v := .int (iI fm)) hC in_Mo hK hP 0 rfl rfl 18 (by decide) k_471 rfl d_Mo_emit_68 ?_
  refine z_imul hC d_Mo_emit_71 ?_
  refine z_bipush hC d_Mo_emit_72 (by decide) ?_
  refine z_iadd hC d_Mo_emit_74 ?_
  refine z_topi (z := 12 * fm + 8) (by omega) ?_
  refine lv_iload hC.1 hC.2.1 d_Mo_emit_75 (lv_at hl 0 rfl) ?_
  refine z_iadd hC d_Mo_emit_77 ?_
  refine z_topi (z := 12 * fm + 8) (by omega) ?_
  refine lv_aload hC.1 hC.2.1 d_Mo_emit_78 (lv_at hl 5 rfl) ?_
  refine lv_iload hC.1 hC.2.1 d_Mo_emit_80 (lv_at hl 0 rfl) ?_
  refine z_lald hC hK hP 5 rfl (by decide) d_Mo_emit_82 ?_
  refine z_topl (z := c0) rfl ?_
  refine z_l2i hC d_Mo_emit_83 ?_
  refine z_iast (ws' := [(o, .inr (5, [.int (iI cd), .int (iI z), .int (iI lv), .ref qT, .ref qC, .ref qF, .ref qY, .ref qZ, .ref qu, .ref qv, .ref qw, .ref qg, .ref qh, .ref qx, .ref qc, .ref qa, .ref qb, .ref qd, .int (iI fm), .ref qp, .ref qq])), (qF, eI t.1 14400 (uZ (uZ (uZ Fr (12 * fm) x0) (12 * fm + 4) y0) (12 * fm + 8) c0)), (qY, eI t.1 1200 (uZ Yr fm y)), (q, eL t.2.1 4 (v4 x0 x1 x2 x3)), (q1, eL t.2.1 4 (v4 y0 y1 y2 y3)), (q2, eL t.2.1 4 (v4 c0 c1 c2 c3))]) hC hK hP hD hS 1 rfl (by omega) rfl d_Mo_emit_84 (fun H locs hP hD hS => ?_)
  refine lv_iinc (v := iI 1) (lv' := [(5, .int (iI 1)), (0, .ref o), (1, .int (iI y)), (2, .ref q), (3, .ref q1), (4, .ref q2)]) hC.1 hC.2.1 d_Mo_emit_85 hl (k := 0) rfl (z_inc (by omega)) (by decide) rfl (fun ls hl => ?_)
  refine z_goto (tgt := 13) hC d_Mo_emit_88 (by decide) ?_
  refine lv_iload hC.1 hC.2.1 d_Mo_emit_13 (lv_at hl 0 rfl) ?_
  refine z_iconst hC d_Mo_emit_15 ?_
  refine z_icmp_ge (tgt := 91) hC d_Mo_emit_16 (by decide) (by decide) (by decide) (fun h => absurd h (by decide)) (fun _ => ?_)
  refine lv_aload_n hC.1 hC.2.1 d_Mo_emit_19 rfl (lv_at hl 1 rfl) ?_
  refine z_get (ci := 5) (C := R_Mo) (T := F_Mo) (N := 21) (v := .ref qF) hC in_Mo hK hP 0 rfl rfl 5 (by decide) k_458 rfl d_Mo_emit_20 ?_
  refine z_bipush hC d_Mo_emit_23 (by decide) ?_
  refine lv_aload_n hC.1 hC.2.1 d_Mo_emit_25 rfl (lv_at hl 1 rfl) ?_
  refine z_get (ci := 5) (C := R_Mo) (T := F_Mo) (N := 21) (v := .int (iI fm)) hC in_Mo hK hP 0 rfl rfl 18 (by decide) k_471 rfl d_Mo_emit_26 ?_
  refine z_imul hC d_Mo_emit_29 ?_
  refine lv_iload hC.1 hC.2.1 d_Mo_emit_30 (lv_at hl 0 rfl) ?_
  refine z_iadd hC d_Mo_emit_32 ?_
  refine z_topi (z := 12 * fm + 1) (by omega) ?_
  refine lv_aload_n hC.1 hC.2.1 d_Mo_emit_33 rfl (lv_at hl 3 rfl) ?_
  refine lv_iload hC.1 hC.2.1 d_Mo_emit_34 (lv_at hl 0 rfl) ?_
  refine z_lald hC hK hP 3 rfl (by decide) d_Mo_emit_36 ?_
  refine z_topl (z := x1) rfl ?_
  refine z_l2i hC d_Mo_emit_37 ?_
  refine z_iast (ws' := [(o, .inr (5, [.int (iI cd), .int (iI z), .int (iI lv), .ref qT, .ref qC, .ref qF, .ref qY, .ref qZ, .ref qu, .ref qv, .ref qw, .ref qg, .ref qh, .ref qx, .ref qc, .ref qa, .ref qb, .ref qd, .int (iI fm), .ref qp, .ref qq])), (qF, eI t.1 14400 (uZ (uZ (uZ (uZ Fr (12 * fm) x0) (12 * fm + 4) y0) (12 * fm + 8) c0) (12 * fm + 1) x1)), (qY, eI t.1 1200 (uZ Yr fm y)), (q, eL t.2.1 4 (v4 x0 x1 x2 x3)), (q1, eL t.2.1 4 (v4 y0 y1 y2 y3)), (q2, eL t.2.1 4 (v4 c0 c1 c2 c3))]) hC hK hP hD hS 1 rfl (by omega) rfl d_Mo_emit_38 (fun H locs hP hD hS => ?_)
  refine lv_aload_n hC.1 hC.2.1 d_Mo_emit_39 rfl (lv_at hl 1 rfl) ?_
  refine z_get (ci := 5) (C := R_Mo) (T := F_Mo) (N := 21) (v := .ref qF) hC in_Mo hK hP 0 rfl rfl 5 (by decide) k_458 rfl d_Mo_emit_40 ?_
  refine z_bipush hC d_Mo_emit_43 (by decide) ?_
  refine lv_aload_n hC.1 hC.2.1 d_Mo_emit_45 rfl (lv_at hl 1 rfl) ?_
  refine z_get (ci := 5) (C := R_Mo) (T := F_Mo) (N := 21) (v := .int (iI fm)) hC in_Mo hK hP 0 rfl rfl 18 (by decide) k_471 rfl d_Mo_emit_46 ?_
  refine z_imul hC d_Mo_emit_49 ?_
  refine z_iconst hC d_Mo_emit_50 ?_
  refine z_iadd hC d_Mo_emit_51 ?_
  refine z_topi (z := 12 * fm + 4) (by omega) ?_
  refine lv_iload hC.1 hC.2.1 d_Mo_emit_52 (lv_at hl 0 rfl) ?_
  refine z_iadd hC d_Mo_emit_54 ?_
  refine z_topi (z := 12 * fm + 5) (by omega) ?_
  refine lv_aload_n hC.1 hC.2.1 d_Mo_emit_55 rfl (lv_at hl 4 rfl) ?_
  refine lv_iload hC.1 hC.2.1 d_Mo_emit_56 (lv_at hl 0 rfl) ?_
  refine z_lald hC hK hP 4 rfl (by decide) d_Mo_emit_58 ?_
  refine z_topl (z := y1) rfl ?_
  refine z_l2i hC d_Mo_emit_59 ?_
  refine z_iast (ws' := [(o, .inr (5, [.int (iI cd), .int (iI z), .int (iI lv), .ref qT, .ref qC, .ref qF, .ref qY, .ref qZ, .ref qu, .ref qv, .ref qw, .ref qg, .ref qh, .ref qx, .ref qc, .ref qa, .ref qb, .ref qd, .int (iI fm), .ref qp, .ref qq])), (qF, eI t.1 14400 (uZ (uZ (uZ (uZ (uZ Fr (12 * fm) x0) (12 * fm + 4) y0) (12 * fm + 8) c0) (12 * fm + 1) x1) (12 * fm + 5) y1)), (qY, eI t.1 1200 (uZ Yr fm y)), (q, eL t.2.1 4 (v4 x0 x1 x2 x3)), (q1, eL t.2.1 4 (v4 y0 y1 y2 y3)), (q2, eL t.2.1 4 (v4 c0 c1 c2 c3))]) hC hK hP hD hS 1 rfl (by omega) rfl d_Mo_emit_60 (fun H locs hP hD hS => ?_)
  refine lv_aload_n hC.1 hC.2.1 d_Mo_emit_61 rfl (lv_at hl 1 rfl) ?_
  refine z_get (ci := 5) (C := R_Mo) (T := F_Mo) (N := 21) (v := .ref qF) hC in_Mo hK hP 0 rfl rfl 5 (by decide) k_458 rfl d_Mo_emit_62 ?_
  refine z_bipush hC d_Mo_emit_65 (by decide) ?_
  refine lv_aload_n hC.1 hC.2.1 d_Mo_emit_67 rfl (lv_at hl 1 rfl) ?_
  refine z_get (ci := 5) (C := R_Mo) (T := F_Mo) (N := 21) (v := .int (iI fm)) hC in_Mo hK hP 0 rfl rfl 18 (by decide) k_471 rfl d_Mo_emit_68 ?_
  refine z_imul hC d_Mo_emit_71 ?_
  refine z_bipush hC d_Mo_emit_72 (by decide) ?_
  refine z_iadd hC d_Mo_emit_74 ?_
  refine z_topi (z := 12 * fm + 8) (by omega) ?_
  refine lv_iload hC.1 hC.2.1 d_Mo_emit_75 (lv_at hl 0 rfl) ?_
  refine z_iadd hC d_Mo_emit_77 ?_
  refine z_topi (z := 12 * fm + 9) (by omega) ?_
  refine lv_aload hC.1 hC.2.1 d_Mo_emit_78 (lv_at hl 5 rfl) ?_
  refine lv_iload hC.1 hC.2.1 d_Mo_emit_80 (lv_at hl 0 rfl) ?_
  refine z_lald hC hK hP 5 rfl (by decide) d_Mo_emit_82 ?_
  refine z_topl (z := c1) rfl ?_
  refine z_l2i hC d_Mo_emit_83 ?_
  refine z_iast (ws' := [(o, .inr (5, [.int (iI cd), .int (iI z), .int (iI lv), .ref qT, .ref qC, .ref qF, .ref qY, .ref qZ, .ref qu, .ref qv, .ref qw, .ref qg, .ref qh, .ref qx, .ref qc, .ref qa, .ref qb, .ref qd, .int (iI fm), .ref qp, .ref qq])), (qF, eI t.1 14400 (uZ (uZ (uZ (uZ (uZ (uZ Fr (12 * fm) x0) (12 * fm + 4) y0) (12 * fm + 8) c0) (12 * fm + 1) x1) (12 * fm + 5) y1) (12 * fm + 9) c1)), (qY, eI t.1 1200 (uZ Yr fm y)), (q, eL t.2.1 4 (v4 x0 x1 x2 x3)), (q1, eL t.2.1 4 (v4 y0 y1 y2 y3)), (q2, eL t.2.1 4 (v4 c0 c1 c2 c3))]) hC hK hP hD hS 1 rfl (by omega) rfl d_Mo_emit_84 (fun H locs hP hD hS => ?_)
  refine lv_iinc (v := iI 2) (lv' := [(5, .int (iI 2)), (0, .ref o), (1, .int (iI y)), (2, .ref q), (3, .ref q1), (4, .ref q2)]) hC.1 hC.2.1 d_Mo_emit_85 hl (k := 0) rfl (z_inc (by omega)) (by decide) rfl (fun ls hl => ?_)
  refine z_goto (tgt := 13) hC d_Mo_emit_88 (by decide) ?_
  refine lv_iload hC.1 hC.2.1 d_Mo_emit_13 (lv_at hl 0 rfl) ?_
  refine z_iconst hC d_Mo_emit_15 ?_
  refine z_icmp_ge (tgt := 91) hC d_Mo_emit_16 (by decide) (by decide) (by decide) (fun h => absurd h (by decide)) (fun _ => ?_)
  refine lv_aload_n hC.1 hC.2.1 d_Mo_emit_19 rfl (lv_at hl 1 rfl) ?_
  refine z_get (ci := 5) (C := R_Mo) (T := F_Mo) (N := 21) (v := .ref qF) hC in_Mo hK hP 0 rfl rfl 5 (by decide) k_458 rfl d_Mo_emit_20 ?_
  refine z_bipush hC d_Mo_emit_23 (by decide) ?_
  refine lv_aload_n hC.1 hC.2.1 d_Mo_emit_25 rfl (lv_at hl 1 rfl) ?_
  refine z_get (ci := 5) (C := R_Mo) (T := F_Mo) (N := 21) (v := .int (iI fm)) hC in_Mo hK hP 0 rfl rfl 18 (by decide) k_471 rfl d_Mo_emit_26 ?_
  refine z_imul hC d_Mo_emit_29 ?_
  refine lv_iload hC.1 hC.2.1 d_Mo_emit_30 (lv_at hl 0 rfl) ?_
  refine z_iadd hC d_Mo_emit_32 ?_
  refine z_topi (z := 12 * fm + 2) (by omega) ?_
  refine lv_aload_n hC.1 hC.2.1 d_Mo_emit_33 rfl (lv_at hl 3 rfl) ?_
  refine lv_iload hC.1 hC.2.1 d_Mo_emit_34 (lv_at hl 0 rfl) ?_
  refine z_lald hC hK hP 3 rfl (by decide) d_Mo_emit_36 ?_
  refine z_topl (z := x2) rfl ?_
  refine z_l2i hC d_Mo_emit_37 ?_
  refine z_iast (ws' := [(o, .inr (5, [.int (iI cd), .int (iI z), .int (iI lv), .ref qT, .ref qC, .ref qF, .ref qY, .ref qZ, .ref qu, .ref qv, .ref qw, .ref qg, .ref qh, .ref qx, .ref qc, .ref qa, .ref qb, .ref qd, .int (iI fm), .ref qp, .ref qq])), (qF, eI t.1 14400 (uZ (uZ (uZ (uZ (uZ (uZ (uZ Fr (12 * fm) x0) (12 * fm + 4) y0) (12 * fm + 8) c0) (12 * fm + 1) x1) (12 * fm + 5) y1) (12 * fm + 9) c1) (12 * fm + 2) x2)), (qY, eI t.1 1200 (uZ Yr fm y)), (q, eL t.2.1 4 (v4 x0 x1 x2 x3)), (q1, eL t.2.1 4 (v4 y0 y1 y2 y3)), (q2, eL t.2.1 4 (v4 c0 c1 c2 c3))]) hC hK hP hD hS 1 rfl (by omega) rfl d_Mo_emit_38 (fun H locs hP hD hS => ?_)
  refine lv_aload_n hC.1 hC.2.1 d_Mo_emit_39 rfl (lv_at hl 1 rfl) ?_
  refine z_get (ci := 5) (C := R_Mo) (T := F_Mo) (N := 21) (v := .ref qF) hC in_Mo hK hP 0 rfl rfl 5 (by decide) k_458 rfl d_Mo_emit_40 ?_
  refine z_bipush hC d_Mo_emit_43 (by decide) ?_
  refine lv_aload_n hC.1 hC.2.1 d_Mo_emit_45 rfl (lv_at hl 1 rfl) ?_
  refine z_get (ci := 5) (C := R_Mo) (T := F_Mo) (N := 21) (v := .int (iI fm)) hC in_Mo hK hP 0 rfl rfl 18 (by decide) k_471 rfl d_Mo_emit_46 ?_
  refine z_imul hC d_Mo_emit_49 ?_
  refine z_iconst hC d_Mo_emit_50 ?_
  refine z_iadd hC d_Mo_emit_51 ?_
  refine z_topi (z := 12 * fm + 4) (by omega) ?_
  refine lv_iload hC.1 hC.2.1 d_Mo_emit_52 (lv_at hl 0 rfl) ?_
  refine z_iadd hC d_Mo_emit_54 ?_
  refine z_topi (z := 12 * fm + 6) (by omega) ?_
  refine lv_aload_n hC.1 hC.2.1 d_Mo_emit_55 rfl (lv_at hl 4 rfl) ?_
  refine lv_iload hC.1 hC.2.1 d_Mo_emit_56 (lv_at hl 0 rfl) ?_
  refine z_lald hC hK hP 4 rfl (by decide) d_Mo_emit_58 ?_
  refine z_topl (z := y2) rfl ?_
  refine z_l2i hC d_Mo_emit_59 ?_
  refine z_iast (ws' := [(o, .inr (5, [.int (iI cd), .int (iI z), .int (iI lv), .ref qT, .ref qC, .ref qF, .ref qY, .ref qZ, .ref qu, .ref qv, .ref qw, .ref qg, .ref qh, .ref qx, .ref qc, .ref qa, .ref qb, .ref qd, .int (iI fm), .ref qp, .ref qq])), (qF, eI t.1 14400 (uZ (uZ (uZ (uZ (uZ (uZ (uZ (uZ Fr (12 * fm) x0) (12 * fm + 4) y0) (12 * fm + 8) c0) (12 * fm + 1) x1) (12 * fm + 5) y1) (12 * fm + 9) c1) (12 * fm + 2) x2) (12 * fm + 6) y2)), (qY, eI t.1 1200 (uZ Yr fm y)), (q, eL t.2.1 4 (v4 x0 x1 x2 x3)), (q1, eL t.2.1 4 (v4 y0 y1 y2 y3)), (q2, eL t.2.1 4 (v4 c0 c1 c2 c3))]) hC hK hP hD hS 1 rfl (by omega) rfl d_Mo_emit_60 (fun H locs hP hD hS => ?_)
  refine lv_aload_n hC.1 hC.2.1 d_Mo_emit_61 rfl (lv_at hl 1 rfl) ?_
  refine z_get (ci := 5) (C := R_Mo) (T := F_Mo) (N := 21) (v := .ref qF) hC in_Mo hK hP 0 rfl rfl 5 (by decide) k_458 rfl d_Mo_emit_62 ?_
  refine z_bipush hC d_Mo_emit_65 (by decide) ?_
  refine lv_aload_n hC.1 hC.2.1 d_Mo_emit_67 rfl (lv_at hl 1 rfl) ?_
  refine z_get (ci := 5) (C := R_Mo) (T := F_Mo) (N := 21) (v := .int (iI fm)) hC in_Mo hK hP 0 rfl rfl 18 (by decide) k_471 rfl d_Mo_emit_68 ?_
  refine z_imul hC d_Mo_emit_71 ?_
  refine z_bipush hC d_Mo_emit_72 (by decide) ?_
  refine z_iadd hC d_Mo_emit_74 ?_
  refine z_topi (z := 12 * fm + 8) (by omega) ?_
  refine lv_iload hC.1 hC.2.1 d_Mo_emit_75 (lv_at hl 0 rfl) ?_
  refine z_iadd hC d_Mo_emit_77 ?_
  refine z_topi (z := 12 * fm + 10) (by omega) ?_
  refine lv_aload hC.1 hC.2.1 d_Mo_emit_78 (lv_at hl 5 rfl) ?_
  refine lv_iload hC.1 hC.2.1 d_Mo_emit_80 (lv_at hl 0 rfl) ?_
  refine z_lald hC hK hP 5 rfl (by decide) d_Mo_emit_82 ?_
  refine z_topl (z := c2) rfl ?_
  refine z_l2i hC d_Mo_emit_83 ?_
  refine z_iast (ws' := [(o, .inr (5, [.int (iI cd), .int (iI z), .int (iI lv), .ref qT, .ref qC, .ref qF, .ref qY, .ref qZ, .ref qu, .ref qv, .ref qw, .ref qg, .ref qh, .ref qx, .ref qc, .ref qa, .ref qb, .ref qd, .int (iI fm), .ref qp, .ref qq])), (qF, eI t.1 14400 (uZ (uZ (uZ (uZ (uZ (uZ (uZ (uZ (uZ Fr (12 * fm) x0) (12 * fm + 4) y0) (12 * fm + 8) c0) (12 * fm + 1) x1) (12 * fm + 5) y1) (12 * fm + 9) c1) (12 * fm + 2) x2) (12 * fm + 6) y2) (12 * fm + 10) c2)), (qY, eI t.1 1200 (uZ Yr fm y)), (q, eL t.2.1 4 (v4 x0 x1 x2 x3)), (q1, eL t.2.1 4 (v4 y0 y1 y2 y3)), (q2, eL t.2.1 4 (v4 c0 c1 c2 c3))]) hC hK hP hD hS 1 rfl (by omega) rfl d_Mo_emit_84 (fun H locs hP hD hS => ?_)
  refine lv_iinc (v := iI 3) (lv' := [(5, .int (iI 3)), (0, .ref o), (1, .int (iI y)), (2, .ref q), (3, .ref q1), (4, .ref q2)]) hC.1 hC.2.1 d_Mo_emit_85 hl (k := 0) rfl (z_inc (by omega)) (by decide) rfl (fun ls hl => ?_)
  refine z_goto (tgt := 13) hC d_Mo_emit_88 (by decide) ?_
  refine lv_iload hC.1 hC.2.1 d_Mo_emit_13 (lv_at hl 0 rfl) ?_
  refine z_iconst hC d_Mo_emit_15 ?_
  refine z_icmp_ge (tgt := 91) hC d_Mo_emit_16 (by decide) (by decide) (by decide) (fun h => absurd h (by decide)) (fun _ => ?_)
  refine lv_aload_n hC.1 hC.2.1 d_Mo_emit_19 rfl (lv_at hl 1 rfl) ?_
  refine z_get (ci := 5) (C := R_Mo) (T := F_Mo) (N := 21) (v := .ref qF) hC in_Mo hK hP 0 rfl rfl 5 (by decide) k_458 rfl d_Mo_emit_20 ?_
  refine z_bipush hC d_Mo_emit_23 (by decide) ?_
  refine lv_aload_n hC.1 hC.2.1 d_Mo_emit_25 rfl (lv_at hl 1 rfl) ?_
  refine z_get (ci := 5) (C := R_Mo) (T := F_Mo) (N := 21) (v := .int (iI fm)) hC in_Mo hK hP 0 rfl rfl 18 (by decide) k_471 rfl d_Mo_emit_26 ?_
  refine z_imul hC d_Mo_emit_29 ?_
  refine lv_iload hC.1 hC.2.1 d_Mo_emit_30 (lv_at hl 0 rfl) ?_
  refine z_iadd hC d_Mo_emit_32 ?_
  refine z_topi (z := 12 * fm + 3) (by omega) ?_
  refine lv_aload_n hC.1 hC.2.1 d_Mo_emit_33 rfl (lv_at hl 3 rfl) ?_
  refine lv_iload hC.1 hC.2.1 d_Mo_emit_34 (lv_at hl 0 rfl) ?_
  refine z_lald hC hK hP 3 rfl (by decide) d_Mo_emit_36 ?_
  refine z_topl (z := x3) rfl ?_
  refine z_l2i hC d_Mo_emit_37 ?_
  refine z_iast (ws' := [(o, .inr (5, [.int (iI cd), .int (iI z), .int (iI lv), .ref qT, .ref qC, .ref qF, .ref qY, .ref qZ, .ref qu, .ref qv, .ref qw, .ref qg, .ref qh, .ref qx, .ref qc, .ref qa, .ref qb, .ref qd, .int (iI fm), .ref qp, .ref qq])), (qF, eI t.1 14400 (uZ (uZ (uZ (uZ (uZ (uZ (uZ (uZ (uZ (uZ Fr (12 * fm) x0) (12 * fm + 4) y0) (12 * fm + 8) c0) (12 * fm + 1) x1) (12 * fm + 5) y1) (12 * fm + 9) c1) (12 * fm + 2) x2) (12 * fm + 6) y2) (12 * fm + 10) c2) (12 * fm + 3) x3)), (qY, eI t.1 1200 (uZ Yr fm y)), (q, eL t.2.1 4 (v4 x0 x1 x2 x3)), (q1, eL t.2.1 4 (v4 y0 y1 y2 y3)), (q2, eL t.2.1 4 (v4 c0 c1 c2 c3))]) hC hK hP hD hS 1 rfl (by omega) rfl d_Mo_emit_38 (fun H locs hP hD hS => ?_)
  refine lv_aload_n hC.1 hC.2.1 d_Mo_emit_39 rfl (lv_at hl 1 rfl) ?_
  refine z_get (ci := 5) (C := R_Mo) (T := F_Mo) (N := 21) (v := .ref qF) hC in_Mo hK hP 0 rfl rfl 5 (by decide) k_458 rfl d_Mo_emit_40 ?_
  refine z_bipush hC d_Mo_emit_43 (by decide) ?_
  refine lv_aload_n hC.1 hC.2.1 d_Mo_emit_45 rfl (lv_at hl 1 rfl) ?_
  refine z_get (ci := 5) (C := R_Mo) (T := F_Mo) (N := 21) (v := .int (iI fm)) hC in_Mo hK hP 0 rfl rfl 18 (by decide) k_471 rfl d_Mo_emit_46 ?_
  refine z_imul hC d_Mo_emit_49 ?_
  refine z_iconst hC d_Mo_emit_50 ?_
  refine z_iadd hC d_Mo_emit_51 ?_
  refine z_topi (z := 12 * fm + 4) (by omega) ?_
  refine lv_iload hC.1 hC.2.1 d_Mo_emit_52 (lv_at hl 0 rfl) ?_
  refine z_iadd hC d_Mo_emit_54 ?_
  refine z_topi (z := 12 * fm + 7) (by omega) ?_
  refine lv_aload_n hC.1 hC.2.1 d_Mo_emit_55 rfl (lv_at hl 4 rfl) ?_
  refine lv_iload hC.1 hC.2.1 d_Mo_emit_56 (lv_at hl 0 rfl) ?_
  refine z_lald hC hK hP 4 rfl (by decide) d_Mo_emit_58 ?_
  refine z_topl (z := y3) rfl ?_
  refine z_l2i hC d_Mo_emit_59 ?_
  refine z_iast (ws' := [(o, .inr (5, [.int (iI cd), .int (iI z), .int (iI lv), .ref qT, .ref qC, .ref qF, .ref qY, .ref qZ, .ref qu, .ref qv, .ref qw, .ref qg, .ref qh, .ref qx, .ref qc, .ref qa, .ref qb, .ref qd, .int (iI fm), .ref qp, .ref qq])), (qF, eI t.1 14400 (uZ (uZ (uZ (uZ (uZ (uZ (uZ (uZ (uZ (uZ (uZ Fr (12 * fm) x0) (12 * fm + 4) y0) (12 * fm + 8) c0) (12 * fm + 1) x1) (12 * fm + 5) y1) (12 * fm + 9) c1) (12 * fm + 2) x2) (12 * fm + 6) y2) (12 * fm + 10) c2) (12 * fm + 3) x3) (12 * fm + 7) y3)), (qY, eI t.1 1200 (uZ Yr fm y)), (q, eL t.2.1 4 (v4 x0 x1 x2 x3)), (q1, eL t.2.1 4 (v4 y0 y1 y2 y3)), (q2, eL t.2.1 4 (v4 c0 c1 c2 c3))]) hC hK hP hD hS 1 rfl (by omega) rfl d_Mo_emit_60 (fun H locs hP hD hS => ?_)
  refine lv_aload_n hC.1 hC.2.1 d_Mo_emit_61 rfl (lv_at hl 1 rfl) ?_
  refine z_get (ci := 5) (C := R_Mo) (T := F_Mo) (N := 21) (v := .ref qF) hC in_Mo hK hP 0 rfl rfl 5 (by decide) k_458 rfl d_Mo_emit_62 ?_
  refine z_bipush hC d_Mo_emit_65 (by decide) ?_
  refine lv_aload_n hC.1 hC.2.1 d_Mo_emit_67 rfl (lv_at hl 1 rfl) ?_
  refine z_get (ci := 5) (C := R_Mo) (T := F_Mo) (N := 21) (v := .int (iI fm)) hC in_Mo hK hP 0 rfl rfl 18 (by decide) k_471 rfl d_Mo_emit_68 ?_
  refine z_imul hC d_Mo_emit_71 ?_
  refine z_bipush hC d_Mo_emit_72 (by decide) ?_
  refine z_iadd hC d_Mo_emit_74 ?_
  refine z_topi (z := 12 * fm + 8) (by omega) ?_
  refine lv_iload hC.1 hC.2.1 d_Mo_emit_75 (lv_at hl 0 rfl) ?_
  refine z_iadd hC d_Mo_emit_77 ?_
  refine z_topi (z := 12 * fm + 11) (by omega) ?_
  refine lv_aload hC.1 hC.2.1 d_Mo_emit_78 (lv_at hl 5 rfl) ?_
  refine lv_iload hC.1 hC.2.1 d_Mo_emit_80 (lv_at hl 0 rfl) ?_
  refine z_lald hC hK hP 5 rfl (by decide) d_Mo_emit_82 ?_
  refine z_topl (z := c3) rfl ?_
  refine z_l2i hC d_Mo_emit_83 ?_
  refine z_iast (ws' := [(o, .inr (5, [.int (iI cd), .int (iI z), .int (iI lv), .ref qT, .ref qC, .ref qF, .ref qY, .ref qZ, .ref qu, .ref qv, .ref qw, .ref qg, .ref qh, .ref qx, .ref qc, .ref qa, .ref qb, .ref qd, .int (iI fm), .ref qp, .ref qq])), (qF, eI t.1 14400 (uZ (uZ (uZ (uZ (uZ (uZ (uZ (uZ (uZ (uZ (uZ (uZ Fr (12 * fm) x0) (12 * fm + 4) y0) (12 * fm + 8) c0) (12 * fm + 1) x1) (12 * fm + 5) y1) (12 * fm + 9) c1) (12 * fm + 2) x2) (12 * fm + 6) y2) (12 * fm + 10) c2) (12 * fm + 3) x3) (12 * fm + 7) y3) (12 * fm + 11) c3)), (qY, eI t.1 1200 (uZ Yr fm y)), (q, eL t.2.1 4 (v4 x0 x1 x2 x3)), (q1, eL t.2.1 4 (v4 y0 y1 y2 y3)), (q2, eL t.2.1 4 (v4 c0 c1 c2 c3))]) hC hK hP hD hS 1 rfl (by omega) rfl d_Mo_emit_84 (fun H locs hP hD hS => ?_)
  refine lv_iinc (v := iI 4) (lv' := [(5, .int (iI 4)), (0, .ref o), (1, .int (iI y)), (2, .ref q), (3, .ref q1), (4, .ref q2)]) hC.1 hC.2.1 d_Mo_emit_85 hl (k := 0) rfl (z_inc (by omega)) (by decide) rfl (fun ls hl => ?_)
  refine z_goto (tgt := 13) hC d_Mo_emit_88 (by decide) ?_
  refine lv_iload hC.1 hC.2.1 d_Mo_emit_13 (lv_at hl 0 rfl) ?_
  refine z_iconst hC d_Mo_emit_15 ?_
  refine z_icmp_ge (tgt := 91) hC d_Mo_emit_16 (by decide) (by decide) (by decide) (fun _ => ?_) (fun h => absurd h (by decide))
  refine lv_aload_n hC.1 hC.2.1 d_Mo_emit_91 rfl (lv_at hl 1 rfl) ?_
  refine lv_dup hC.1 hC.2.1 d_Mo_emit_92 rfl ?_
  refine z_get (ci := 5) (C := R_Mo) (T := F_Mo) (N := 21) (v := .int (iI fm)) hC in_Mo hK hP 0 rfl rfl 18 (by decide) k_471 rfl d_Mo_emit_93 ?_
  refine z_iconst hC d_Mo_emit_96 ?_
  refine z_iadd hC d_Mo_emit_97 ?_
  refine z_put (ci := 5) (C := R_Mo) (T := F_Mo) (N := 21) (v := .int (iI (fm + 1))) (ws' := [(o, .inr (5, [.int (iI cd), .int (iI z), .int (iI lv), .ref qT, .ref qC, .ref qF, .ref qY, .ref qZ, .ref qu, .ref qv, .ref qw, .ref qg, .ref qh, .ref qx, .ref qc, .ref qa, .ref qb, .ref qd, .int (iI (fm + 1)), .ref qp, .ref qq])), (qF, eI t.1 14400 (uZ (uZ (uZ (uZ (uZ (uZ (uZ (uZ (uZ (uZ (uZ (uZ Fr (12 * fm) x0) (12 * fm + 4) y0) (12 * fm + 8) c0) (12 * fm + 1) x1) (12 * fm + 5) y1) (12 * fm + 9) c1) (12 * fm + 2) x2) (12 * fm + 6) y2) (12 * fm + 10) c2) (12 * fm + 3) x3) (12 * fm + 7) y3) (12 * fm + 11) c3)), (qY, eI t.1 1200 (uZ Yr fm y)), (q, eL t.2.1 4 (v4 x0 x1 x2 x3)), (q1, eL t.2.1 4 (v4 y0 y1 y2 y3)), (q2, eL t.2.1 4 (v4 c0 c1 c2 c3))]) hC in_Mo t_Mo t_Mo_ok n_Mo hK hP hD hS 0 rfl rfl 18 (by decide) k_471 rfl rfl rfl (Nat.le_of_ble_eq_true rfl) rfl d_Mo_emit_98 (fun H locs hP hD hS => ?_)
  rw [← hf1] at hP hD
  have hP9 := hP.sub (ws' := [(o, .inr (5, [.int (iI cd), .int (iI z), .int (iI lv), .ref qT, .ref qC, .ref qF, .ref qY, .ref qZ, .ref qu, .ref qv, .ref qw, .ref qg, .ref qh, .ref qx, .ref qc, .ref qa, .ref qb, .ref qd, .int (iI fm1), .ref qp, .ref qq])), (qF, eI t.1 14400 (uZ (uZ (uZ (uZ (uZ (uZ (uZ (uZ (uZ (uZ (uZ (uZ Fr (12 * fm) x0) (12 * fm + 4) y0) (12 * fm + 8) c0) (12 * fm + 1) x1) (12 * fm + 5) y1) (12 * fm + 9) c1) (12 * fm + 2) x2) (12 * fm + 6) y2) (12 * fm + 10) c2) (12 * fm + 3) x3) (12 * fm + 7) y3) (12 * fm + 11) c3)), (qY, eI t.1 1200 (uZ Yr fm y)), (q, eL t.2.1 4 (v4 x0 x1 x2 x3)), (q1, eL t.2.1 4 (v4 y0 y1 y2 y3)), (q2, eL t.2.1 4 (v4 c0 c1 c2 c3))]) [0, 1, 2, 3, 4, 5] rfl
  have hD9 := hD.sub (ws' := [(o, .inr (5, [.int (iI cd), .int (iI z), .int (iI lv), .ref qT, .ref qC, .ref qF, .ref qY, .ref qZ, .ref qu, .ref qv, .ref qw, .ref qg, .ref qh, .ref qx, .ref qc, .ref qa, .ref qb, .ref qd, .int (iI fm1), .ref qp, .ref qq])), (qF, eI t.1 14400 (uZ (uZ (uZ (uZ (uZ (uZ (uZ (uZ (uZ (uZ (uZ (uZ Fr (12 * fm) x0) (12 * fm + 4) y0) (12 * fm + 8) c0) (12 * fm + 1) x1) (12 * fm + 5) y1) (12 * fm + 9) c1) (12 * fm + 2) x2) (12 * fm + 6) y2) (12 * fm + 10) c2) (12 * fm + 3) x3) (12 * fm + 7) y3) (12 * fm + 11) c3)), (qY, eI t.1 1200 (uZ Yr fm y)), (q, eL t.2.1 4 (v4 x0 x1 x2 x3)), (q1, eL t.2.1 4 (v4 y0 y1 y2 y3)), (q2, eL t.2.1 4 (v4 c0 c1 c2 c3))]) [0, 1, 2, 3, 4, 5] (by decide) rfl
  exact ret () _ _ 101 _ d_Mo_emit_101 trivial hP9 hD9 hS
theorem ye_Mo_adopt : ye y_Mo_adopt R_Mo 0 := by unfold ye; decide +kernel
abbrev rm_Mo_adopt : Room := { frames := 0, cells := 0, slots := 0, locals := 0 }
set_option maxHeartbeats 4000000 in
set_option maxRecDepth 100000 in
theorem c_Mo_adopt (l : Launch) (D : va_G) (t : vt) (ts : Nat → Nat) (o qT qC qF qY qZ qu qv qw qg qh qx qc qa qb qd qp qq : Nat) (cd z lv fm : Int) (T F Fr Yr : Int → Int) (hm : 0 ≤ fm ∧ fm ≤ 400) (sz : Nat) : Met l y_Mo_adopt (.code y_Mo_adopt b_Mo_adopt 2 none :: tb_ws) rm_Mo_adopt (MP D t ts [.ref o] [(o, .inr (5, [.int (iI cd), .int (iI z), .int (iI lv), .ref qT, .ref qC, .ref qF, .ref qY, .ref qZ, .ref qu, .ref qv, .ref qw, .ref qg, .ref qh, .ref qx, .ref qc, .ref qa, .ref qb, .ref qd, .int (iI fm), .ref qp, .ref qq])), (qT, eI t.1 1200 T), (qC, eI t.1 14400 F), (qF, eI t.1 14400 Fr), (qY, eI t.1 1200 Yr)] sz) (va_Qv (fun u : (Int → Int) × (Int → Int) => u.1 = cpN Yr T fm ∧ u.2 = cpN Fr F (12 * fm)) (MB D (va_A [(o, .inr (5, [.int (iI cd), .int (iI z), .int (iI lv), .ref qT, .ref qC, .ref qF, .ref qY, .ref qZ, .ref qu, .ref qv, .ref qw, .ref qg, .ref qh, .ref qx, .ref qc, .ref qa, .ref qb, .ref qd, .int (iI fm), .ref qp, .ref qq])), (qT, eI t.1 1200 T), (qC, eI t.1 14400 F), (qF, eI t.1 14400 Fr), (qY, eI t.1 1200 Yr)] sz) (fun u : (Int → Int) × (Int → Int) => [(o, .inr (5, [.int (iI cd), .int (iI fm), .int (iI lv), .ref qT, .ref qC, .ref qF, .ref qY, .ref qZ, .ref qu, .ref qv, .ref qw, .ref qg, .ref qh, .ref qx, .ref qc, .ref qa, .ref qb, .ref qd, .int (iI fm), .ref qp, .ref qq])), (qT, eI t.1 1200 u.1), (qC, eI t.1 14400 u.2), (qF, eI t.1 14400 Fr), (qY, eI t.1 1200 Yr)])) (va_A [(o, .inr (5, [.int (iI cd), .int (iI z), .int (iI lv), .ref qT, .ref qC, .ref qF, .ref qY, .ref qZ, .ref qu, .ref qv, .ref qw, .ref qg, .ref qh, .ref qx, .ref qc, .ref qa, .ref qb, .ref qd, .int (iI fm), .ref qp, .ref qq])), (qT, eI t.1 1200 T), (qC, eI t.1 14400 F), (qF, eI t.1 14400 Fr), (qY, eI t.1 1200 Yr)] sz)) 0 0 (va_A [(o, .inr (5, [.int (iI cd), .int (iI z), .int (iI lv), .ref qT, .ref qC, .ref qF, .ref qY, .ref qZ, .ref qu, .ref qv, .ref qw, .ref qg, .ref qh, .ref qx, .ref qc, .ref qa, .ref qb, .ref qd, .int (iI fm), .ref qp, .ref qq])), (qT, eI t.1 1200 T), (qC, eI t.1 14400 F), (qF, eI t.1 14400 Fr), (qY, eI t.1 1200 Yr)] sz) := by
  refine m_v (by decide +kernel) (Nat.le_of_ble_eq_true rfl) ?_
  intro zp ze zs zm zb zt zc zQ A ls hC hA hP hK hD hE hS hl ret
  have hl : lv_has ls 2 [(0, .ref o)] := hl
  refine lv_aload_n hC.1 hC.2.1 d_Mo_adopt_0 rfl (lv_at hl 0 rfl) ?_
  refine lv_aload_n hC.1 hC.2.1 d_Mo_adopt_1 rfl (lv_at hl 0 rfl) ?_
  refine z_get (ci := 5) (C := R_Mo) (T := F_Mo) (N := 21) (v := .int (iI fm)) hC in_Mo hK hP 0 rfl rfl 18 (by decide) k_471 rfl d_Mo_adopt_2 ?_
  refine z_put (ci := 5) (C := R_Mo) (T := F_Mo) (N := 21) (v := .int (iI fm)) (ws' := [(o, .inr (5, [.int (iI cd), .int (iI fm), .int (iI lv), .ref qT, .ref qC, .ref qF, .ref qY, .ref qZ, .ref qu, .ref qv, .ref qw, .ref qg, .ref qh, .ref qx, .ref qc, .ref qa, .ref qb, .ref qd, .int (iI fm), .ref qp, .ref qq])), (qT, eI t.1 1200 T), (qC, eI t.1 14400 F), (qF, eI t.1 14400 Fr), (qY, eI t.1 1200 Yr)]) hC in_Mo t_Mo t_Mo_ok n_Mo hK hP hD hS 0 rfl rfl 1 (by decide) k_454 rfl rfl rfl (Nat.le_of_ble_eq_true rfl) rfl d_Mo_adopt_5 (fun H locs hP hD hS => ?_)
  refine z_iconst hC d_Mo_adopt_8 ?_
  refine lv_istore_n (lv' := [(1, .int (iI 0)), (0, .ref o)]) hC.1 hC.2.1 d_Mo_adopt_9 rfl hl (by decide) rfl (fun ls hl => ?_)
  have L10 : ∀ (fu : Nat) (G : Int → Int) (k : Int) (H : Heap) (locs : List Loc) (ls : Array Slot), fm - k + 1 ≤ (fu : Int) → (0 ≤ k ∧ k ≤ fm) → (G = cpN Yr T k) → va_P D classes [(o, .inr (5, [.int (iI cd), .int (iI fm), .int (iI lv), .ref qT, .ref qC, .ref qF, .ref qY, .ref qZ, .ref qu, .ref qv, .ref qw, .ref qg, .ref qh, .ref qx, .ref qc, .ref qa, .ref qb, .ref qd, .int (iI fm), .ref qp, .ref qq])), (qT, eI t.1 1200 G), (qC, eI t.1 14400 F), (qF, eI t.1 14400 Fr), (qY, eI t.1 1200 Yr)] H → va_D A [(o, .inr (5, [.int (iI cd), .int (iI fm), .int (iI lv), .ref qT, .ref qC, .ref qF, .ref qY, .ref qZ, .ref qu, .ref qv, .ref qw, .ref qg, .ref qh, .ref qx, .ref qc, .ref qa, .ref qb, .ref qd, .int (iI fm), .ref qp, .ref qq])), (qT, eI t.1 1200 G), (qC, eI t.1 14400 F), (qF, eI t.1 14400 Fr), (qY, eI t.1 1200 Yr)] → va_S A zs.heap H locs → lv_has ls 2 [(1, .int (iI k)), (0, .ref o)] → W zp l ze rm_Mo_adopt zs zm [.ref o].toArray zb zt zc H locs 0 0 zQ (F0 zm 10 ls []) := by
    intro fu
    induction fu with
    | zero =>
      intro G k H locs ls hm10 hk eG hP hD hS hl
      exact absurd hm10 (by omega)
    | succ fu ih10 =>
      intro G k H locs ls hm10 hk eG hP hD hS hl
      refine lv_iload_n hC.1 hC.2.1 d_Mo_adopt_10 rfl (lv_at hl 0 rfl) ?_
      refine lv_aload_n hC.1 hC.2.1 d_Mo_adopt_11 rfl (lv_at hl 1 rfl) ?_
      refine z_get (ci := 5) (C := R_Mo) (T := F_Mo) (N := 21) (v := .int (iI fm)) hC in_Mo hK hP 0 rfl rfl 1 (by decide) k_454 rfl d_Mo_adopt_12 ?_
      refine z_icmp_ge (tgt := 36) hC d_Mo_adopt_15 (by decide) (by omega) (by omega) (fun h15 => ?_) (fun h15 => ?_)
      · refine z_iconst hC d_Mo_adopt_36 ?_
        refine lv_istore_n (lv' := [(1, .int (iI 0)), (0, .ref o)]) hC.1 hC.2.1 d_Mo_adopt_37 rfl hl (by decide) rfl (fun ls hl => ?_)
        have L38 : ∀ (fu : Nat) (G2 : Int → Int) (k2 : Int) (H : Heap) (locs : List Loc) (ls : Array Slot), 12 * fm - k2 + 1 ≤ (fu : Int) → (0 ≤ k2 ∧ k2 ≤ 12 * fm) → (G2 = cpN Fr F k2) → va_P D classes [(o, .inr (5, [.int (iI cd), .int (iI fm), .int (iI lv), .ref qT, .ref qC, .ref qF, .ref qY, .ref qZ, .ref qu, .ref qv, .ref qw, .ref qg, .ref qh, .ref qx, .ref qc, .ref qa, .ref qb, .ref qd, .int (iI fm), .ref qp, .ref qq])), (qT, eI t.1 1200 G), (qC, eI t.1 14400 G2), (qF, eI t.1 14400 Fr), (qY, eI t.1 1200 Yr)] H → va_D A [(o, .inr (5, [.int (iI cd), .int (iI fm), .int (iI lv), .ref qT, .ref qC, .ref qF, .ref qY, .ref qZ, .ref qu, .ref qv, .ref qw, .ref qg, .ref qh, .ref qx, .ref qc, .ref qa, .ref qb, .ref qd, .int (iI fm), .ref qp, .ref qq])), (qT, eI t.1 1200 G), (qC, eI t.1 14400 G2), (qF, eI t.1 14400 Fr), (qY, eI t.1 1200 Yr)] → va_S A zs.heap H locs → lv_has ls 2 [(1, .int (iI k2)), (0, .ref o)] → W zp l ze rm_Mo_adopt zs zm [.ref o].toArray zb zt zc H locs 0 0 zQ (F0 zm 38 ls []) := by
          intro fu
          induction fu with
          | zero =>
            intro G2 k2 H locs ls hm38 hk2 eG2 hP hD hS hl
            exact absurd hm38 (by omega)
          | succ fu ih38 =>
            intro G2 k2 H locs ls hm38 hk2 eG2 hP hD hS hl
            refine lv_iload_n hC.1 hC.2.1 d_Mo_adopt_38 rfl (lv_at hl 0 rfl) ?_
            refine z_bipush hC d_Mo_adopt_39 (by decide) ?_
            refine lv_aload_n hC.1 hC.2.1 d_Mo_adopt_41 rfl (lv_at hl 1 rfl) ?_
            refine z_get (ci := 5) (C := R_Mo) (T := F_Mo) (N := 21) (v := .int (iI fm)) hC in_Mo hK hP 0 rfl rfl 1 (by decide) k_454 rfl d_Mo_adopt_42 ?_
            refine z_imul hC d_Mo_adopt_45 ?_
            refine z_icmp_ge (tgt := 67) hC d_Mo_adopt_46 (by decide) (by omega) (by omega) (fun h46 => ?_) (fun h46 => ?_)
            · have hP9 := hP.sub (ws' := [(o, .inr (5, [.int (iI cd), .int (iI fm), .int (iI lv), .ref qT, .ref qC, .ref qF, .ref qY, .ref qZ, .ref qu, .ref qv, .ref qw, .ref qg, .ref qh, .ref qx, .ref qc, .ref qa, .ref qb, .ref qd, .int (iI fm), .ref qp, .ref qq])), (qT, eI t.1 1200 G), (qC, eI t.1 14400 G2), (qF, eI t.1 14400 Fr), (qY, eI t.1 1200 Yr)]) [0, 1, 2, 3, 4] rfl
              have hD9 := hD.sub (ws' := [(o, .inr (5, [.int (iI cd), .int (iI fm), .int (iI lv), .ref qT, .ref qC, .ref qF, .ref qY, .ref qZ, .ref qu, .ref qv, .ref qw, .ref qg, .ref qh, .ref qx, .ref qc, .ref qa, .ref qb, .ref qd, .int (iI fm), .ref qp, .ref qq])), (qT, eI t.1 1200 G), (qC, eI t.1 14400 G2), (qF, eI t.1 14400 Fr), (qY, eI t.1 1200 Yr)]) [0, 1, 2, 3, 4] (by decide) rfl
              exact ret (G, G2) _ _ 67 _ d_Mo_adopt_67 ⟨by show G = _; rw [eG, show k = fm by omega], by show G2 = _; rw [eG2, show k2 = 12 * fm by omega]⟩ hP9 hD9 hS
            · refine lv_aload_n hC.1 hC.2.1 d_Mo_adopt_49 rfl (lv_at hl 1 rfl) ?_
              refine z_get (ci := 5) (C := R_Mo) (T := F_Mo) (N := 21) (v := .ref qC) hC in_Mo hK hP 0 rfl rfl 4 (by decide) k_457 rfl d_Mo_adopt_50 ?_
              refine lv_iload_n hC.1 hC.2.1 d_Mo_adopt_53 rfl (lv_at hl 0 rfl) ?_
              refine lv_aload_n hC.1 hC.2.1 d_Mo_adopt_54 rfl (lv_at hl 1 rfl) ?_
              refine z_get (ci := 5) (C := R_Mo) (T := F_Mo) (N := 21) (v := .ref qF) hC in_Mo hK hP 0 rfl rfl 5 (by decide) k_458 rfl d_Mo_adopt_55 ?_
              refine lv_iload_n hC.1 hC.2.1 d_Mo_adopt_58 rfl (lv_at hl 0 rfl) ?_
              refine z_iald hC hK hP 3 rfl (by omega) d_Mo_adopt_59 ?_
              refine z_iast (ws' := [(o, .inr (5, [.int (iI cd), .int (iI fm), .int (iI lv), .ref qT, .ref qC, .ref qF, .ref qY, .ref qZ, .ref qu, .ref qv, .ref qw, .ref qg, .ref qh, .ref qx, .ref qc, .ref qa, .ref qb, .ref qd, .int (iI fm), .ref qp, .ref qq])), (qT, eI t.1 1200 G), (qC, eI t.1 14400 (uZ G2 k2 (Fr k2))), (qF, eI t.1 14400 Fr), (qY, eI t.1 1200 Yr)]) hC hK hP hD hS 2 rfl (by omega) rfl d_Mo_adopt_60 (fun H locs hP hD hS => ?_)
              refine lv_iinc (v := iI (k2 + 1)) (lv' := [(1, .int (iI (k2 + 1))), (0, .ref o)]) hC.1 hC.2.1 d_Mo_adopt_61 hl (k := 0) rfl (z_inc (by omega)) (by decide) rfl (fun ls hl => ?_)
              refine z_goto (tgt := 38) hC d_Mo_adopt_64 (by decide) ?_
              exact ih38 (uZ G2 k2 (Fr k2)) (k2 + 1) _ _ _ (by omega) (by omega) (by rw [eG2]; exact cpN_s (by omega)) (hP.sub (ws' := [(o, .inr (5, [.int (iI cd), .int (iI fm), .int (iI lv), .ref qT, .ref qC, .ref qF, .ref qY, .ref qZ, .ref qu, .ref qv, .ref qw, .ref qg, .ref qh, .ref qx, .ref qc, .ref qa, .ref qb, .ref qd, .int (iI fm), .ref qp, .ref qq])), (qT, eI t.1 1200 G), (qC, eI t.1 14400 (uZ G2 k2 (Fr k2))), (qF, eI t.1 14400 Fr), (qY, eI t.1 1200 Yr)]) [0, 1, 2, 3, 4] rfl) (hD.sub (ws' := [(o, .inr (5, [.int (iI cd), .int (iI fm), .int (iI lv), .ref qT, .ref qC, .ref qF, .ref qY, .ref qZ, .ref qu, .ref qv, .ref qw, .ref qg, .ref qh, .ref qx, .ref qc, .ref qa, .ref qb, .ref qd, .int (iI fm), .ref qp, .ref qq])), (qT, eI t.1 1200 G), (qC, eI t.1 14400 (uZ G2 k2 (Fr k2))), (qF, eI t.1 14400 Fr), (qY, eI t.1 1200 Yr)]) [0, 1, 2, 3, 4] (by decide) rfl) hS (lv_sub hl [0, 1] rfl)
        exact L38 (12 * fm - 0 + 1 : Int).toNat F 0 _ _ _ (by omega) (by omega) (cpN_0 Fr F).symm hP hD hS (lv_sub hl [0, 1] rfl)
      · refine lv_aload_n hC.1 hC.2.1 d_Mo_adopt_18 rfl (lv_at hl 1 rfl) ?_
        refine z_get (ci := 5) (C := R_Mo) (T := F_Mo) (N := 21) (v := .ref qT) hC in_Mo hK hP 0 rfl rfl 3 (by decide) k_456 rfl d_Mo_adopt_19 ?_
        refine lv_iload_n hC.1 hC.2.1 d_Mo_adopt_22 rfl (lv_at hl 0 rfl) ?_
        refine lv_aload_n hC.1 hC.2.1 d_Mo_adopt_23 rfl (lv_at hl 1 rfl) ?_
        refine z_get (ci := 5) (C := R_Mo) (T := F_Mo) (N := 21) (v := .ref qY) hC in_Mo hK hP 0 rfl rfl 6 (by decide) k_459 rfl d_Mo_adopt_24 ?_
        refine lv_iload_n hC.1 hC.2.1 d_Mo_adopt_27 rfl (lv_at hl 0 rfl) ?_
        refine z_iald hC hK hP 4 rfl (by omega) d_Mo_adopt_28 ?_
        refine z_iast (ws' := [(o, .inr (5, [.int (iI cd), .int (iI fm), .int (iI lv), .ref qT, .ref qC, .ref qF, .ref qY, .ref qZ, .ref qu, .ref qv, .ref qw, .ref qg, .ref qh, .ref qx, .ref qc, .ref qa, .ref qb, .ref qd, .int (iI fm), .ref qp, .ref qq])), (qT, eI t.1 1200 (uZ G k (Yr k))), (qC, eI t.1 14400 F), (qF, eI t.1 14400 Fr), (qY, eI t.1 1200 Yr)]) hC hK hP hD hS 1 rfl (by omega) rfl d_Mo_adopt_29 (fun H locs hP hD hS => ?_)
        refine lv_iinc (v := iI (k + 1)) (lv' := [(1, .int (iI (k + 1))), (0, .ref o)]) hC.1 hC.2.1 d_Mo_adopt_30 hl (k := 0) rfl (z_inc (by omega)) (by decide) rfl (fun ls hl => ?_)
        refine z_goto (tgt := 10) hC d_Mo_adopt_33 (by decide) ?_
        exact ih10 (uZ G k (Yr k)) (k + 1) _ _ _ (by omega) (by omega) (by rw [eG]; exact cpN_s (by omega)) (hP.sub (ws' := [(o, .inr (5, [.int (iI cd), .int (iI fm), .int (iI lv), .ref qT, .ref qC, .ref qF, .ref qY, .ref qZ, .ref qu, .ref qv, .ref qw, .ref qg, .ref qh, .ref qx, .ref qc, .ref qa, .ref qb, .ref qd, .int (iI fm), .ref qp, .ref qq])), (qT, eI t.1 1200 (uZ G k (Yr k))), (qC, eI t.1 14400 F), (qF, eI t.1 14400 Fr), (qY, eI t.1 1200 Yr)]) [0, 1, 2, 3, 4] rfl) (hD.sub (ws' := [(o, .inr (5, [.int (iI cd), .int (iI fm), .int (iI lv), .ref qT, .ref qC, .ref qF, .ref qY, .ref qZ, .ref qu, .ref qv, .ref qw, .ref qg, .ref qh, .ref qx, .ref qc, .ref qa, .ref qb, .ref qd, .int (iI fm), .ref qp, .ref qq])), (qT, eI t.1 1200 (uZ G k (Yr k))), (qC, eI t.1 14400 F), (qF, eI t.1 14400 Fr), (qY, eI t.1 1200 Yr)]) [0, 1, 2, 3, 4] (by decide) rfl) hS (lv_sub hl [0, 1] rfl)
  exact L10 (fm - 0 + 1 : Int).toNat T 0 _ _ _ (by omega) (by omega) (cpN_0 Yr T).symm hP hD hS (lv_sub hl [0, 1] rfl)
