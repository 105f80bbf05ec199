theorem ye_Mo_be : ye y_Mo_be R_Mo 2 := by unfold ye; decide +kernel
abbrev rm_Mo_be : Room := { frames := 0, cells := 0, slots := 0, locals := 0 }
set_option maxHeartbeats 4000000 in
set_option maxRecDepth 100000 in
theorem c_Mo_be (l : Launch) (D : va_G) (t : vt) (ts : Nat → Nat) (o qT qC qF qY qZ qu qv qw qg qh qx qc qa qb qd qp qq : Nat) (cd z lv fm : Int) (Wd : Int → Int) (x1 v : Int) (hx : 0 ≤ x1 ∧ x1 ≤ 5) (hv : 0 ≤ v ∧ v ≤ 9223372036854775807) (sz : Nat) : Met l y_Mo_be (.code y_Mo_be b_Mo_be 5 none :: tb_ws) rm_Mo_be (MP D t ts [.ref o, .int (iI x1), .long (lI v)] [(o, .inr (5, [.int (iI cd), .int (iI z), .int (iI lv), .ref qT, .ref qC, .ref qF, .ref qY, .ref qZ, .ref qu, .ref qv, .ref qw, .ref qg, .ref qh, .ref qx, .ref qc, .ref qa, .ref qb, .ref qd, .int (iI fm), .ref qp, .ref qq])), (qx, eL t.2.1 54 Wd)] sz) (va_Qv (fun u : Int → Int => bk u (9 * x1) v ∧ (∀ k, k < 9 * x1 ∨ 9 * x1 + 9 ≤ k → u k = Wd k)) (MB D (va_A [(o, .inr (5, [.int (iI cd), .int (iI z), .int (iI lv), .ref qT, .ref qC, .ref qF, .ref qY, .ref qZ, .ref qu, .ref qv, .ref qw, .ref qg, .ref qh, .ref qx, .ref qc, .ref qa, .ref qb, .ref qd, .int (iI fm), .ref qp, .ref qq])), (qx, eL t.2.1 54 Wd)] sz) (fun u : Int → Int => [(o, .inr (5, [.int (iI cd), .int (iI z), .int (iI lv), .ref qT, .ref qC, .ref qF, .ref qY, .ref qZ, .ref qu, .ref qv, .ref qw, .ref qg, .ref qh, .ref qx, .ref qc, .ref qa, .ref qb, .ref qd, .int (iI fm), .ref qp, .ref qq])), (qx, eL t.2.1 54 u)])) (va_A [(o, .inr (5, [.int (iI cd), .int (iI z), .int (iI lv), .ref qT, .ref qC, .ref qF, .ref qY, .ref qZ, .ref qu, .ref qv, .ref qw, .ref qg, .ref qh, .ref qx, .ref qc, .ref qa, .ref qb, .ref qd, .int (iI fm), .ref qp, .ref qq])), (qx, eL t.2.1 54 Wd)] sz)) 0 0 (va_A [(o, .inr (5, [.int (iI cd), .int (iI z), .int (iI lv), .ref qT, .ref qC, .ref qF, .ref qY, .ref qZ, .ref qu, .ref qv, .ref qw, .ref qg, .ref qh, .ref qx, .ref qc, .ref qa, .ref qb, .ref qd, .int (iI fm), .ref qp, .ref qq])), (qx, eL t.2.1 54 Wd)] sz) := by
  refine m_v (by decide +kernel) (Nat.le_of_ble_eq_true rfl) ?_
  intro zp ze zs zm zb zt zc zQ A ls hC hA hP hK hD hE hS hl ret
  have hl : lv_has ls 5 [(0, .ref o), (1, .int (iI x1)), (2, .long (lI v))] := hl
  refine z_iconst hC d_Mo_be_0 ?_
  refine lv_istore (lv' := [(4, .int (iI 0)), (0, .ref o), (1, .int (iI x1)), (2, .long (lI v))]) hC.1 hC.2.1 d_Mo_be_1 hl (by decide) rfl (fun ls hl => ?_)
  refine lv_iload hC.1 hC.2.1 d_Mo_be_3 (lv_at hl 0 rfl) ?_
  refine z_bipush hC d_Mo_be_5 (by decide) ?_
  refine z_icmp_ge (tgt := 49) hC d_Mo_be_7 (by decide) (by decide) (by decide) (fun h => absurd h (by decide)) (fun _ => ?_)
  refine lv_aload_n hC.1 hC.2.1 d_Mo_be_10 rfl (lv_at hl 1 rfl) ?_
  refine z_get (ci := 5) (C := R_Mo) (T := F_Mo) (N := 21) (v := .ref qx) hC in_Mo hK hP 0 rfl rfl 13 (by decide) k_466 rfl d_Mo_be_11 ?_
  refine z_bipush hC d_Mo_be_14 (by decide) ?_
  refine lv_iload_n hC.1 hC.2.1 d_Mo_be_16 rfl (lv_at hl 2 rfl) ?_
  refine z_imul hC d_Mo_be_17 ?_
  refine lv_iload hC.1 hC.2.1 d_Mo_be_18 (lv_at hl 0 rfl) ?_
  refine z_iadd hC d_Mo_be_20 ?_
  refine z_topi (z := 9 * x1) (by omega) ?_
  refine lv_iload hC.1 hC.2.1 d_Mo_be_21 (lv_at hl 0 rfl) ?_
  refine z_iconst hC d_Mo_be_23 ?_
  refine z_icmp_ge (tgt := 41) hC d_Mo_be_24 (by decide) (by decide) (by decide) (fun h => absurd h (by decide)) (fun _ => ?_)
  refine lv_lload_n hC.1 hC.2.1 d_Mo_be_27 rfl (lv_at hl 3 rfl) ?_
  refine z_bipush hC d_Mo_be_28 (by decide) ?_
  refine lv_iload hC.1 hC.2.1 d_Mo_be_30 (lv_at hl 0 rfl) ?_
  refine z_imul hC d_Mo_be_32 ?_
  refine z_topi (z := 0) (by omega) ?_
  refine z_lshr (z := v) hC (l_shr0 (by omega)) d_Mo_be_33 ?_
  refine z_ldc2 hC k_589 d_Mo_be_34 ?_
  refine z_land (z := (v % 16777216)) hC (l_mask24 _) d_Mo_be_37 ?_
  refine z_goto (tgt := 42) hC d_Mo_be_38 (by decide) ?_
  refine z_last (ws' := [(o, .inr (5, [.int (iI cd), .int (iI z), .int (iI lv), .ref qT, .ref qC, .ref qF, .ref qY, .ref qZ, .ref qu, .ref qv, .ref qw, .ref qg, .ref qh, .ref qx, .ref qc, .ref qa, .ref qb, .ref qd, .int (iI fm), .ref qp, .ref qq])), (qx, eL t.2.1 54 (uZ Wd (9 * x1) ((v % 16777216))))]) hC hK hP hD hS 1 rfl (by omega) rfl d_Mo_be_42 (fun H locs hP hD hS => ?_)
  refine lv_iinc (v := iI 1) (lv' := [(4, .int (iI 1)), (0, .ref o), (1, .int (iI x1)), (2, .long (lI v))]) hC.1 hC.2.1 d_Mo_be_43 hl (k := 0) rfl (z_inc (by omega)) (by decide) rfl (fun ls hl => ?_)
  refine z_goto (tgt := 3) hC d_Mo_be_46 (by decide) ?_
  refine lv_iload hC.1 hC.2.1 d_Mo_be_3 (lv_at hl 0 rfl) ?_
  refine z_bipush hC d_Mo_be_5 (by decide) ?_
  refine z_icmp_ge (tgt := 49) hC d_Mo_be_7 (by decide) (by decide) (by decide) (fun h => absurd h (by decide)) (fun _ => ?_)
  refine lv_aload_n hC.1 hC.2.1 d_Mo_be_10 rfl (lv_at hl 1 rfl) ?_
  refine z_get (ci := 5) (C := R_Mo) (T := F_Mo) (N := 21) (v := .ref qx) hC in_Mo hK hP 0 rfl rfl 13 (by decide) k_466 rfl d_Mo_be_11 ?_
  refine z_bipush hC d_Mo_be_14 (by decide) ?_
  refine lv_iload_n hC.1 hC.2.1 d_Mo_be_16 rfl (lv_at hl 2 rfl) ?_
  refine z_imul hC d_Mo_be_17 ?_
  refine lv_iload hC.1 hC.2.1 d_Mo_be_18 (lv_at hl 0 rfl) ?_
  refine z_iadd hC d_Mo_be_20 ?_
  refine z_topi (z := 9 * x1 + 1) (by omega) ?_
  refine lv_iload hC.1 hC.2.1 d_Mo_be_21 (lv_at hl 0 rfl) ?_
  refine z_iconst hC d_Mo_be_23 ?_
  refine z_icmp_ge (tgt := 41) hC d_Mo_be_24 (by decide) (by decide) (by decide) (fun h => absurd h (by decide)) (fun _ => ?_)
  refine lv_lload_n hC.1 hC.2.1 d_Mo_be_27 rfl (lv_at hl 3 rfl) ?_
  refine z_bipush hC d_Mo_be_28 (by decide) ?_
  refine lv_iload hC.1 hC.2.1 d_Mo_be_30 (lv_at hl 0 rfl) ?_
  refine z_imul hC d_Mo_be_32 ?_
  refine z_topi (z := 24) (by omega) ?_
  refine z_lshr (z := (v / 16777216)) hC (l_shr24 (by omega)) d_Mo_be_33 ?_
  refine z_ldc2 hC k_589 d_Mo_be_34 ?_
  refine z_land (z := (((v / 16777216)) % 16777216)) hC (l_mask24 _) d_Mo_be_37 ?_
  refine z_goto (tgt := 42) hC d_Mo_be_38 (by decide) ?_
  refine z_last (ws' := [(o, .inr (5, [.int (iI cd), .int (iI z), .int (iI lv), .ref qT, .ref qC, .ref qF, .ref qY, .ref qZ, .ref qu, .ref qv, .ref qw, .ref qg, .ref qh, .ref qx, .ref qc, .ref qa, .ref qb, .ref qd, .int (iI fm), .ref qp, .ref qq])), (qx, eL t.2.1 54 (uZ (uZ Wd (9 * x1) ((v % 16777216))) (9 * x1 + 1) ((((v / 16777216)) % 16777216))))]) hC hK hP hD hS 1 rfl (by omega) rfl d_Mo_be_42 (fun H locs hP hD hS => ?_)
  refine lv_iinc (v := iI 2) (lv' := [(4, .int (iI 2)), (0, .ref o), (1, .int (iI x1)), (2, .long (lI v))]) hC.1 hC.2.1 d_Mo_be_43 hl (k := 0) rfl (z_inc (by omega)) (by decide) rfl (fun ls hl => ?_)
  refine z_goto (tgt := 3) hC d_Mo_be_46 (by decide) ?_
  refine lv_iload hC.1 hC.2.1 d_Mo_be_3 (lv_at hl 0 rfl) ?_
  refine z_bipush hC d_Mo_be_5 (by decide) ?_
  refine z_icmp_ge (tgt := 49) hC d_Mo_be_7 (by decide) (by decide) (by decide) (fun h => absurd h (by decide)) (fun _ => ?_)
  refine lv_aload_n hC.1 hC.2.1 d_Mo_be_10 rfl (lv_at hl 1 rfl) ?_
  refine z_get (ci := 5) (C := R_Mo) (T := F_Mo) (N := 21) (v := .ref qx) hC in_Mo hK hP 0 rfl rfl 13 (by decide) k_466 rfl d_Mo_be_11 ?_
  refine z_bipush hC d_Mo_be_14 (by decide) ?_
  refine lv_iload_n hC.1 hC.2.1 d_Mo_be_16 rfl (lv_at hl 2 rfl) ?_
  refine z_imul hC d_Mo_be_17 ?_
  refine lv_iload hC.1 hC.2.1 d_Mo_be_18 (lv_at hl 0 rfl) ?_
  refine z_iadd hC d_Mo_be_20 ?_
  refine z_topi (z := 9 * x1 + 2) (by omega) ?_
  refine lv_iload hC.1 hC.2.1 d_Mo_be_21 (lv_at hl 0 rfl) ?_
  refine z_iconst hC d_Mo_be_23 ?_
  refine z_icmp_ge (tgt := 41) hC d_Mo_be_24 (by decide) (by decide) (by decide) (fun h => absurd h (by decide)) (fun _ => ?_)
  refine lv_lload_n hC.1 hC.2.1 d_Mo_be_27 rfl (lv_at hl 3 rfl) ?_
  refine z_bipush hC d_Mo_be_28 (by decide) ?_
  refine lv_iload hC.1 hC.2.1 d_Mo_be_30 (lv_at hl 0 rfl) ?_
  refine z_imul hC d_Mo_be_32 ?_
  refine z_topi (z := 48) (by omega) ?_
  refine z_lshr (z := (v / 281474976710656)) hC (l_shr48 (by omega)) d_Mo_be_33 ?_
  refine z_ldc2 hC k_589 d_Mo_be_34 ?_
  refine z_land (z := (((v / 281474976710656)) % 16777216)) hC (l_mask24 _) d_Mo_be_37 ?_
  refine z_goto (tgt := 42) hC d_Mo_be_38 (by decide) ?_
  refine z_last (ws' := [(o, .inr (5, [.int (iI cd), .int (iI z), .int (iI lv), .ref qT, .ref qC, .ref qF, .ref qY, .ref qZ, .ref qu, .ref qv, .ref qw, .ref qg, .ref qh, .ref qx, .ref qc, .ref qa, .ref qb, .ref qd, .int (iI fm), .ref qp, .ref qq])), (qx, eL t.2.1 54 (uZ (uZ (uZ Wd (9 * x1) ((v % 16777216))) (9 * x1 + 1) ((((v / 16777216)) % 16777216))) (9 * x1 + 2) ((((v / 281474976710656)) % 16777216))))]) hC hK hP hD hS 1 rfl (by omega) rfl d_Mo_be_42 (fun H locs hP hD hS => ?_)
  refine lv_iinc (v := iI 3) (lv' := [(4, .int (iI 3)), (0, .ref o), (1, .int (iI x1)), (2, .long (lI v))]) hC.1 hC.2.1 d_Mo_be_43 hl (k := 0) rfl (z_inc (by omega)) (by decide) rfl (fun ls hl => ?_)
  refine z_goto (tgt := 3) hC d_Mo_be_46 (by decide) ?_
  refine lv_iload hC.1 hC.2.1 d_Mo_be_3 (lv_at hl 0 rfl) ?_
  refine z_bipush hC d_Mo_be_5 (by decide) ?_
  refine z_icmp_ge (tgt := 49) hC d_Mo_be_7 (by decide) (by decide) (by decide) (fun h => absurd h (by decide)) (fun _ => ?_)
  refine lv_aload_n hC.1 hC.2.1 d_Mo_be_10 rfl (lv_at hl 1 rfl) ?_
  refine z_get (ci := 5) (C := R_Mo) (T := F_Mo) (N := 21) (v := .ref qx) hC in_Mo hK hP 0 rfl rfl 13 (by decide) k_466 rfl d_Mo_be_11 ?_
  refine z_bipush hC d_Mo_be_14 (by decide) ?_
  refine lv_iload_n hC.1 hC.2.1 d_Mo_be_16 rfl (lv_at hl 2 rfl) ?_
  refine z_imul hC d_Mo_be_17 ?_
  refine lv_iload hC.1 hC.2.1 d_Mo_be_18 (lv_at hl 0 rfl) ?_
  refine z_iadd hC d_Mo_be_20 ?_
  refine z_topi (z := 9 * x1 + 3) (by omega) ?_
  refine lv_iload hC.1 hC.2.1 d_Mo_be_21 (lv_at hl 0 rfl) ?_
  refine z_iconst hC d_Mo_be_23 ?_
  refine z_icmp_ge (tgt := 41) hC d_Mo_be_24 (by decide) (by decide) (by decide) (fun _ => ?_) (fun h => absurd h (by decide))
  refine z_lconst (v := 0) hC d_Mo_be_41 (by decide) ?_
  refine z_last (ws' := [(o, .inr (5, [.int (iI cd), .int (iI z), .int (iI lv), .ref qT, .ref qC, .ref qF, .ref qY, .ref qZ, .ref qu, .ref qv, .ref qw, .ref qg, .ref qh, .ref qx, .ref qc, .ref qa, .ref qb, .ref qd, .int (iI fm), .ref qp, .ref qq])), (qx, eL t.2.1 54 (uZ (uZ (uZ (uZ Wd (9 * x1) ((v % 16777216))) (9 * x1 + 1) ((((v / 16777216)) % 16777216))) (9 * x1 + 2) ((((v / 281474976710656)) % 16777216))) (9 * x1 + 3) 0))]) hC hK hP hD hS 1 rfl (by omega) rfl d_Mo_be_42 (fun H locs hP hD hS => ?_)
  refine lv_iinc (v := iI 4) (lv' := [(4, .int (iI 4)), (0, .ref o), (1, .int (iI x1)), (2, .long (lI v))]) hC.1 hC.2.1 d_Mo_be_43 hl (k := 0) rfl (z_inc (by omega)) (by decide) rfl (fun ls hl => ?_)
  refine z_goto (tgt := 3) hC d_Mo_be_46 (by decide) ?_
  refine lv_iload hC.1 hC.2.1 d_Mo_be_3 (lv_at hl 0 rfl) ?_
  refine z_bipush hC d_Mo_be_5 (by decide) ?_
  refine z_icmp_ge (tgt := 49) hC d_Mo_be_7 (by decide) (by decide) (by decide) (fun h => absurd h (by decide)) (fun _ => ?_)
  refine lv_aload_n hC.1 hC.2.1 d_Mo_be_10 rfl (lv_at hl 1 rfl) ?_
  refine z_get (ci := 5) (C := R_Mo) (T := F_Mo) (N := 21) (v := .ref qx) hC in_Mo hK hP 0 rfl rfl 13 (by decide) k_466 rfl d_Mo_be_11 ?_
  refine z_bipush hC d_Mo_be_14 (by decide) ?_
  refine lv_iload_n hC.1 hC.2.1 d_Mo_be_16 rfl (lv_at hl 2 rfl) ?_
  refine z_imul hC d_Mo_be_17 ?_
  refine lv_iload hC.1 hC.2.1 d_Mo_be_18 (lv_at hl 0 rfl) ?_
  refine z_iadd hC d_Mo_be_20 ?_
  refine z_topi (z := 9 * x1 + 4) (by omega) ?_
  refine lv_iload hC.1 hC.2.1 d_Mo_be_21 (lv_at hl 0 rfl) ?_
  refine z_iconst hC d_Mo_be_23 ?_
  refine z_icmp_ge (tgt := 41) hC d_Mo_be_24 (by decide) (by decide) (by decide) (fun _ => ?_) (fun h => absurd h (by decide))
  refine z_lconst (v := 0) hC d_Mo_be_41 (by decide) ?_
  refine z_last (ws' := [(o, .inr (5, [.int (iI cd), .int (iI z), .int (iI lv), .ref qT, .ref qC, .ref qF, .ref qY, .ref qZ, .ref qu, .ref qv, .ref qw, .ref qg, .ref qh, .ref qx, .ref qc, .ref qa, .ref qb, .ref qd, .int (iI fm), .ref qp, .ref qq])), (qx, eL t.2.1 54 (uZ (uZ (uZ (uZ (uZ Wd (9 * x1) ((v % 16777216))) (9 * x1 + 1) ((((v / 16777216)) % 16777216))) (9 * x1 + 2) ((((v / 281474976710656)) % 16777216))) (9 * x1 + 3) 0) (9 * x1 + 4) 0))]) hC hK hP hD hS 1 rfl (by omega) rfl d_Mo_be_42 (fun H locs hP hD hS => ?_)
  refine lv_iinc (v := iI 5) (lv' := [(4, .int (iI 5)), (0, .ref o), (1, .int (iI x1)), (2, .long (lI v))]) hC.1 hC.2.1 d_Mo_be_43 hl (k := 0) rfl (z_inc (by omega)) (by decide) rfl (fun ls hl => ?_)
  refine z_goto (tgt := 3) hC d_Mo_be_46 (by decide) ?_
  refine lv_iload hC.1 hC.2.1 d_Mo_be_3 (lv_at hl 0 rfl) ?_
  refine z_bipush hC d_Mo_be_5 (by decide) ?_
  refine z_icmp_ge (tgt := 49) hC d_Mo_be_7 (by decide) (by decide) (by decide) (fun h => absurd h (by decide)) (fun _ => ?_)
  refine lv_aload_n hC.1 hC.2.1 d_Mo_be_10 rfl (lv_at hl 1 rfl) ?_
  refine z_get (ci := 5) (C := R_Mo) (T := F_Mo) (N := 21) (v := .ref qx) hC in_Mo hK hP 0 rfl rfl 13 (by decide) k_466 rfl d_Mo_be_11 ?_
  refine z_bipush hC d_Mo_be_14 (by decide) ?_
  refine lv_iload_n hC.1 hC.2.1 d_Mo_be_16 rfl (lv_at hl 2 rfl) ?_
  refine z_imul hC d_Mo_be_17 ?_
  refine lv_iload hC.1 hC.2.1 d_Mo_be_18 (lv_at hl 0 rfl) ?_
  refine z_iadd hC d_Mo_be_20 ?_
  refine z_topi (z := 9 * x1 + 5) (by omega) ?_
  refine lv_iload hC.1 hC.2.1 d_Mo_be_21 (lv_at hl 0 rfl) ?_
  refine z_iconst hC d_Mo_be_23 ?_
  refine z_icmp_ge (tgt := 41) hC d_Mo_be_24 (by decide) (by decide) (by decide) (fun _ => ?_) (fun h => absurd h (by decide))
  refine z_lconst (v := 0) hC d_Mo_be_41 (by decide) ?_
  refine z_last (ws' := [(o, .inr (5, [.int (iI cd), .int (iI z), .int (iI lv), .ref qT, .ref qC, .ref qF, .ref qY, .ref qZ, .ref qu, .ref qv, .ref qw, .ref qg, .ref qh, .ref qx, .ref qc, .ref qa, .ref qb, .ref qd, .int (iI fm), .ref qp, .ref qq])), (qx, eL t.2.1 54 (uZ (uZ (uZ (uZ (uZ (uZ Wd (9 * x1) ((v % 16777216))) (9 * x1 + 1) ((((v / 16777216)) % 16777216))) (9 * x1 + 2) ((((v / 281474976710656)) % 16777216))) (9 * x1 + 3) 0) (9 * x1 + 4) 0) (9 * x1 + 5) 0))]) hC hK hP hD hS 1 rfl (by omega) rfl d_Mo_be_42 (fun H locs hP hD hS => ?_)
  refine lv_iinc (v := iI 6) (lv' := [(4, .int (iI 6)), (0, .ref o), (1, .int (iI x1)), (2, .long (lI v))]) hC.1 hC.2.1 d_Mo_be_43 hl (k := 0) rfl (z_inc (by omega)) (by decide) rfl (fun ls hl => ?_)
  refine z_goto (tgt := 3) hC d_Mo_be_46 (by decide) ?_
  refine lv_iload hC.1 hC.2.1 d_Mo_be_3 (lv_at hl 0 rfl) ?_
  refine z_bipush hC d_Mo_be_5 (by decide) ?_
  refine z_icmp_ge (tgt := 49) hC d_Mo_be_7 (by decide) (by decide) (by decide) (fun h => absurd h (by decide)) (fun _ => ?_)
  refine lv_aload_n hC.1 hC.2.1 d_Mo_be_10 rfl (lv_at hl 1 rfl) ?_
  refine z_get (ci := 5) (C := R_Mo) (T := F_Mo) (N := 21) (v := .ref qx) hC in_Mo hK hP 0 rfl rfl 13 (by decide) k_466 rfl d_Mo_be_11 ?_
  refine z_bipush hC d_Mo_be_14 (by decide) ?_
  refine lv_iload_n hC.1 hC.2.1 d_Mo_be_16 rfl (lv_at hl 2 rfl) ?_
  refine z_imul hC d_Mo_be_17 ?_
  refine lv_iload hC.1 hC.2.1 d_Mo_be_18 (lv_at hl 0 rfl) ?_
  refine z_iadd hC d_Mo_be_20 ?_
  refine z_topi (z := 9 * x1 + 6) (by omega) ?_
  refine lv_iload hC.1 hC.2.1 d_Mo_be_21 (lv_at hl 0 rfl) ?_
  refine z_iconst hC d_Mo_be_23 ?_
  refine z_icmp_ge (tgt := 41) hC d_Mo_be_24 (by decide) (by decide) (by decide) (fun _ => ?_) (fun h => absurd h (by decide))
  refine z_lconst (v := 0) hC d_Mo_be_41 (by decide) ?_
  refine z_last (ws' := [(o, .inr (5, [.int (iI cd), .int (iI z), .int (iI lv), .ref qT, .ref qC, .ref qF, .ref qY, .ref qZ, .ref qu, .ref qv, .ref qw, .ref qg, .ref qh, .ref qx, .ref qc, .ref qa, .ref qb, .ref qd, .int (iI fm), .ref qp, .ref qq])), (qx, eL t.2.1 54 (uZ (uZ (uZ (uZ (uZ (uZ (uZ Wd (9 * x1) ((v % 16777216))) (9 * x1 + 1) ((((v / 16777216)) % 16777216))) (9 * x1 + 2) ((((v / 281474976710656)) % 16777216))) (9 * x1 + 3) 0) (9 * x1 + 4) 0) (9 * x1 + 5) 0) (9 * x1 + 6) 0))]) hC hK hP hD hS 1 rfl (by omega) rfl d_Mo_be_42 (fun H locs hP hD hS => ?_)
  refine lv_iinc (v := iI 7) (lv' := [(4, .int (iI 7)), (0, .ref o), (1, .int (iI x1)), (2, .long (lI v))]) hC.1 hC.2.1 d_Mo_be_43 hl (k := 0) rfl (z_inc (by omega)) (by decide) rfl (fun ls hl => ?_)
  refine z_goto (tgt := 3) hC d_Mo_be_46 (by decide) ?_
  refine lv_iload hC.1 hC.2.1 d_Mo_be_3 (lv_at hl 0 rfl) ?_
  refine z_bipush hC d_Mo_be_5 (by decide) ?_
  refine z_icmp_ge (tgt := 49) hC d_Mo_be_7 (by decide) (by decide) (by decide) (fun h => absurd h (by decide)) (fun _ => ?_)
  refine lv_aload_n hC.1 hC.2.1 d_Mo_be_10 rfl (lv_at hl 1 rfl) ?_
  refine z_get (ci := 5) (C := R_Mo) (T := F_Mo) (N := 21) (v := .ref qx) hC in_Mo hK hP 0 rfl rfl 13 (by decide) k_466 rfl d_Mo_be_11 ?_
  refine z_bipush hC d_Mo_be_14 (by decide) ?_
  refine lv_iload_n hC.1 hC.2.1 d_Mo_be_16 rfl (lv_at hl 2 rfl) ?_
  refine z_imul hC d_Mo_be_17 ?_
  refine lv_iload hC.1 hC.2.1 d_Mo_be_18 (lv_at hl 0 rfl) ?_
  refine z_iadd hC d_Mo_be_20 ?_
  refine z_topi (z := 9 * x1 + 7) (by omega) ?_
  refine lv_iload hC.1 hC.2.1 d_Mo_be_21 (lv_at hl 0 rfl) ?_
  refine z_iconst hC d_Mo_be_23 ?_
  refine z_icmp_ge (tgt := 41) hC d_Mo_be_24 (by decide) (by decide) (by decide) (fun _ => ?_) (fun h => absurd h (by decide))
  refine z_lconst (v := 0) hC d_Mo_be_41 (by decide) ?_
  refine z_last (ws' := [(o, .inr (5, [.int (iI cd), .int (iI z), .int (iI lv), .ref qT, .ref qC, .ref qF, .ref qY, .ref qZ, .ref qu, .ref qv, .ref qw, .ref qg, .ref qh, .ref qx, .ref qc, .ref qa, .ref qb, .ref qd, .int (iI fm), .ref qp, .ref qq])), (qx, eL t.2.1 54 (uZ (uZ (uZ (uZ (uZ (uZ (uZ (uZ Wd (9 * x1) ((v % 16777216))) (9 * x1 + 1) ((((v / 16777216)) % 16777216))) (9 * x1 + 2) ((((v / 281474976710656)) % 16777216))) (9 * x1 + 3) 0) (9 * x1 + 4) 0) (9 * x1 + 5) 0) (9 * x1 + 6) 0) (9 * x1 + 7) 0))]) hC hK hP hD hS 1 rfl (by omega) rfl d_Mo_be_42 (fun H locs hP hD hS => ?_)
  refine lv_iinc (v := iI 8) (lv' := [(4, .int (iI 8)), (0, .ref o), (1, .int (iI x1)), (2, .long (lI v))]) hC.1 hC.2.1 d_Mo_be_43 hl (k := 0) rfl (z_inc (by omega)) (by decide) rfl (fun ls hl => ?_)
  refine z_goto (tgt := 3) hC d_Mo_be_46 (by decide) ?_
  refine lv_iload hC.1 hC.2.1 d_Mo_be_3 (lv_at hl 0 rfl) ?_
  refine z_bipush hC d_Mo_be_5 (by decide) ?_
  refine z_icmp_ge (tgt := 49) hC d_Mo_be_7 (by decide) (by decide) (by decide) (fun h => absurd h (by decide)) (fun _ => ?_)
  refine lv_aload_n hC.1 hC.2.1 d_Mo_be_10 rfl (lv_at hl 1 rfl) ?_
  refine z_get (ci := 5) (C := R_Mo) (T := F_Mo) (N := 21) (v := .ref qx) hC in_Mo hK hP 0 rfl rfl 13 (by decide) k_466 rfl d_Mo_be_11 ?_
  refine z_bipush hC d_Mo_be_14 (by decide) ?_
  refine lv_iload_n hC.1 hC.2.1 d_Mo_be_16 rfl (lv_at hl 2 rfl) ?_
  refine z_imul hC d_Mo_be_17 ?_
  refine lv_iload hC.1 hC.2.1 d_Mo_be_18 (lv_at hl 0 rfl) ?_
  refine z_iadd hC d_Mo_be_20 ?_
  refine z_topi (z := 9 * x1 + 8) (by omega) ?_
  refine lv_iload hC.1 hC.2.1 d_Mo_be_21 (lv_at hl 0 rfl) ?_
  refine z_iconst hC d_Mo_be_23 ?_
  refine z_icmp_ge (tgt := 41) hC d_Mo_be_24 (by decide) (by decide) (by decide) (fun _ => ?_) (fun h => absurd h (by decide))
  refine z_lconst (v := 0) hC d_Mo_be_41 (by decide) ?_
  refine z_last (ws' := [(o, .inr (5, [.int (iI cd), .int (iI z), .int (iI lv), .ref qT, .ref qC, .ref qF, .ref qY, .ref qZ, .ref qu, .ref qv, .ref qw, .ref qg, .ref qh, .ref qx, .ref qc, .ref qa, .ref qb, .ref qd, .int (iI fm), .ref qp, .ref qq])), (qx, eL t.2.1 54 (uZ (uZ (uZ (uZ (uZ (uZ (uZ (uZ (uZ Wd (9 * x1) ((v % 16777216))) (9 * x1 + 1) ((((v / 16777216)) % 16777216))) (9 * x1 + 2) ((((v / 281474976710656)) % 16777216))) (9 * x1 + 3) 0) (9 * x1 + 4) 0) (9 * x1 + 5) 0) (9 * x1 + 6) 0) (9 * x1 + 7) 0) (9 * x1 + 8) 0))]) hC hK hP hD hS 1 rfl (by omega) rfl d_Mo_be_42 (fun H locs hP hD hS => ?_)
  refine lv_iinc (v := iI 9) (lv' := [(4, .int (iI 9)), (0, .ref o), (1, .int (iI x1)), (2, .long (lI v))]) hC.1 hC.2.1 d_Mo_be_43 hl (k := 0) rfl (z_inc (by omega)) (by decide) rfl (fun ls hl => ?_)
  refine z_goto (tgt := 3) hC d_Mo_be_46 (by decide) ?_
  refine lv_iload hC.1 hC.2.1 d_Mo_be_3 (lv_at hl 0 rfl) ?_
  refine z_bipush hC d_Mo_be_5 (by decide) ?_
  refine z_icmp_ge (tgt := 49) hC d_Mo_be_7 (by decide) (by decide) (by decide) (fun _ => ?_) (fun h => absurd h (by decide))
  have hP9 := hP.sub (ws' := [(o, .inr (5, [.int (iI cd), .int (iI z), .int (iI lv), .ref qT, .ref qC, .ref qF, .ref qY, .ref qZ, .ref qu, .ref qv, .ref qw, .ref qg, .ref qh, .ref qx, .ref qc, .ref qa, .ref qb, .ref qd, .int (iI fm), .ref qp, .ref qq])), (qx, eL t.2.1 54 (uZ (uZ (uZ (uZ (uZ (uZ (uZ (uZ (uZ Wd (9 * x1) ((v % 16777216))) (9 * x1 + 1) ((((v / 16777216)) % 16777216))) (9 * x1 + 2) ((((v / 281474976710656)) % 16777216))) (9 * x1 + 3) 0) (9 * x1 + 4) 0) (9 * x1 + 5) 0) (9 * x1 + 6) 0) (9 * x1 + 7) 0) (9 * x1 + 8) 0))]) [0, 1] rfl
  have hD9 := hD.sub (ws' := [(o, .inr (5, [.int (iI cd), .int (iI z), .int (iI lv), .ref qT, .ref qC, .ref qF, .ref qY, .ref qZ, .ref qu, .ref qv, .ref qw, .ref qg, .ref qh, .ref qx, .ref qc, .ref qa, .ref qb, .ref qd, .int (iI fm), .ref qp, .ref qq])), (qx, eL t.2.1 54 (uZ (uZ (uZ (uZ (uZ (uZ (uZ (uZ (uZ Wd (9 * x1) ((v % 16777216))) (9 * x1 + 1) ((((v / 16777216)) % 16777216))) (9 * x1 + 2) ((((v / 281474976710656)) % 16777216))) (9 * x1 + 3) 0) (9 * x1 + 4) 0) (9 * x1 + 5) 0) (9 * x1 + 6) 0) (9 * x1 + 7) 0) (9 * x1 + 8) 0))]) [0, 1] (by decide) rfl
  exact ret (uZ (uZ (uZ (uZ (uZ (uZ (uZ (uZ (uZ Wd (9 * x1) ((v % 16777216))) (9 * x1 + 1) ((((v / 16777216)) % 16777216))) (9 * x1 + 2) ((((v / 281474976710656)) % 16777216))) (9 * x1 + 3) 0) (9 * x1 + 4) 0) (9 * x1 + 5) 0) (9 * x1 + 6) 0) (9 * x1 + 7) 0) (9 * x1 + 8) 0) _ _ 49 _ d_Mo_be_49 (be_lem Wd x1 hv) hP9 hD9 hS
theorem ye_Mo_product : ye y_Mo_product R_Mo 3 := by unfold ye; decide +kernel
abbrev rm_Mo_product : Room := { frames := 0, cells := 0, slots := 0, locals := 0 }
set_option maxHeartbeats 4000000 in
set_option maxRecDepth 100000 in
theorem c_Mo_product (l : Launch) (D : va_G) (t : vt) (ts : Nat → Nat) (o qT qC qF qY qZ qu qv qw qg qh qx qc qa qb qd qp qq : Nat) (cd z lv fm : Int) (Wd : Int → Int) (x1 x2 x3 A1 C : Int) (hx1 : 0 ≤ x1 ∧ x1 ≤ 5) (hx2 : 0 ≤ x2 ∧ x2 ≤ 5) (hx3 : 0 ≤ x3 ∧ x3 ≤ 5) (hxy : x1 ≠ x2) (hxz : x1 ≠ x3) (hy : bk Wd (9 * x2) A1) (hz : bk Wd (9 * x3) C) (hA1 : 0 ≤ A1) (hCC : 0 ≤ C) (hAC : A1 * C < 16777216 ^ 9) (sz : Nat) : Met l y_Mo_product (.code y_Mo_product b_Mo_product 10 none :: tb_ws) rm_Mo_product (MP D t ts [.ref o, .int (iI x1), .int (iI x2), .int (iI x3)] [(o, .inr (5, [.int (iI cd), .int (iI z), .int (iI lv), .ref qT, .ref qC, .ref qF, .ref qY, .ref qZ, .ref qu, .ref qv, .ref qw, .ref qg, .ref qh, .ref qx, .ref qc, .ref qa, .ref qb, .ref qd, .int (iI fm), .ref qp, .ref qq])), (qx, eL t.2.1 54 Wd)] sz) (va_Qv (fun u : Int → Int => bk u (9 * x1) (A1 * C) ∧ (∀ k, k < 9 * x1 ∨ 9 * x1 + 9 ≤ k → u k = Wd k)) (MB D (va_A [(o, .inr (5, [.int (iI cd), .int (iI z), .int (iI lv), .ref qT, .ref qC, .ref qF, .ref qY, .ref qZ, .ref qu, .ref qv, .ref qw, .ref qg, .ref qh, .ref qx, .ref qc, .ref qa, .ref qb, .ref qd, .int (iI fm), .ref qp, .ref qq])), (qx, eL t.2.1 54 Wd)] sz) (fun u : Int → Int => [(o, .inr (5, [.int (iI cd), .int (iI z), .int (iI lv), .ref qT, .ref qC, .ref qF, .ref qY, .ref qZ, .ref qu, .ref qv, .ref qw, .ref qg, .ref qh, .ref qx, .ref qc, .ref qa, .ref qb, .ref qd, .int (iI fm), .ref qp, .ref qq])), (qx, eL t.2.1 54 u)])) (va_A [(o, .inr (5, [.int (iI cd), .int (iI z), .int (iI lv), .ref qT, .ref qC, .ref qF, .ref qY, .ref qZ, .ref qu, .ref qv, .ref qw, .ref qg, .ref qh, .ref qx, .ref qc, .ref qa, .ref qb, .ref qd, .int (iI fm), .ref qp, .ref qq])), (qx, eL t.2.1 54 Wd)] sz)) 0 0 (va_A [(o, .inr (5, [.int (iI cd), .int (iI z), .int (iI lv), .ref qT, .ref qC, .ref qF, .ref qY, .ref qZ, .ref qu, .ref qv, .ref qw, .ref qg, .ref qh, .ref qx, .ref qc, .ref qa, .ref qb, .ref qd, .int (iI fm), .ref qp, .ref qq])), (qx, eL t.2.1 54 Wd)] sz) := by
  refine m_v (by decide +kernel) (Nat.le_of_ble_eq_true rfl) ?_
  intro zp ze zs zm zb zt zc zQ A ls hC hA hP hK hD hE hS hl ret
  have hl : lv_has ls 10 [(0, .ref o), (1, .int (iI x1)), (2, .int (iI x2)), (3, .int (iI x3))] := hl
  refine z_iconst hC d_Mo_product_0 ?_
  refine lv_istore (lv' := [(4, .int (iI 0)), (0, .ref o), (1, .int (iI x1)), (2, .int (iI x2)), (3, .int (iI x3))]) hC.1 hC.2.1 d_Mo_product_1 hl (by decide) rfl (fun ls hl => ?_)
  refine lv_iload hC.1 hC.2.1 d_Mo_product_3 (lv_at hl 0 rfl) ?_
  refine z_bipush hC d_Mo_product_5 (by decide) ?_
  refine z_icmp_ge (tgt := 29) hC d_Mo_product_7 (by decide) (by decide) (by decide) (fun h => absurd h (by decide)) (fun _ => ?_)
  refine lv_aload_n hC.1 hC.2.1 d_Mo_product_10 rfl (lv_at hl 1 rfl) ?_
  refine z_get (ci := 5) (C := R_Mo) (T := F_Mo) (N := 21) (v := .ref qx) hC in_Mo hK hP 0 rfl rfl 13 (by decide) k_466 rfl d_Mo_product_11 ?_
  refine z_bipush hC d_Mo_product_14 (by decide) ?_
  refine lv_iload_n hC.1 hC.2.1 d_Mo_product_16 rfl (lv_at hl 2 rfl) ?_
  refine z_imul hC d_Mo_product_17 ?_
  refine lv_iload hC.1 hC.2.1 d_Mo_product_18 (lv_at hl 0 rfl) ?_
  refine z_iadd hC d_Mo_product_20 ?_
  refine z_topi (z := 9 * x1) (by omega) ?_
  refine z_lconst (v := 0) hC d_Mo_product_21 (by decide) ?_
  refine z_last (ws' := [(o, .inr (5, [.int (iI cd), .int (iI z), .int (iI lv), .ref qT, .ref qC, .ref qF, .ref qY, .ref qZ, .ref qu, .ref qv, .ref qw, .ref qg, .ref qh, .ref qx, .ref qc, .ref qa, .ref qb, .ref qd, .int (iI fm), .ref qp, .ref qq])), (qx, eL t.2.1 54 (uZ Wd (9 * x1) 0))]) hC hK hP hD hS 1 rfl (by omega) rfl d_Mo_product_22 (fun H locs hP hD hS => ?_)
  refine lv_iinc (v := iI 1) (lv' := [(4, .int (iI 1)), (0, .ref o), (1, .int (iI x1)), (2, .int (iI x2)), (3, .int (iI x3))]) hC.1 hC.2.1 d_Mo_product_23 hl (k := 0) rfl (z_inc (by omega)) (by decide) rfl (fun ls hl => ?_)
  refine z_goto (tgt := 3) hC d_Mo_product_26 (by decide) ?_
  refine lv_iload hC.1 hC.2.1 d_Mo_product_3 (lv_at hl 0 rfl) ?_
  refine z_bipush hC d_Mo_product_5 (by decide) ?_
  refine z_icmp_ge (tgt := 29) hC d_Mo_product_7 (by decide) (by decide) (by decide) (fun h => absurd h (by decide)) (fun _ => ?_)
  refine lv_aload_n hC.1 hC.2.1 d_Mo_product_10 rfl (lv_at hl 1 rfl) ?_
  refine z_get (ci := 5) (C := R_Mo) (T := F_Mo) (N := 21) (v := .ref qx) hC in_Mo hK hP 0 rfl rfl 13 (by decide) k_466 rfl d_Mo_product_11 ?_
  refine z_bipush hC d_Mo_product_14 (by decide) ?_
  refine lv_iload_n hC.1 hC.2.1 d_Mo_product_16 rfl (lv_at hl 2 rfl) ?_
  refine z_imul hC d_Mo_product_17 ?_
  refine lv_iload hC.1 hC.2.1 d_Mo_product_18 (lv_at hl 0 rfl) ?_
  refine z_iadd hC d_Mo_product_20 ?_
  refine z_topi (z := 9 * x1 + 1) (by omega) ?_
  refine z_lconst (v := 0) hC d_Mo_product_21 (by decide) ?_
  refine z_last (ws' := [(o, .inr (5, [.int (iI cd), .int (iI z), .int (iI lv), .ref qT, .ref qC, .ref qF, .ref qY, .ref qZ, .ref qu, .ref qv, .ref qw, .ref qg, .ref qh, .ref qx, .ref qc, .ref qa, .ref qb, .ref qd, .int (iI fm), .ref qp, .ref qq])), (qx, eL t.2.1 54 (uZ (uZ Wd (9 * x1) 0) (9 * x1 + 1) 0))]) hC hK hP hD hS 1 rfl (by omega) rfl d_Mo_product_22 (fun H locs hP hD hS => ?_)
  refine lv_iinc (v := iI 2) (lv' := [(4, .int (iI 2)), (0, .ref o), (1, .int (iI x1)), (2, .int (iI x2)), (3, .int (iI x3))]) hC.1 hC.2.1 d_Mo_product_23 hl (k := 0) rfl (z_inc (by omega)) (by decide) rfl (fun ls hl => ?_)
  refine z_goto (tgt := 3) hC d_Mo_product_26 (by decide) ?_
  refine lv_iload hC.1 hC.2.1 d_Mo_product_3 (lv_at hl 0 rfl) ?_
  refine z_bipush hC d_Mo_product_5 (by decide) ?_
  refine z_icmp_ge (tgt := 29) hC d_Mo_product_7 (by decide) (by decide) (by decide) (fun h => absurd h (by decide)) (fun _ => ?_)
  refine lv_aload_n hC.1 hC.2.1 d_Mo_product_10 rfl (lv_at hl 1 rfl) ?_
  refine z_get (ci := 5) (C := R_Mo) (T := F_Mo) (N := 21) (v := .ref qx) hC in_Mo hK hP 0 rfl rfl 13 (by decide) k_466 rfl d_Mo_product_11 ?_
  refine z_bipush hC d_Mo_product_14 (by decide) ?_
  refine lv_iload_n hC.1 hC.2.1 d_Mo_product_16 rfl (lv_at hl 2 rfl) ?_
  refine z_imul hC d_Mo_product_17 ?_
  refine lv_iload hC.1 hC.2.1 d_Mo_product_18 (lv_at hl 0 rfl) ?_
  refine z_iadd hC d_Mo_product_20 ?_
  refine z_topi (z := 9 * x1 + 2) (by omega) ?_
  refine z_lconst (v := 0) hC d_Mo_product_21 (by decide) ?_
  refine z_last (ws' := [(o, .inr (5, [.int (iI cd), .int (iI z), .int (iI lv), .ref qT, .ref qC, .ref qF, .ref qY, .ref qZ, .ref qu, .ref qv, .ref qw, .ref qg, .ref qh, .ref qx, .ref qc, .ref qa, .ref qb, .ref qd, .int (iI fm), .ref qp, .ref qq])), (qx, eL t.2.1 54 (uZ (uZ (uZ Wd (9 * x1) 0) (9 * x1 + 1) 0) (9 * x1 + 2) 0))]) hC hK hP hD hS 1 rfl (by omega) rfl d_Mo_product_22 (fun H locs hP hD hS => ?_)
  refine lv_iinc (v := iI 3) (lv' := [(4, .int (iI 3)), (0, .ref o), (1, .int (iI x1)), (2, .int (iI x2)), (3, .int (iI x3))]) hC.1 hC.2.1 d_Mo_product_23 hl (k := 0) rfl (z_inc (by omega)) (by decide) rfl (fun ls hl => ?_)
  refine z_goto (tgt := 3) hC d_Mo_product_26 (by decide) ?_
  refine lv_iload hC.1 hC.2.1 d_Mo_product_3 (lv_at hl 0 rfl) ?_
  refine z_bipush hC d_Mo_product_5 (by decide) ?_
  refine z_icmp_ge (tgt := 29) hC d_Mo_product_7 (by decide) (by decide) (by decide) (fun h => absurd h (by decide)) (fun _ => ?_)
  refine lv_aload_n hC.1 hC.2.1 d_Mo_product_10 rfl (lv_at hl 1 rfl) ?_
  refine z_get (ci := 5) (C := R_Mo) (T := F_Mo) (N := 21) (v := .ref qx) hC in_Mo hK hP 0 rfl rfl 13 (by decide) k_466 rfl d_Mo_product_11 ?_
  refine z_bipush hC d_Mo_product_14 (by decide) ?_
  refine lv_iload_n hC.1 hC.2.1 d_Mo_product_16 rfl (lv_at hl 2 rfl) ?_
  refine z_imul hC d_Mo_product_17 ?_
  refine lv_iload hC.1 hC.2.1 d_Mo_product_18 (lv_at hl 0 rfl) ?_
  refine z_iadd hC d_Mo_product_20 ?_
  refine z_topi (z := 9 * x1 + 3) (by omega) ?_
  refine z_lconst (v := 0) hC d_Mo_product_21 (by decide) ?_
  refine z_last (ws' := [(o, .inr (5, [.int (iI cd), .int (iI z), .int (iI lv), .ref qT, .ref qC, .ref qF, .ref qY, .ref qZ, .ref qu, .ref qv, .ref qw, .ref qg, .ref qh, .ref qx, .ref qc, .ref qa, .ref qb, .ref qd, .int (iI fm), .ref qp, .ref qq])), (qx, eL t.2.1 54 (uZ (uZ (uZ (uZ Wd (9 * x1) 0) (9 * x1 + 1) 0) (9 * x1 + 2) 0) (9 * x1 + 3) 0))]) hC hK hP hD hS 1 rfl (by omega) rfl d_Mo_product_22 (fun H locs hP hD hS => ?_)
  refine lv_iinc (v := iI 4) (lv' := [(4, .int (iI 4)), (0, .ref o), (1, .int (iI x1)), (2, .int (iI x2)), (3, .int (iI x3))]) hC.1 hC.2.1 d_Mo_product_23 hl (k := 0) rfl (z_inc (by omega)) (by decide) rfl (fun ls hl => ?_)
  refine z_goto (tgt := 3) hC d_Mo_product_26 (by decide) ?_
  refine lv_iload hC.1 hC.2.1 d_Mo_product_3 (lv_at hl 0 rfl) ?_
  refine z_bipush hC d_Mo_product_5 (by decide) ?_
  refine z_icmp_ge (tgt := 29) hC d_Mo_product_7 (by decide) (by decide) (by decide) (fun h => absurd h (by decide)) (fun _ => ?_)
  refine lv_aload_n hC.1 hC.2.1 d_Mo_product_10 rfl (lv_at hl 1 rfl) ?_
  refine z_get (ci := 5) (C := R_Mo) (T := F_Mo) (N := 21) (v := .ref qx) hC in_Mo hK hP 0 rfl rfl 13 (by decide) k_466 rfl d_Mo_product_11 ?_
  refine z_bipush hC d_Mo_product_14 (by decide) ?_
  refine lv_iload_n hC.1 hC.2.1 d_Mo_product_16 rfl (lv_at hl 2 rfl) ?_
  refine z_imul hC d_Mo_product_17 ?_
  refine lv_iload hC.1 hC.2.1 d_Mo_product_18 (lv_at hl 0 rfl) ?_
  refine z_iadd hC d_Mo_product_20 ?_
  refine z_topi (z := 9 * x1 + 4) (by omega) ?_
  refine z_lconst (v := 0) hC d_Mo_product_21 (by decide) ?_
  refine z_last (ws' := [(o, .inr (5, [.int (iI cd), .int (iI z), .int (iI lv), .ref qT, .ref qC, .ref qF, .ref qY, .ref qZ, .ref qu, .ref qv, .ref qw, .ref qg, .ref qh, .ref qx, .ref qc, .ref qa, .ref qb, .ref qd, .int (iI fm), .ref qp, .ref qq])), (qx, eL t.2.1 54 (uZ (uZ (uZ (uZ (uZ Wd (9 * x1) 0) (9 * x1 + 1) 0) (9 * x1 + 2) 0) (9 * x1 + 3) 0) (9 * x1 + 4) 0))]) hC hK hP hD hS 1 rfl (by omega) rfl d_Mo_product_22 (fun H locs hP hD hS => ?_)
  refine lv_iinc (v := iI 5) (lv' := [(4, .int (iI 5)), (0, .ref o), (1, .int (iI x1)), (2, .int (iI x2)), (3, .int (iI x3))]) hC.1 hC.2.1 d_Mo_product_23 hl (k := 0) rfl (z_inc (by omega)) (by decide) rfl (fun ls hl => ?_)
  refine z_goto (tgt := 3) hC d_Mo_product_26 (by decide) ?_
  refine lv_iload hC.1 hC.2.1 d_Mo_product_3 (lv_at hl 0 rfl) ?_
  refine z_bipush hC d_Mo_product_5 (by decide) ?_
  refine z_icmp_ge (tgt := 29) hC d_Mo_product_7 (by decide) (by decide) (by decide) (fun h => absurd h (by decide)) (fun _ => ?_)
  refine lv_aload_n hC.1 hC.2.1 d_Mo_product_10 rfl (lv_at hl 1 rfl) ?_
  refine z_get (ci := 5) (C := R_Mo) (T := F_Mo) (N := 21) (v := .ref qx) hC in_Mo hK hP 0 rfl rfl 13 (by decide) k_466 rfl d_Mo_product_11 ?_
  refine z_bipush hC d_Mo_product_14 (by decide) ?_
  refine lv_iload_n hC.1 hC.2.1 d_Mo_product_16 rfl (lv_at hl 2 rfl) ?_
  refine z_imul hC d_Mo_product_17 ?_
  refine lv_iload hC.1 hC.2.1 d_Mo_product_18 (lv_at hl 0 rfl) ?_
  refine z_iadd hC d_Mo_product_20 ?_
  refine z_topi (z := 9 * x1 + 5) (by omega) ?_
  refine z_lconst (v := 0) hC d_Mo_product_21 (by decide) ?_
  refine z_last (ws' := [(o, .inr (5, [.int (iI cd), .int (iI z), .int (iI lv), .ref qT, .ref qC, .ref qF, .ref qY, .ref qZ, .ref qu, .ref qv, .ref qw, .ref qg, .ref qh, .ref qx, .ref qc, .ref qa, .ref qb, .ref qd, .int (iI fm), .ref qp, .ref qq])), (qx, eL t.2.1 54 (uZ (uZ (uZ (uZ (uZ (uZ Wd (9 * x1) 0) (9 * x1 + 1) 0) (9 * x1 + 2) 0) (9 * x1 + 3) 0) (9 * x1 + 4) 0) (9 * x1 + 5) 0))]) hC hK hP hD hS 1 rfl (by omega) rfl d_Mo_product_22 (fun H locs hP hD hS => ?_)
  refine lv_iinc (v := iI 6) (lv' := [(4, .int (iI 6)), (0, .ref o), (1, .int (iI x1)), (2, .int (iI x2)), (3, .int (iI x3))]) hC.1 hC.2.1 d_Mo_product_23 hl (k := 0) rfl (z_inc (by omega)) (by decide) rfl (fun ls hl => ?_)
  refine z_goto (tgt := 3) hC d_Mo_product_26 (by decide) ?_
  refine lv_iload hC.1 hC.2.1 d_Mo_product_3 (lv_at hl 0 rfl) ?_
  refine z_bipush hC d_Mo_product_5 (by decide) ?_
  refine z_icmp_ge (tgt := 29) hC d_Mo_product_7 (by decide) (by decide) (by decide) (fun h => absurd h (by decide)) (fun _ => ?_)
  refine lv_aload_n hC.1 hC.2.1 d_Mo_product_10 rfl (lv_at hl 1 rfl) ?_
  refine z_get (ci := 5) (C := R_Mo) (T := F_Mo) (N := 21) (v := .ref qx) hC in_Mo hK hP 0 rfl rfl 13 (by decide) k_466 rfl d_Mo_product_11 ?_
  refine z_bipush hC d_Mo_product_14 (by decide) ?_
  refine lv_iload_n hC.1 hC.2.1 d_Mo_product_16 rfl (lv_at hl 2 rfl) ?_
  refine z_imul hC d_Mo_product_17 ?_
  refine lv_iload hC.1 hC.2.1 d_Mo_product_18 (lv_at hl 0 rfl) ?_
  refine z_iadd hC d_Mo_product_20 ?_
  refine z_topi (z := 9 * x1 + 6) (by omega) ?_
  refine z_lconst (v := 0) hC d_Mo_product_21 (by decide) ?_
  refine z_last (ws' := [(o, .inr (5, [.int (iI cd), .int (iI z), .int (iI lv), .ref qT, .ref qC, .ref qF, .ref qY, .ref qZ, .ref qu, .ref qv, .ref qw, .ref qg, .ref qh, .ref qx, .ref qc, .ref qa, .ref qb, .ref qd, .int (iI fm), .ref qp, .ref qq])), (qx, eL t.2.1 54 (uZ (uZ (uZ (uZ (uZ (uZ (uZ Wd (9 * x1) 0) (9 * x1 + 1) 0) (9 * x1 + 2) 0) (9 * x1 + 3) 0) (9 * x1 + 4) 0) (9 * x1 + 5) 0) (9 * x1 + 6) 0))]) hC hK hP hD hS 1 rfl (by omega) rfl d_Mo_product_22 (fun H locs hP hD hS => ?_)
  refine lv_iinc (v := iI 7) (lv' := [(4, .int (iI 7)), (0, .ref o), (1, .int (iI x1)), (2, .int (iI x2)), (3, .int (iI x3))]) hC.1 hC.2.1 d_Mo_product_23 hl (k := 0) rfl (z_inc (by omega)) (by decide) rfl (fun ls hl => ?_)
  refine z_goto (tgt := 3) hC d_Mo_product_26 (by decide) ?_
  refine lv_iload hC.1 hC.2.1 d_Mo_product_3 (lv_at hl 0 rfl) ?_
  refine z_bipush hC d_Mo_product_5 (by decide) ?_
  refine z_icmp_ge (tgt := 29) hC d_Mo_product_7 (by decide) (by decide) (by decide) (fun h => absurd h (by decide)) (fun _ => ?_)
  refine lv_aload_n hC.1 hC.2.1 d_Mo_product_10 rfl (lv_at hl 1 rfl) ?_
  refine z_get (ci := 5) (C := R_Mo) (T := F_Mo) (N := 21) (v := .ref qx) hC in_Mo hK hP 0 rfl rfl 13 (by decide) k_466 rfl d_Mo_product_11 ?_
  refine z_bipush hC d_Mo_product_14 (by decide) ?_
  refine lv_iload_n hC.1 hC.2.1 d_Mo_product_16 rfl (lv_at hl 2 rfl) ?_
  refine z_imul hC d_Mo_product_17 ?_
  refine lv_iload hC.1 hC.2.1 d_Mo_product_18 (lv_at hl 0 rfl) ?_
  refine z_iadd hC d_Mo_product_20 ?_
  refine z_topi (z := 9 * x1 + 7) (by omega) ?_
  refine z_lconst (v := 0) hC d_Mo_product_21 (by decide) ?_
  refine z_last (ws' := [(o, .inr (5, [.int (iI cd), .int (iI z), .int (iI lv), .ref qT, .ref qC, .ref qF, .ref qY, .ref qZ, .ref qu, .ref qv, .ref qw, .ref qg, .ref qh, .ref qx, .ref qc, .ref qa, .ref qb, .ref qd, .int (iI fm), .ref qp, .ref qq])), (qx, eL t.2.1 54 (uZ (uZ (uZ (uZ (uZ (uZ (uZ (uZ Wd (9 * x1) 0) (9 * x1 + 1) 0) (9 * x1 + 2) 0) (9 * x1 + 3) 0) (9 * x1 + 4) 0) (9 * x1 + 5) 0) (9 * x1 + 6) 0) (9 * x1 + 7) 0))]) hC hK hP hD hS 1 rfl (by omega) rfl d_Mo_product_22 (fun H locs hP hD hS => ?_)
  refine lv_iinc (v := iI 8) (lv' := [(4, .int (iI 8)), (0, .ref o), (1, .int (iI x1)), (2, .int (iI x2)), (3, .int (iI x3))]) hC.1 hC.2.1 d_Mo_product_23 hl (k := 0) rfl (z_inc (by omega)) (by decide) rfl (fun ls hl => ?_)
  refine z_goto (tgt := 3) hC d_Mo_product_26 (by decide) ?_
  refine lv_iload hC.1 hC.2.1 d_Mo_product_3 (lv_at hl 0 rfl) ?_
  refine z_bipush hC d_Mo_product_5 (by decide) ?_
  refine z_icmp_ge (tgt := 29) hC d_Mo_product_7 (by decide) (by decide) (by decide) (fun h => absurd h (by decide)) (fun _ => ?_)
  refine lv_aload_n hC.1 hC.2.1 d_Mo_product_10 rfl (lv_at hl 1 rfl) ?_
  refine z_get (ci := 5) (C := R_Mo) (T := F_Mo) (N := 21) (v := .ref qx) hC in_Mo hK hP 0 rfl rfl 13 (by decide) k_466 rfl d_Mo_product_11 ?_
  refine z_bipush hC d_Mo_product_14 (by decide) ?_
  refine lv_iload_n hC.1 hC.2.1 d_Mo_product_16 rfl (lv_at hl 2 rfl) ?_
  refine z_imul hC d_Mo_product_17 ?_
  refine lv_iload hC.1 hC.2.1 d_Mo_product_18 (lv_at hl 0 rfl) ?_
  refine z_iadd hC d_Mo_product_20 ?_
  refine z_topi (z := 9 * x1 + 8) (by omega) ?_
  refine z_lconst (v := 0) hC d_Mo_product_21 (by decide) ?_
  refine z_last (ws' := [(o, .inr (5, [.int (iI cd), .int (iI z), .int (iI lv), .ref qT, .ref qC, .ref qF, .ref qY, .ref qZ, .ref qu, .ref qv, .ref qw, .ref qg, .ref qh, .ref qx, .ref qc, .ref qa, .ref qb, .ref qd, .int (iI fm), .ref qp, .ref qq])), (qx, eL t.2.1 54 (uZ (uZ (uZ (uZ (uZ (uZ (uZ (uZ (uZ Wd (9 * x1) 0) (9 * x1 + 1) 0) (9 * x1 + 2) 0) (9 * x1 + 3) 0) (9 * x1 + 4) 0) (9 * x1 + 5) 0) (9 * x1 + 6) 0) (9 * x1 + 7) 0) (9 * x1 + 8) 0))]) hC hK hP hD hS 1 rfl (by omega) rfl d_Mo_product_22 (fun H locs hP hD hS => ?_)
  refine lv_iinc (v := iI 9) (lv' := [(4, .int (iI 9)), (0, .ref o), (1, .int (iI x1)), (2, .int (iI x2)), (3, .int (iI x3))]) hC.1 hC.2.1 d_Mo_product_23 hl (k := 0) rfl (z_inc (by omega)) (by decide) rfl (fun ls hl => ?_)
  refine z_goto (tgt := 3) hC d_Mo_product_26 (by decide) ?_
  refine lv_iload hC.1 hC.2.1 d_Mo_product_3 (lv_at hl 0 rfl) ?_
  refine z_bipush hC d_Mo_product_5 (by decide) ?_
  refine z_icmp_ge (tgt := 29) hC d_Mo_product_7 (by decide) (by decide) (by decide) (fun _ => ?_) (fun h => absurd h (by decide))
  obtain ⟨W0, eW0⟩ : ∃ G : Int → Int, G = (uZ (uZ (uZ (uZ (uZ (uZ (uZ (uZ (uZ Wd (9 * x1) 0) (9 * x1 + 1) 0) (9 * x1 + 2) 0) (9 * x1 + 3) 0) (9 * x1 + 4) 0) (9 * x1 + 5) 0) (9 * x1 + 6) 0) (9 * x1 + 7) 0) (9 * x1 + 8) 0) := ⟨_, rfl⟩
  rw [← eW0] at hP hD
  have hO0 : pO Wd W0 x1 x2 x3 0 := by rw [eW0]; exact ze_lem Wd x1 x2 x3
  refine z_iconst hC d_Mo_product_29 ?_
  refine lv_istore (lv' := [(4, .int (iI 0)), (0, .ref o), (1, .int (iI x1)), (2, .int (iI x2)), (3, .int (iI x3))]) hC.1 hC.2.1 d_Mo_product_30 hl (by decide) rfl (fun ls hl => ?_)
  have L32 : ∀ (fu : Nat) (G : Int → Int) (i : Int) (H : Heap) (locs : List Loc) (ls : Array Slot), 9 - i + 1 ≤ (fu : Int) → (0 ≤ i ∧ i ≤ 9) → (pO Wd G x1 x2 x3 i) → va_P D classes [(o, .inr (5, [.int (iI cd), .int (iI z), .int (iI lv), .ref qT, .ref qC, .ref qF, .ref qY, .ref qZ, .ref qu, .ref qv, .ref qw, .ref qg, .ref qh, .ref qx, .ref qc, .ref qa, .ref qb, .ref qd, .int (iI fm), .ref qp, .ref qq])), (qx, eL t.2.1 54 G)] H → va_D A [(o, .inr (5, [.int (iI cd), .int (iI z), .int (iI lv), .ref qT, .ref qC, .ref qF, .ref qY, .ref qZ, .ref qu, .ref qv, .ref qw, .ref qg, .ref qh, .ref qx, .ref qc, .ref qa, .ref qb, .ref qd, .int (iI fm), .ref qp, .ref qq])), (qx, eL t.2.1 54 G)] → va_S A zs.heap H locs → lv_has ls 10 [(4, .int (iI i)), (0, .ref o), (1, .int (iI x1)), (2, .int (iI x2)), (3, .int (iI x3))] → W zp l ze rm_Mo_product zs zm [.ref o, .int (iI x1), .int (iI x2), .int (iI x3)].toArray zb zt zc H locs 0 0 zQ (F0 zm 32 ls []) := by
    intro fu
    induction fu with
    | zero =>
      intro G i H locs ls hm32 hi hO hP hD hS hl
      exact absurd hm32 (by omega)
    | succ fu ih32 =>
      intro G i H locs ls hm32 hi hO hP hD hS hl
      refine lv_iload hC.1 hC.2.1 d_Mo_product_32 (lv_at hl 0 rfl) ?_
      refine z_bipush hC d_Mo_product_34 (by decide) ?_
      refine z_icmp_ge (tgt := 141) hC d_Mo_product_36 (by decide) (by omega) (by decide) (fun h36 => ?_) (fun h36 => ?_)
      · have hP9 := hP.sub (ws' := [(o, .inr (5, [.int (iI cd), .int (iI z), .int (iI lv), .ref qT, .ref qC, .ref qF, .ref qY, .ref qZ, .ref qu, .ref qv, .ref qw, .ref qg, .ref qh, .ref qx, .ref qc, .ref qa, .ref qb, .ref qd, .int (iI fm), .ref qp, .ref qq])), (qx, eL t.2.1 54 G)]) [0, 1] rfl
        have hD9 := hD.sub (ws' := [(o, .inr (5, [.int (iI cd), .int (iI z), .int (iI lv), .ref qT, .ref qC, .ref qF, .ref qY, .ref qZ, .ref qu, .ref qv, .ref qw, .ref qg, .ref qh, .ref qx, .ref qc, .ref qa, .ref qb, .ref qd, .int (iI fm), .ref qp, .ref qq])), (qx, eL t.2.1 54 G)]) [0, 1] (by decide) rfl
        exact ret G _ _ 141 _ d_Mo_product_141 (pO_end (by rw [show i = 9 by omega] at hO; exact hO) hy hz hAC hA1 hCC) hP9 hD9 hS
      · refine z_lconst (v := 0) hC d_Mo_product_39 (by decide) ?_
        refine lv_lstore (lv' := [(5, .long (lI 0)), (4, .int (iI i)), (0, .ref o), (1, .int (iI x1)), (2, .int (iI x2)), (3, .int (iI x3))]) hC.1 hC.2.1 d_Mo_product_40 hl (by decide) rfl (fun ls hl => ?_)
        refine z_iconst hC d_Mo_product_42 ?_
        refine lv_istore (lv' := [(7, .int (iI 0)), (5, .long (lI 0)), (4, .int (iI i)), (0, .ref o), (1, .int (iI x1)), (2, .int (iI x2)), (3, .int (iI x3))]) hC.1 hC.2.1 d_Mo_product_43 hl (by decide) rfl (fun ls hl => ?_)
        have L45 : ∀ (fu : Nat) (G2 : Int → Int) (ov : Int) (j : Int) (H : Heap) (locs : List Loc) (ls : Array Slot), 9 - i - j + 1 ≤ (fu : Int) → (0 ≤ j ∧ i + j ≤ 9) → (pI Wd G G2 x1 x2 x3 i j ov) → va_P D classes [(o, .inr (5, [.int (iI cd), .int (iI z), .int (iI lv), .ref qT, .ref qC, .ref qF, .ref qY, .ref qZ, .ref qu, .ref qv, .ref qw, .ref qg, .ref qh, .ref qx, .ref qc, .ref qa, .ref qb, .ref qd, .int (iI fm), .ref qp, .ref qq])), (qx, eL t.2.1 54 G2)] H → va_D A [(o, .inr (5, [.int (iI cd), .int (iI z), .int (iI lv), .ref qT, .ref qC, .ref qF, .ref qY, .ref qZ, .ref qu, .ref qv, .ref qw, .ref qg, .ref qh, .ref qx, .ref qc, .ref qa, .ref qb, .ref qd, .int (iI fm), .ref qp, .ref qq])), (qx, eL t.2.1 54 G2)] → va_S A zs.heap H locs → lv_has ls 10 [(7, .int (iI j)), (5, .long (lI ov)), (4, .int (iI i)), (0, .ref o), (1, .int (iI x1)), (2, .int (iI x2)), (3, .int (iI x3))] → W zp l ze rm_Mo_product zs zm [.ref o, .int (iI x1), .int (iI x2), .int (iI x3)].toArray zb zt zc H locs 0 0 zQ (F0 zm 45 ls []) := by
          intro fu
          induction fu with
          | zero =>
            intro G2 ov j H locs ls hm45 hj hI hP hD hS hl
            exact absurd hm45 (by omega)
          | succ fu ih45 =>
            intro G2 ov j H locs ls hm45 hj hI hP hD hS hl
            refine lv_iload hC.1 hC.2.1 d_Mo_product_45 (lv_at hl 2 rfl) ?_
            refine lv_iload hC.1 hC.2.1 d_Mo_product_47 (lv_at hl 0 rfl) ?_
            refine z_iadd hC d_Mo_product_49 ?_
            refine z_bipush hC d_Mo_product_50 (by decide) ?_
            refine z_icmp_ge (tgt := 135) hC d_Mo_product_52 (by decide) (by omega) (by decide) (fun h52 => ?_) (fun h52 => ?_)
            · refine lv_iinc (v := iI (i + 1)) (lv' := [(4, .int (iI (i + 1))), (7, .int (iI j)), (5, .long (lI ov)), (0, .ref o), (1, .int (iI x1)), (2, .int (iI x2)), (3, .int (iI x3))]) hC.1 hC.2.1 d_Mo_product_135 hl (k := 2) rfl (z_inc (by omega)) (by decide) rfl (fun ls hl => ?_)
              refine z_goto (tgt := 32) hC d_Mo_product_138 (by decide) ?_
              exact ih32 G2 (i + 1) _ _ _ (by omega) (by omega) (pI_end hI hO (by omega) (by omega) (by omega) (by omega)) (hP.sub (ws' := [(o, .inr (5, [.int (iI cd), .int (iI z), .int (iI lv), .ref qT, .ref qC, .ref qF, .ref qY, .ref qZ, .ref qu, .ref qv, .ref qw, .ref qg, .ref qh, .ref qx, .ref qc, .ref qa, .ref qb, .ref qd, .int (iI fm), .ref qp, .ref qq])), (qx, eL t.2.1 54 G2)]) [0, 1] rfl) (hD.sub (ws' := [(o, .inr (5, [.int (iI cd), .int (iI z), .int (iI lv), .ref qT, .ref qC, .ref qF, .ref qY, .ref qZ, .ref qu, .ref qv, .ref qw, .ref qg, .ref qh, .ref qx, .ref qc, .ref qa, .ref qb, .ref qd, .int (iI fm), .ref qp, .ref qq])), (qx, eL t.2.1 54 G2)]) [0, 1] (by decide) rfl) hS (lv_sub hl [0, 3, 4, 5, 6] rfl)
            · have bt := pI_t hI (by omega) (by omega) (by omega) hxy hxz hy.1 hz.1
              refine lv_aload_n hC.1 hC.2.1 d_Mo_product_55 rfl (lv_at hl 3 rfl) ?_
              refine z_get (ci := 5) (C := R_Mo) (T := F_Mo) (N := 21) (v := .ref qx) hC in_Mo hK hP 0 rfl rfl 13 (by decide) k_466 rfl d_Mo_product_56 ?_
              refine z_bipush hC d_Mo_product_59 (by decide) ?_
              refine lv_iload_n hC.1 hC.2.1 d_Mo_product_61 rfl (lv_at hl 4 rfl) ?_
              refine z_imul hC d_Mo_product_62 ?_
              refine lv_iload hC.1 hC.2.1 d_Mo_product_63 (lv_at hl 2 rfl) ?_
              refine z_iadd hC d_Mo_product_65 ?_
              refine z_topi (z := i + 9 * x1) (by omega) ?_
              refine lv_iload hC.1 hC.2.1 d_Mo_product_66 (lv_at hl 0 rfl) ?_
              refine z_iadd hC d_Mo_product_68 ?_
              refine z_topi (z := i + j + 9 * x1) (by omega) ?_
              refine z_lald hC hK hP 1 rfl (by omega) d_Mo_product_69 ?_
              refine lv_aload_n hC.1 hC.2.1 d_Mo_product_70 rfl (lv_at hl 3 rfl) ?_
              refine z_get (ci := 5) (C := R_Mo) (T := F_Mo) (N := 21) (v := .ref qx) hC in_Mo hK hP 0 rfl rfl 13 (by decide) k_466 rfl d_Mo_product_71 ?_
              refine z_bipush hC d_Mo_product_74 (by decide) ?_
              refine lv_iload_n hC.1 hC.2.1 d_Mo_product_76 rfl (lv_at hl 5 rfl) ?_
              refine z_imul hC d_Mo_product_77 ?_
              refine lv_iload hC.1 hC.2.1 d_Mo_product_78 (lv_at hl 2 rfl) ?_
              refine z_iadd hC d_Mo_product_80 ?_
              refine z_topi (z := i + 9 * x2) (by omega) ?_
              refine z_lald hC hK hP 1 rfl (by omega) d_Mo_product_81 ?_
              refine lv_aload_n hC.1 hC.2.1 d_Mo_product_82 rfl (lv_at hl 3 rfl) ?_
              refine z_get (ci := 5) (C := R_Mo) (T := F_Mo) (N := 21) (v := .ref qx) hC in_Mo hK hP 0 rfl rfl 13 (by decide) k_466 rfl d_Mo_product_83 ?_
              refine z_bipush hC d_Mo_product_86 (by decide) ?_
              refine lv_iload_n hC.1 hC.2.1 d_Mo_product_88 rfl (lv_at hl 6 rfl) ?_
              refine z_imul hC d_Mo_product_89 ?_
              refine lv_iload hC.1 hC.2.1 d_Mo_product_90 (lv_at hl 0 rfl) ?_
              refine z_iadd hC d_Mo_product_92 ?_
              refine z_topi (z := j + 9 * x3) (by omega) ?_
              refine z_lald hC hK hP 1 rfl (by omega) d_Mo_product_93 ?_
              refine z_lmul hC d_Mo_product_94 ?_
              refine z_ladd hC d_Mo_product_95 ?_
              refine z_topl (z := ((G2 (i + 9 * x2)) * (G2 (j + 9 * x3))) + G2 (i + j + 9 * x1)) (by omega) ?_
              refine lv_lload hC.1 hC.2.1 d_Mo_product_96 (lv_at hl 1 rfl) ?_
              refine z_ladd hC d_Mo_product_98 ?_
              refine z_topl (z := ((G2 (i + 9 * x2)) * (G2 (j + 9 * x3))) + G2 (i + j + 9 * x1) + ov) (by omega) ?_
              refine lv_lstore (lv' := [(8, .long (lI (((G2 (i + 9 * x2)) * (G2 (j + 9 * x3))) + G2 (i + j + 9 * x1) + ov))), (7, .int (iI j)), (5, .long (lI ov)), (4, .int (iI i)), (0, .ref o), (1, .int (iI x1)), (2, .int (iI x2)), (3, .int (iI x3))]) hC.1 hC.2.1 d_Mo_product_99 hl (by decide) rfl (fun ls hl => ?_)
              refine lv_aload_n hC.1 hC.2.1 d_Mo_product_101 rfl (lv_at hl 4 rfl) ?_
              refine z_get (ci := 5) (C := R_Mo) (T := F_Mo) (N := 21) (v := .ref qx) hC in_Mo hK hP 0 rfl rfl 13 (by decide) k_466 rfl d_Mo_product_102 ?_
              refine z_bipush hC d_Mo_product_105 (by decide) ?_
              refine lv_iload_n hC.1 hC.2.1 d_Mo_product_107 rfl (lv_at hl 5 rfl) ?_
              refine z_imul hC d_Mo_product_108 ?_
              refine lv_iload hC.1 hC.2.1 d_Mo_product_109 (lv_at hl 3 rfl) ?_
              refine z_iadd hC d_Mo_product_111 ?_
              refine z_topi (z := i + 9 * x1) (by omega) ?_
              refine lv_iload hC.1 hC.2.1 d_Mo_product_112 (lv_at hl 1 rfl) ?_
              refine z_iadd hC d_Mo_product_114 ?_
              refine z_topi (z := i + j + 9 * x1) (by omega) ?_
              refine lv_lload hC.1 hC.2.1 d_Mo_product_115 (lv_at hl 0 rfl) ?_
              refine z_ldc2 hC k_589 d_Mo_product_117 ?_
              refine z_land (z := ((((G2 (i + 9 * x2)) * (G2 (j + 9 * x3))) + G2 (i + j + 9 * x1) + ov) % 16777216)) hC (l_mask24 _) d_Mo_product_120 ?_
              refine z_last (ws' := [(o, .inr (5, [.int (iI cd), .int (iI z), .int (iI lv), .ref qT, .ref qC, .ref qF, .ref qY, .ref qZ, .ref qu, .ref qv, .ref qw, .ref qg, .ref qh, .ref qx, .ref qc, .ref qa, .ref qb, .ref qd, .int (iI fm), .ref qp, .ref qq])), (qx, eL t.2.1 54 (uZ G2 (i + j + 9 * x1) (((((G2 (i + 9 * x2)) * (G2 (j + 9 * x3))) + G2 (i + j + 9 * x1) + ov) % 16777216))))]) hC hK hP hD hS 1 rfl (by omega) rfl d_Mo_product_121 (fun H locs hP hD hS => ?_)
              refine lv_lload hC.1 hC.2.1 d_Mo_product_122 (lv_at hl 0 rfl) ?_
              refine z_bipush hC d_Mo_product_124 (by decide) ?_
              refine z_lshr (z := ((((G2 (i + 9 * x2)) * (G2 (j + 9 * x3))) + G2 (i + j + 9 * x1) + ov) / 16777216)) hC (l_shr24 (by omega)) d_Mo_product_126 ?_
              refine lv_lstore (lv' := [(5, .long (lI (((((G2 (i + 9 * x2)) * (G2 (j + 9 * x3))) + G2 (i + j + 9 * x1) + ov) / 16777216)))), (8, .long (lI (((G2 (i + 9 * x2)) * (G2 (j + 9 * x3))) + G2 (i + j + 9 * x1) + ov))), (7, .int (iI j)), (4, .int (iI i)), (0, .ref o), (1, .int (iI x1)), (2, .int (iI x2)), (3, .int (iI x3))]) hC.1 hC.2.1 d_Mo_product_127 hl (by decide) rfl (fun ls hl => ?_)
              refine lv_iinc (v := iI (j + 1)) (lv' := [(7, .int (iI (j + 1))), (5, .long (lI (((((G2 (i + 9 * x2)) * (G2 (j + 9 * x3))) + G2 (i + j + 9 * x1) + ov) / 16777216)))), (8, .long (lI (((G2 (i + 9 * x2)) * (G2 (j + 9 * x3))) + G2 (i + j + 9 * x1) + ov))), (4, .int (iI i)), (0, .ref o), (1, .int (iI x1)), (2, .int (iI x2)), (3, .int (iI x3))]) hC.1 hC.2.1 d_Mo_product_129 hl (k := 2) rfl (z_inc (by omega)) (by decide) rfl (fun ls hl => ?_)
              refine z_goto (tgt := 45) hC d_Mo_product_132 (by decide) ?_
              exact ih45 (uZ G2 (i + j + 9 * x1) (((((G2 (i + 9 * x2)) * (G2 (j + 9 * x3))) + G2 (i + j + 9 * x1) + ov) % 16777216))) (((((G2 (i + 9 * x2)) * (G2 (j + 9 * x3))) + G2 (i + j + 9 * x1) + ov) / 16777216)) (j + 1) _ _ _ (by omega) (by omega) (pI_s hI (by omega) (by omega) (by omega) hxy hxz hy.1 hz.1 rfl) (hP.sub (ws' := [(o, .inr (5, [.int (iI cd), .int (iI z), .int (iI lv), .ref qT, .ref qC, .ref qF, .ref qY, .ref qZ, .ref qu, .ref qv, .ref qw, .ref qg, .ref qh, .ref qx, .ref qc, .ref qa, .ref qb, .ref qd, .int (iI fm), .ref qp, .ref qq])), (qx, eL t.2.1 54 (uZ G2 (i + j + 9 * x1) (((((G2 (i + 9 * x2)) * (G2 (j + 9 * x3))) + G2 (i + j + 9 * x1) + ov) % 16777216))))]) [0, 1] rfl) (hD.sub (ws' := [(o, .inr (5, [.int (iI cd), .int (iI z), .int (iI lv), .ref qT, .ref qC, .ref qF, .ref qY, .ref qZ, .ref qu, .ref qv, .ref qw, .ref qg, .ref qh, .ref qx, .ref qc, .ref qa, .ref qb, .ref qd, .int (iI fm), .ref qp, .ref qq])), (qx, eL t.2.1 54 (uZ G2 (i + j + 9 * x1) (((((G2 (i + 9 * x2)) * (G2 (j + 9 * x3))) + G2 (i + j + 9 * x1) + ov) % 16777216))))]) [0, 1] (by decide) rfl) hS (lv_sub hl [0, 1, 3, 4, 5, 6, 7] rfl)
        exact L45 (9 - i - 0 + 1 : Int).toNat G 0 0 _ _ _ (by omega) (by omega) (pI_0 hO) hP hD hS (lv_sub hl [0, 1, 2, 3, 4, 5, 6] rfl)
  exact L32 (9 - 0 + 1 : Int).toNat W0 0 _ _ _ (by omega) (by omega) hO0 hP hD hS (lv_sub hl [0, 1, 2, 3, 4] rfl)
theorem ye_Mo_compare : ye y_Mo_compare R_Mo 2 := by unfold ye; decide +kernel
abbrev rm_Mo_compare : Room := { frames := 0, cells := 0, slots := 0, locals := 0 }
set_option maxHeartbeats 4000000 in
set_option maxRecDepth 100000 in
theorem c_Mo_compare (l : Launch) (D : va_G) (t : vt) (ts : Nat → Nat) (o qT qC qF qY qZ qu qv qw qg qh qx qc qa qb qd qp qq : Nat) (cd z lv fm : Int) (Wd : Int → Int) (x1 x2 A C : Int) (hx1 : 0 ≤ x1 ∧ x1 ≤ 5) (hx2 : 0 ≤ x2 ∧ x2 ≤ 5) (hA : bk Wd (9 * x1) A) (hCC : bk Wd (9 * x2) C) : Met l y_Mo_compare (.code y_Mo_compare b_Mo_compare 4 (some .int) :: tb_ws) rm_Mo_compare (RoP D t ts [.ref o, .int (iI x1), .int (iI x2)] [(o, .inr (5, [.int (iI cd), .int (iI z), .int (iI lv), .ref qT, .ref qC, .ref qF, .ref qY, .ref qZ, .ref qu, .ref qv, .ref qw, .ref qg, .ref qh, .ref qx, .ref qc, .ref qa, .ref qb, .ref qd, .int (iI fm), .ref qp, .ref qq])), (qx, eL t.2.1 54 Wd)]) (vp_Si (fun zr => zr = iI (sgn (A - C)))) 0 0 (fun _ => False) := by
  refine ro_i (by decide +kernel) (Nat.le_of_ble_eq_true rfl) ?_
  intro zp ze zs zm zb zt zc zQ ls hC hP hK hE hl ret
  have hS : va_S (fun _ => False) zs.heap zs.heap [] := va_S.rf
  have hl : lv_has ls 4 [(0, .ref o), (1, .int (iI x1)), (2, .int (iI x2))] := hl
  have retv : ∀ (pc : Nat) (ls : Array Slot) (zv : Int), decode b_Mo_compare pc = .ok (.ireturn, 1) → zv = (sgn (A - C)) → W zp l ze rm_Mo_compare zs zm [.ref o, .int (iI x1), .int (iI x2)].toArray zb zt zc zs.heap [] 0 0 zQ (F0 zm pc ls [.int (iI zv)]) := fun pc ls v d h => by rw [h]; exact ret pc ls d
  refine z_bipush hC d_Mo_compare_0 (by decide) ?_
  refine lv_istore_n (lv' := [(3, .int (iI 8)), (0, .ref o), (1, .int (iI x1)), (2, .int (iI x2))]) hC.1 hC.2.1 d_Mo_compare_2 rfl hl (by decide) rfl (fun ls hl => ?_)
  have L3 : ∀ (fu : Nat) (i : Int) (ls : Array Slot), i + 2 ≤ (fu : Int) → (-1 ≤ i ∧ i ≤ 8) → (∀ m, i < m → m < 9 → Wd (9 * x1 + m) = Wd (9 * x2 + m)) → lv_has ls 4 [(3, .int (iI i)), (0, .ref o), (1, .int (iI x1)), (2, .int (iI x2))] → W zp l ze rm_Mo_compare zs zm [.ref o, .int (iI x1), .int (iI x2)].toArray zb zt zc zs.heap [] 0 0 zQ (F0 zm 3 ls []) := by
    intro fu
    induction fu with
    | zero =>
      intro i ls hm3 hi he hl
      exact absurd hm3 (by omega)
    | succ fu ih3 =>
      intro i ls hm3 hi he hl
      refine lv_iload_n hC.1 hC.2.1 d_Mo_compare_3 rfl (lv_at hl 0 rfl) ?_
      refine z_if_lt (tgt := 71) hC d_Mo_compare_4 (by decide) (by omega) (fun h4 => ?_) (fun h4 => ?_)
      · refine z_iconst hC d_Mo_compare_71 ?_
        exact retv 72 _ _ d_Mo_compare_72 (by have q := cmp_eq hA hCC (fun m a b => he m (by omega) b); unfold sgn; rw [if_neg (by omega), if_pos (by omega)])
      · have d1 := hA.1 i (by omega) (by omega)
        have d2 := hCC.1 i (by omega) (by omega)
        rw [show 9 * x1 + i = i + 9 * x1 by omega] at d1
        rw [show 9 * x2 + i = i + 9 * x2 by omega] at d2
        refine lv_aload_n hC.1 hC.2.1 d_Mo_compare_7 rfl (lv_at hl 1 rfl) ?_
        refine z_get (ci := 5) (C := R_Mo) (T := F_Mo) (N := 21) (v := .ref qx) hC in_Mo hK hP 0 rfl rfl 13 (by decide) k_466 rfl d_Mo_compare_8 ?_
        refine z_bipush hC d_Mo_compare_11 (by decide) ?_
        refine lv_iload_n hC.1 hC.2.1 d_Mo_compare_13 rfl (lv_at hl 2 rfl) ?_
        refine z_imul hC d_Mo_compare_14 ?_
        refine lv_iload_n hC.1 hC.2.1 d_Mo_compare_15 rfl (lv_at hl 0 rfl) ?_
        refine z_iadd hC d_Mo_compare_16 ?_
        refine z_topi (z := i + 9 * x1) (by omega) ?_
        refine z_lald hC hK hP 1 rfl (by omega) d_Mo_compare_17 ?_
        refine lv_aload_n hC.1 hC.2.1 d_Mo_compare_18 rfl (lv_at hl 1 rfl) ?_
        refine z_get (ci := 5) (C := R_Mo) (T := F_Mo) (N := 21) (v := .ref qx) hC in_Mo hK hP 0 rfl rfl 13 (by decide) k_466 rfl d_Mo_compare_19 ?_
        refine z_bipush hC d_Mo_compare_22 (by decide) ?_
        refine lv_iload_n hC.1 hC.2.1 d_Mo_compare_24 rfl (lv_at hl 3 rfl) ?_
        refine z_imul hC d_Mo_compare_25 ?_
        refine lv_iload_n hC.1 hC.2.1 d_Mo_compare_26 rfl (lv_at hl 0 rfl) ?_
        refine z_iadd hC d_Mo_compare_27 ?_
        refine z_topi (z := i + 9 * x2) (by omega) ?_
        refine z_lald hC hK hP 1 rfl (by omega) d_Mo_compare_28 ?_
        refine z_lcmp_eq (tgt := 65) hC d_Mo_compare_29 d_Mo_compare_30 (by decide) (by omega) (by omega) (fun h29 => ?_) (fun h29 => ?_)
        · refine lv_iinc (v := iI (i - 1)) (lv' := [(3, .int (iI (i - 1))), (0, .ref o), (1, .int (iI x1)), (2, .int (iI x2))]) hC.1 hC.2.1 d_Mo_compare_65 hl (k := 0) rfl (z_inc (by omega)) (by decide) rfl (fun ls hl => ?_)
          refine z_goto (tgt := 3) hC d_Mo_compare_68 (by decide) ?_
          exact ih3 (i - 1) _ (by omega) (by omega) (by intro m h1 h2; rcases (show m = i ∨ i < m by omega) with q | q; (rw [q, show 9 * x1 + i = i + 9 * x1 by omega, show 9 * x2 + i = i + 9 * x2 by omega]; omega); exact he m q h2) (lv_sub hl [0, 1, 2, 3] rfl)
        · refine lv_aload_n hC.1 hC.2.1 d_Mo_compare_33 rfl (lv_at hl 1 rfl) ?_
          refine z_get (ci := 5) (C := R_Mo) (T := F_Mo) (N := 21) (v := .ref qx) hC in_Mo hK hP 0 rfl rfl 13 (by decide) k_466 rfl d_Mo_compare_34 ?_
          refine z_bipush hC d_Mo_compare_37 (by decide) ?_
          refine lv_iload_n hC.1 hC.2.1 d_Mo_compare_39 rfl (lv_at hl 2 rfl) ?_
          refine z_imul hC d_Mo_compare_40 ?_
          refine lv_iload_n hC.1 hC.2.1 d_Mo_compare_41 rfl (lv_at hl 0 rfl) ?_
          refine z_iadd hC d_Mo_compare_42 ?_
          refine z_topi (z := i + 9 * x1) (by omega) ?_
          refine z_lald hC hK hP 1 rfl (by omega) d_Mo_compare_43 ?_
          refine lv_aload_n hC.1 hC.2.1 d_Mo_compare_44 rfl (lv_at hl 1 rfl) ?_
          refine z_get (ci := 5) (C := R_Mo) (T := F_Mo) (N := 21) (v := .ref qx) hC in_Mo hK hP 0 rfl rfl 13 (by decide) k_466 rfl d_Mo_compare_45 ?_
          refine z_bipush hC d_Mo_compare_48 (by decide) ?_
          refine lv_iload_n hC.1 hC.2.1 d_Mo_compare_50 rfl (lv_at hl 3 rfl) ?_
          refine z_imul hC d_Mo_compare_51 ?_
          refine lv_iload_n hC.1 hC.2.1 d_Mo_compare_52 rfl (lv_at hl 0 rfl) ?_
          refine z_iadd hC d_Mo_compare_53 ?_
          refine z_topi (z := i + 9 * x2) (by omega) ?_
          refine z_lald hC hK hP 1 rfl (by omega) d_Mo_compare_54 ?_
          refine z_lcmp_ge (tgt := 63) hC d_Mo_compare_55 d_Mo_compare_56 (by decide) (by omega) (by omega) (fun h55 => ?_) (fun h55 => ?_)
          · refine z_iconst hC d_Mo_compare_63 ?_
            exact retv 64 _ _ d_Mo_compare_64 (by have q := cmp_lt hCC hA (by omega) (by omega) (fun m a b => (he m a b).symm) (by rw [show 9 * x1 + i = i + 9 * x1 by omega, show 9 * x2 + i = i + 9 * x2 by omega]; omega); unfold sgn; rw [if_neg (by omega), if_neg (by omega)])
          · refine z_iconst hC d_Mo_compare_59 ?_
            refine z_goto (tgt := 64) hC d_Mo_compare_60 (by decide) ?_
            exact retv 64 _ _ d_Mo_compare_64 (by have q := cmp_lt hA hCC (by omega) (by omega) he (by rw [show 9 * x1 + i = i + 9 * x1 by omega, show 9 * x2 + i = i + 9 * x2 by omega]; omega); unfold sgn; rw [if_pos (by omega)])
  exact L3 (8 + 2 : Int).toNat 8 _ (by omega) (by omega) (by intro m h1 h2; omega) (lv_sub hl [0, 1, 2, 3] rfl)
theorem ye_Mo_grow : ye y_Mo_grow R_Mo 2 := by unfold ye; decide +kernel
abbrev rm_Mo_grow : Room := { frames := 0, cells := 0, slots := 0, locals := 0 }
set_option maxHeartbeats 4000000 in
set_option maxRecDepth 100000 in
theorem c_Mo_grow (l : Launch) (D : va_G) (t : vt) (ts : Nat → Nat) (o qT qC qF qY qZ qu qv qw qg qh qx qc qa qb qd qp qq : Nat) (cd z lv fm : Int) (Wd : Int → Int) (x1 x2 A1 C V1 : Int) (hx1 : 0 ≤ x1 ∧ x1 ≤ 5) (hx2 : 0 ≤ x2 ∧ x2 ≤ 5) (hxy : x1 ≠ x2) (hB : bk Wd (9 * x1) A1) (hE2 : bk Wd (9 * x2) C) (hV : V1 = A1 + 1 * C) (hV0 : 0 ≤ V1 ∧ V1 < 16777216 ^ 9) (sz : Nat) : Met l y_Mo_grow (.code y_Mo_grow b_Mo_grow 8 none :: tb_ws) rm_Mo_grow (MP D t ts [.ref o, .int (iI x1), .int (iI x2)] [(o, .inr (5, [.int (iI cd), .int (iI z), .int (iI lv), .ref qT, .ref qC, .ref qF, .ref qY, .ref qZ, .ref qu, .ref qv, .ref qw, .ref qg, .ref qh, .ref qx, .ref qc, .ref qa, .ref qb, .ref qd, .int (iI fm), .ref qp, .ref qq])), (qx, eL t.2.1 54 Wd)] sz) (va_Qv (fun u : Int → Int => bk u (9 * x1) V1 ∧ (∀ k, k < 9 * x1 ∨ 9 * x1 + 9 ≤ k → u k = Wd k)) (MB D (va_A [(o, .inr (5, [.int (iI cd), .int (iI z), .int (iI lv), .ref qT, .ref qC, .ref qF, .ref qY, .ref qZ, .ref qu, .ref qv, .ref qw, .ref qg, .ref qh, .ref qx, .ref qc, .ref qa, .ref qb, .ref qd, .int (iI fm), .ref qp, .ref qq])), (qx, eL t.2.1 54 Wd)] sz) (fun u : Int → Int => [(o, .inr (5, [.int (iI cd), .int (iI z), .int (iI lv), .ref qT, .ref qC, .ref qF, .ref qY, .ref qZ, .ref qu, .ref qv, .ref qw, .ref qg, .ref qh, .ref qx, .ref qc, .ref qa, .ref qb, .ref qd, .int (iI fm), .ref qp, .ref qq])), (qx, eL t.2.1 54 u)])) (va_A [(o, .inr (5, [.int (iI cd), .int (iI z), .int (iI lv), .ref qT, .ref qC, .ref qF, .ref qY, .ref qZ, .ref qu, .ref qv, .ref qw, .ref qg, .ref qh, .ref qx, .ref qc, .ref qa, .ref qb, .ref qd, .int (iI fm), .ref qp, .ref qq])), (qx, eL t.2.1 54 Wd)] sz)) 0 0 (va_A [(o, .inr (5, [.int (iI cd), .int (iI z), .int (iI lv), .ref qT, .ref qC, .ref qF, .ref qY, .ref qZ, .ref qu, .ref qv, .ref qw, .ref qg, .ref qh, .ref qx, .ref qc, .ref qa, .ref qb, .ref qd, .int (iI fm), .ref qp, .ref qq])), (qx, eL t.2.1 54 Wd)] sz) := by
  refine m_v (by decide +kernel) (Nat.le_of_ble_eq_true rfl) ?_
  intro zp ze zs zm zb zt zc zQ A ls hC hA hP hK hD hE hS hl ret
  have hl : lv_has ls 8 [(0, .ref o), (1, .int (iI x1)), (2, .int (iI x2))] := hl
  refine z_lconst (v := 0) hC d_Mo_grow_0 (by decide) ?_
  refine lv_lstore_n (lv' := [(3, .long (lI 0)), (0, .ref o), (1, .int (iI x1)), (2, .int (iI x2))]) hC.1 hC.2.1 d_Mo_grow_1 rfl hl (by decide) rfl (fun ls hl => ?_)
  refine z_iconst hC d_Mo_grow_2 ?_
  refine lv_istore (lv' := [(5, .int (iI 0)), (3, .long (lI 0)), (0, .ref o), (1, .int (iI x1)), (2, .int (iI x2))]) hC.1 hC.2.1 d_Mo_grow_3 hl (by decide) rfl (fun ls hl => ?_)
  have L5 : ∀ (fu : Nat) (G : Int → Int) (ov : Int) (i : Int) (H : Heap) (locs : List Loc) (ls : Array Slot), 9 - i + 1 ≤ (fu : Int) → (0 ≤ i ∧ i ≤ 9) → (0 ≤ ov ∧ ov ≤ 1) → (gI Wd G x1 x2 1 i ov) → va_P D classes [(o, .inr (5, [.int (iI cd), .int (iI z), .int (iI lv), .ref qT, .ref qC, .ref qF, .ref qY, .ref qZ, .ref qu, .ref qv, .ref qw, .ref qg, .ref qh, .ref qx, .ref qc, .ref qa, .ref qb, .ref qd, .int (iI fm), .ref qp, .ref qq])), (qx, eL t.2.1 54 G)] H → va_D A [(o, .inr (5, [.int (iI cd), .int (iI z), .int (iI lv), .ref qT, .ref qC, .ref qF, .ref qY, .ref qZ, .ref qu, .ref qv, .ref qw, .ref qg, .ref qh, .ref qx, .ref qc, .ref qa, .ref qb, .ref qd, .int (iI fm), .ref qp, .ref qq])), (qx, eL t.2.1 54 G)] → va_S A zs.heap H locs → lv_has ls 8 [(5, .int (iI i)), (3, .long (lI ov)), (0, .ref o), (1, .int (iI x1)), (2, .int (iI x2))] → W zp l ze rm_Mo_grow zs zm [.ref o, .int (iI x1), .int (iI x2)].toArray zb zt zc H locs 0 0 zQ (F0 zm 5 ls []) := by
    intro fu
    induction fu with
    | zero =>
      intro G ov i H locs ls hm5 hi hov hI hP hD hS hl
      exact absurd hm5 (by omega)
    | succ fu ih5 =>
      intro G ov i H locs ls hm5 hi hov hI hP hD hS hl
      refine lv_iload hC.1 hC.2.1 d_Mo_grow_5 (lv_at hl 0 rfl) ?_
      refine z_bipush hC d_Mo_grow_7 (by decide) ?_
      refine z_icmp_ge (tgt := 71) hC d_Mo_grow_9 (by decide) (by omega) (by decide) (fun h9 => ?_) (fun h9 => ?_)
      · have hP9 := hP.sub (ws' := [(o, .inr (5, [.int (iI cd), .int (iI z), .int (iI lv), .ref qT, .ref qC, .ref qF, .ref qY, .ref qZ, .ref qu, .ref qv, .ref qw, .ref qg, .ref qh, .ref qx, .ref qc, .ref qa, .ref qb, .ref qd, .int (iI fm), .ref qp, .ref qq])), (qx, eL t.2.1 54 G)]) [0, 1] rfl
        have hD9 := hD.sub (ws' := [(o, .inr (5, [.int (iI cd), .int (iI z), .int (iI lv), .ref qT, .ref qC, .ref qF, .ref qY, .ref qZ, .ref qu, .ref qv, .ref qw, .ref qg, .ref qh, .ref qx, .ref qc, .ref qa, .ref qb, .ref qd, .int (iI fm), .ref qp, .ref qq])), (qx, eL t.2.1 54 G)]) [0, 1] (by decide) rfl
        exact ret G _ _ 71 _ d_Mo_grow_71 (gI_end (by rw [show i = 9 by omega] at hI; exact hI) hB hE2 hV hV0) hP9 hD9 hS
      · have d1 := hI.2.1 i (by omega) (by omega)
        rw [show 9 * x1 + i = i + 9 * x1 by omega] at d1
        have d2 := hE2.1 i (by omega) (by omega)
        rw [← hI.1 (9 * x2 + i) (by omega), show 9 * x2 + i = i + 9 * x2 by omega] at d2
        refine lv_aload_n hC.1 hC.2.1 d_Mo_grow_12 rfl (lv_at hl 2 rfl) ?_
        refine z_get (ci := 5) (C := R_Mo) (T := F_Mo) (N := 21) (v := .ref qx) hC in_Mo hK hP 0 rfl rfl 13 (by decide) k_466 rfl d_Mo_grow_13 ?_
        refine z_bipush hC d_Mo_grow_16 (by decide) ?_
        refine lv_iload_n hC.1 hC.2.1 d_Mo_grow_18 rfl (lv_at hl 3 rfl) ?_
        refine z_imul hC d_Mo_grow_19 ?_
        refine lv_iload hC.1 hC.2.1 d_Mo_grow_20 (lv_at hl 0 rfl) ?_
        refine z_iadd hC d_Mo_grow_22 ?_
        refine z_topi (z := i + 9 * x1) (by omega) ?_
        refine z_lald hC hK hP 1 rfl (by omega) d_Mo_grow_23 ?_
        refine lv_aload_n hC.1 hC.2.1 d_Mo_grow_24 rfl (lv_at hl 2 rfl) ?_
        refine z_get (ci := 5) (C := R_Mo) (T := F_Mo) (N := 21) (v := .ref qx) hC in_Mo hK hP 0 rfl rfl 13 (by decide) k_466 rfl d_Mo_grow_25 ?_
        refine z_bipush hC d_Mo_grow_28 (by decide) ?_
        refine lv_iload_n hC.1 hC.2.1 d_Mo_grow_30 rfl (lv_at hl 4 rfl) ?_
        refine z_imul hC d_Mo_grow_31 ?_
        refine lv_iload hC.1 hC.2.1 d_Mo_grow_32 (lv_at hl 0 rfl) ?_
        refine z_iadd hC d_Mo_grow_34 ?_
        refine z_topi (z := i + 9 * x2) (by omega) ?_
        refine z_lald hC hK hP 1 rfl (by omega) d_Mo_grow_35 ?_
        refine z_ladd hC d_Mo_grow_36 ?_
        refine z_topl (z := G (i + 9 * x1) + G (i + 9 * x2)) (by omega) ?_
        refine lv_lload_n hC.1 hC.2.1 d_Mo_grow_37 rfl (lv_at hl 1 rfl) ?_
        refine z_ladd hC d_Mo_grow_38 ?_
        refine z_topl (z := G (i + 9 * x1) + G (i + 9 * x2) + ov) (by omega) ?_
        refine lv_lstore (lv' := [(6, .long (lI (G (i + 9 * x1) + G (i + 9 * x2) + ov))), (5, .int (iI i)), (3, .long (lI ov)), (0, .ref o), (1, .int (iI x1)), (2, .int (iI x2))]) hC.1 hC.2.1 d_Mo_grow_39 hl (by decide) rfl (fun ls hl => ?_)
        refine lv_aload_n hC.1 hC.2.1 d_Mo_grow_41 rfl (lv_at hl 3 rfl) ?_
        refine z_get (ci := 5) (C := R_Mo) (T := F_Mo) (N := 21) (v := .ref qx) hC in_Mo hK hP 0 rfl rfl 13 (by decide) k_466 rfl d_Mo_grow_42 ?_
        refine z_bipush hC d_Mo_grow_45 (by decide) ?_
        refine lv_iload_n hC.1 hC.2.1 d_Mo_grow_47 rfl (lv_at hl 4 rfl) ?_
        refine z_imul hC d_Mo_grow_48 ?_
        refine lv_iload hC.1 hC.2.1 d_Mo_grow_49 (lv_at hl 1 rfl) ?_
        refine z_iadd hC d_Mo_grow_51 ?_
        refine z_topi (z := i + 9 * x1) (by omega) ?_
        refine lv_lload hC.1 hC.2.1 d_Mo_grow_52 (lv_at hl 0 rfl) ?_
        refine z_ldc2 hC k_589 d_Mo_grow_54 ?_
        refine z_land (z := ((G (i + 9 * x1) + G (i + 9 * x2) + ov) % 16777216)) hC (l_mask24 _) d_Mo_grow_57 ?_
        refine z_last (ws' := [(o, .inr (5, [.int (iI cd), .int (iI z), .int (iI lv), .ref qT, .ref qC, .ref qF, .ref qY, .ref qZ, .ref qu, .ref qv, .ref qw, .ref qg, .ref qh, .ref qx, .ref qc, .ref qa, .ref qb, .ref qd, .int (iI fm), .ref qp, .ref qq])), (qx, eL t.2.1 54 (uZ G (i + 9 * x1) (((G (i + 9 * x1) + G (i + 9 * x2) + ov) % 16777216))))]) hC hK hP hD hS 1 rfl (by omega) rfl d_Mo_grow_58 (fun H locs hP hD hS => ?_)
        refine lv_lload hC.1 hC.2.1 d_Mo_grow_59 (lv_at hl 0 rfl) ?_
        refine z_bipush hC d_Mo_grow_61 (by decide) ?_
        refine z_lshr (z := ((G (i + 9 * x1) + G (i + 9 * x2) + ov) / 16777216)) hC (l_shr24 (by omega)) d_Mo_grow_63 ?_
        refine lv_lstore_n (lv' := [(3, .long (lI (((G (i + 9 * x1) + G (i + 9 * x2) + ov) / 16777216)))), (6, .long (lI (G (i + 9 * x1) + G (i + 9 * x2) + ov))), (5, .int (iI i)), (0, .ref o), (1, .int (iI x1)), (2, .int (iI x2))]) hC.1 hC.2.1 d_Mo_grow_64 rfl hl (by decide) rfl (fun ls hl => ?_)
        refine lv_iinc (v := iI (i + 1)) (lv' := [(5, .int (iI (i + 1))), (3, .long (lI (((G (i + 9 * x1) + G (i + 9 * x2) + ov) / 16777216)))), (6, .long (lI (G (i + 9 * x1) + G (i + 9 * x2) + ov))), (0, .ref o), (1, .int (iI x1)), (2, .int (iI x2))]) hC.1 hC.2.1 d_Mo_grow_65 hl (k := 2) rfl (z_inc (by omega)) (by decide) rfl (fun ls hl => ?_)
        refine z_goto (tgt := 5) hC d_Mo_grow_68 (by decide) ?_
        exact ih5 (uZ G (i + 9 * x1) (((G (i + 9 * x1) + G (i + 9 * x2) + ov) % 16777216))) (((G (i + 9 * x1) + G (i + 9 * x2) + ov) / 16777216)) (i + 1) _ _ _ (by omega) (by omega) (by omega) (gI_s hI (by omega) (by omega) hxy (by omega)) (hP.sub (ws' := [(o, .inr (5, [.int (iI cd), .int (iI z), .int (iI lv), .ref qT, .ref qC, .ref qF, .ref qY, .ref qZ, .ref qu, .ref qv, .ref qw, .ref qg, .ref qh, .ref qx, .ref qc, .ref qa, .ref qb, .ref qd, .int (iI fm), .ref qp, .ref qq])), (qx, eL t.2.1 54 (uZ G (i + 9 * x1) (((G (i + 9 * x1) + G (i + 9 * x2) + ov) % 16777216))))]) [0, 1] rfl) (hD.sub (ws' := [(o, .inr (5, [.int (iI cd), .int (iI z), .int (iI lv), .ref qT, .ref qC, .ref qF, .ref qY, .ref qZ, .ref qu, .ref qv, .ref qw, .ref qg, .ref qh, .ref qx, .ref qc, .ref qa, .ref qb, .ref qd, .int (iI fm), .ref qp, .ref qq])), (qx, eL t.2.1 54 (uZ G (i + 9 * x1) (((G (i + 9 * x1) + G (i + 9 * x2) + ov) % 16777216))))]) [0, 1] (by decide) rfl) hS (lv_sub hl [0, 1, 3, 4, 5] rfl)
  exact L5 (9 - 0 + 1 : Int).toNat Wd 0 0 _ _ _ (by omega) (by omega) (by omega) (gI_0 hB.1) hP hD hS (lv_sub hl [0, 1, 2, 3, 4] rfl)
theorem ye_Mo_lessen : ye y_Mo_lessen R_Mo 2 := by unfold ye; decide +kernel
abbrev rm_Mo_lessen : Room := { frames := 0, cells := 0, slots := 0, locals := 0 }
set_option maxHeartbeats 4000000 in
set_option maxRecDepth 100000 in
theorem c_Mo_lessen (l : Launch) (D : va_G) (t : vt) (ts : Nat → Nat) (o qT qC qF qY qZ qu qv qw qg qh qx qc qa qb qd qp qq : Nat) (cd z lv fm : Int) (Wd : Int → Int) (x1 x2 A1 C V1 : Int) (hx1 : 0 ≤ x1 ∧ x1 ≤ 5) (hx2 : 0 ≤ x2 ∧ x2 ≤ 5) (hxy : x1 ≠ x2) (hB : bk Wd (9 * x1) A1) (hE2 : bk Wd (9 * x2) C) (hV : V1 = A1 + (-1) * C) (hV0 : 0 ≤ V1 ∧ V1 < 16777216 ^ 9) (sz : Nat) : Met l y_Mo_lessen (.code y_Mo_lessen b_Mo_lessen 8 none :: tb_ws) rm_Mo_lessen (MP D t ts [.ref o, .int (iI x1), .int (iI x2)] [(o, .inr (5, [.int (iI cd), .int (iI z), .int (iI lv), .ref qT, .ref qC, .ref qF, .ref qY, .ref qZ, .ref qu, .ref qv, .ref qw, .ref qg, .ref qh, .ref qx, .ref qc, .ref qa, .ref qb, .ref qd, .int (iI fm), .ref qp, .ref qq])), (qx, eL t.2.1 54 Wd)] sz) (va_Qv (fun u : Int → Int => bk u (9 * x1) V1 ∧ (∀ k, k < 9 * x1 ∨ 9 * x1 + 9 ≤ k → u k = Wd k)) (MB D (va_A [(o, .inr (5, [.int (iI cd), .int (iI z), .int (iI lv), .ref qT, .ref qC, .ref qF, .ref qY, .ref qZ, .ref qu, .ref qv, .ref qw, .ref qg, .ref qh, .ref qx, .ref qc, .ref qa, .ref qb, .ref qd, .int (iI fm), .ref qp, .ref qq])), (qx, eL t.2.1 54 Wd)] sz) (fun u : Int → Int => [(o, .inr (5, [.int (iI cd), .int (iI z), .int (iI lv), .ref qT, .ref qC, .ref qF, .ref qY, .ref qZ, .ref qu, .ref qv, .ref qw, .ref qg, .ref qh, .ref qx, .ref qc, .ref qa, .ref qb, .ref qd, .int (iI fm), .ref qp, .ref qq])), (qx, eL t.2.1 54 u)])) (va_A [(o, .inr (5, [.int (iI cd), .int (iI z), .int (iI lv), .ref qT, .ref qC, .ref qF, .ref qY, .ref qZ, .ref qu, .ref qv, .ref qw, .ref qg, .ref qh, .ref qx, .ref qc, .ref qa, .ref qb, .ref qd, .int (iI fm), .ref qp, .ref qq])), (qx, eL t.2.1 54 Wd)] sz)) 0 0 (va_A [(o, .inr (5, [.int (iI cd), .int (iI z), .int (iI lv), .ref qT, .ref qC, .ref qF, .ref qY, .ref qZ, .ref qu, .ref qv, .ref qw, .ref qg, .ref qh, .ref qx, .ref qc, .ref qa, .ref qb, .ref qd, .int (iI fm), .ref qp, .ref qq])), (qx, eL t.2.1 54 Wd)] sz) := by
  refine m_v (by decide +kernel) (Nat.le_of_ble_eq_true rfl) ?_
  intro zp ze zs zm zb zt zc zQ A ls hC hA hP hK hD hE hS hl ret
  have hl : lv_has ls 8 [(0, .ref o), (1, .int (iI x1)), (2, .int (iI x2))] := hl
  refine z_lconst (v := 0) hC d_Mo_lessen_0 (by decide) ?_
  refine lv_lstore_n (lv' := [(3, .long (lI 0)), (0, .ref o), (1, .int (iI x1)), (2, .int (iI x2))]) hC.1 hC.2.1 d_Mo_lessen_1 rfl hl (by decide) rfl (fun ls hl => ?_)
  refine z_iconst hC d_Mo_lessen_2 ?_
  refine lv_istore (lv' := [(5, .int (iI 0)), (3, .long (lI 0)), (0, .ref o), (1, .int (iI x1)), (2, .int (iI x2))]) hC.1 hC.2.1 d_Mo_lessen_3 hl (by decide) rfl (fun ls hl => ?_)
  have L5 : ∀ (fu : Nat) (G : Int → Int) (ov : Int) (i : Int) (H : Heap) (locs : List Loc) (ls : Array Slot), 9 - i + 1 ≤ (fu : Int) → (0 ≤ i ∧ i ≤ 9) → (-1 ≤ ov ∧ ov ≤ 0) → (gI Wd G x1 x2 (-1) i ov) → va_P D classes [(o, .inr (5, [.int (iI cd), .int (iI z), .int (iI lv), .ref qT, .ref qC, .ref qF, .ref qY, .ref qZ, .ref qu, .ref qv, .ref qw, .ref qg, .ref qh, .ref qx, .ref qc, .ref qa, .ref qb, .ref qd, .int (iI fm), .ref qp, .ref qq])), (qx, eL t.2.1 54 G)] H → va_D A [(o, .inr (5, [.int (iI cd), .int (iI z), .int (iI lv), .ref qT, .ref qC, .ref qF, .ref qY, .ref qZ, .ref qu, .ref qv, .ref qw, .ref qg, .ref qh, .ref qx, .ref qc, .ref qa, .ref qb, .ref qd, .int (iI fm), .ref qp, .ref qq])), (qx, eL t.2.1 54 G)] → va_S A zs.heap H locs → lv_has ls 8 [(5, .int (iI i)), (3, .long (lI ov)), (0, .ref o), (1, .int (iI x1)), (2, .int (iI x2))] → W zp l ze rm_Mo_lessen zs zm [.ref o, .int (iI x1), .int (iI x2)].toArray zb zt zc H locs 0 0 zQ (F0 zm 5 ls []) := by
    intro fu
    induction fu with
    | zero =>
      intro G ov i H locs ls hm5 hi hov hI hP hD hS hl
      exact absurd hm5 (by omega)
    | succ fu ih5 =>
      intro G ov i H locs ls hm5 hi hov hI hP hD hS hl
      refine lv_iload hC.1 hC.2.1 d_Mo_lessen_5 (lv_at hl 0 rfl) ?_
      refine z_bipush hC d_Mo_lessen_7 (by decide) ?_
      refine z_icmp_ge (tgt := 71) hC d_Mo_lessen_9 (by decide) (by omega) (by decide) (fun h9 => ?_) (fun h9 => ?_)
      · have hP9 := hP.sub (ws' := [(o, .inr (5, [.int (iI cd), .int (iI z), .int (iI lv), .ref qT, .ref qC, .ref qF, .ref qY, .ref qZ, .ref qu, .ref qv, .ref qw, .ref qg, .ref qh, .ref qx, .ref qc, .ref qa, .ref qb, .ref qd, .int (iI fm), .ref qp, .ref qq])), (qx, eL t.2.1 54 G)]) [0, 1] rfl
        have hD9 := hD.sub (ws' := [(o, .inr (5, [.int (iI cd), .int (iI z), .int (iI lv), .ref qT, .ref qC, .ref qF, .ref qY, .ref qZ, .ref qu, .ref qv, .ref qw, .ref qg, .ref qh, .ref qx, .ref qc, .ref qa, .ref qb, .ref qd, .int (iI fm), .ref qp, .ref qq])), (qx, eL t.2.1 54 G)]) [0, 1] (by decide) rfl
        exact ret G _ _ 71 _ d_Mo_lessen_71 (gI_end (by rw [show i = 9 by omega] at hI; exact hI) hB hE2 hV hV0) hP9 hD9 hS
      · have d1 := hI.2.1 i (by omega) (by omega)
        rw [show 9 * x1 + i = i + 9 * x1 by omega] at d1
        have d2 := hE2.1 i (by omega) (by omega)
        rw [← hI.1 (9 * x2 + i) (by omega), show 9 * x2 + i = i + 9 * x2 by omega] at d2
        refine lv_aload_n hC.1 hC.2.1 d_Mo_lessen_12 rfl (lv_at hl 2 rfl) ?_
        refine z_get (ci := 5) (C := R_Mo) (T := F_Mo) (N := 21) (v := .ref qx) hC in_Mo hK hP 0 rfl rfl 13 (by decide) k_466 rfl d_Mo_lessen_13 ?_
        refine z_bipush hC d_Mo_lessen_16 (by decide) ?_
        refine lv_iload_n hC.1 hC.2.1 d_Mo_lessen_18 rfl (lv_at hl 3 rfl) ?_
        refine z_imul hC d_Mo_lessen_19 ?_
        refine lv_iload hC.1 hC.2.1 d_Mo_lessen_20 (lv_at hl 0 rfl) ?_
        refine z_iadd hC d_Mo_lessen_22 ?_
        refine z_topi (z := i + 9 * x1) (by omega) ?_
        refine z_lald hC hK hP 1 rfl (by omega) d_Mo_lessen_23 ?_
        refine lv_aload_n hC.1 hC.2.1 d_Mo_lessen_24 rfl (lv_at hl 2 rfl) ?_
        refine z_get (ci := 5) (C := R_Mo) (T := F_Mo) (N := 21) (v := .ref qx) hC in_Mo hK hP 0 rfl rfl 13 (by decide) k_466 rfl d_Mo_lessen_25 ?_
        refine z_bipush hC d_Mo_lessen_28 (by decide) ?_
        refine lv_iload_n hC.1 hC.2.1 d_Mo_lessen_30 rfl (lv_at hl 4 rfl) ?_
        refine z_imul hC d_Mo_lessen_31 ?_
        refine lv_iload hC.1 hC.2.1 d_Mo_lessen_32 (lv_at hl 0 rfl) ?_
        refine z_iadd hC d_Mo_lessen_34 ?_
        refine z_topi (z := i + 9 * x2) (by omega) ?_
        refine z_lald hC hK hP 1 rfl (by omega) d_Mo_lessen_35 ?_
        refine z_lsub hC d_Mo_lessen_36 ?_
        refine z_topl (z := G (i + 9 * x1) - G (i + 9 * x2)) (by omega) ?_
        refine lv_lload_n hC.1 hC.2.1 d_Mo_lessen_37 rfl (lv_at hl 1 rfl) ?_
        refine z_ladd hC d_Mo_lessen_38 ?_
        refine z_topl (z := G (i + 9 * x1) - G (i + 9 * x2) + ov) (by omega) ?_
        refine lv_lstore (lv' := [(6, .long (lI (G (i + 9 * x1) - G (i + 9 * x2) + ov))), (5, .int (iI i)), (3, .long (lI ov)), (0, .ref o), (1, .int (iI x1)), (2, .int (iI x2))]) hC.1 hC.2.1 d_Mo_lessen_39 hl (by decide) rfl (fun ls hl => ?_)
        refine lv_aload_n hC.1 hC.2.1 d_Mo_lessen_41 rfl (lv_at hl 3 rfl) ?_
        refine z_get (ci := 5) (C := R_Mo) (T := F_Mo) (N := 21) (v := .ref qx) hC in_Mo hK hP 0 rfl rfl 13 (by decide) k_466 rfl d_Mo_lessen_42 ?_
        refine z_bipush hC d_Mo_lessen_45 (by decide) ?_
        refine lv_iload_n hC.1 hC.2.1 d_Mo_lessen_47 rfl (lv_at hl 4 rfl) ?_
        refine z_imul hC d_Mo_lessen_48 ?_
        refine lv_iload hC.1 hC.2.1 d_Mo_lessen_49 (lv_at hl 1 rfl) ?_
        refine z_iadd hC d_Mo_lessen_51 ?_
        refine z_topi (z := i + 9 * x1) (by omega) ?_
        refine lv_lload hC.1 hC.2.1 d_Mo_lessen_52 (lv_at hl 0 rfl) ?_
        refine z_ldc2 hC k_589 d_Mo_lessen_54 ?_
        refine z_land (z := ((G (i + 9 * x1) - G (i + 9 * x2) + ov) % 16777216)) hC (l_mask24 _) d_Mo_lessen_57 ?_
        refine z_last (ws' := [(o, .inr (5, [.int (iI cd), .int (iI z), .int (iI lv), .ref qT, .ref qC, .ref qF, .ref qY, .ref qZ, .ref qu, .ref qv, .ref qw, .ref qg, .ref qh, .ref qx, .ref qc, .ref qa, .ref qb, .ref qd, .int (iI fm), .ref qp, .ref qq])), (qx, eL t.2.1 54 (uZ G (i + 9 * x1) (((G (i + 9 * x1) - G (i + 9 * x2) + ov) % 16777216))))]) hC hK hP hD hS 1 rfl (by omega) rfl d_Mo_lessen_58 (fun H locs hP hD hS => ?_)
        refine lv_lload hC.1 hC.2.1 d_Mo_lessen_59 (lv_at hl 0 rfl) ?_
        refine z_bipush hC d_Mo_lessen_61 (by decide) ?_
        refine z_lshr (z := ((G (i + 9 * x1) - G (i + 9 * x2) + ov) / 16777216)) hC (l_shr24 (by omega)) d_Mo_lessen_63 ?_
        refine lv_lstore_n (lv' := [(3, .long (lI (((G (i + 9 * x1) - G (i + 9 * x2) + ov) / 16777216)))), (6, .long (lI (G (i + 9 * x1) - G (i + 9 * x2) + ov))), (5, .int (iI i)), (0, .ref o), (1, .int (iI x1)), (2, .int (iI x2))]) hC.1 hC.2.1 d_Mo_lessen_64 rfl hl (by decide) rfl (fun ls hl => ?_)
        refine lv_iinc (v := iI (i + 1)) (lv' := [(5, .int (iI (i + 1))), (3, .long (lI (((G (i + 9 * x1) - G (i + 9 * x2) + ov) / 16777216)))), (6, .long (lI (G (i + 9 * x1) - G (i + 9 * x2) + ov))), (0, .ref o), (1, .int (iI x1)), (2, .int (iI x2))]) hC.1 hC.2.1 d_Mo_lessen_65 hl (k := 2) rfl (z_inc (by omega)) (by decide) rfl (fun ls hl => ?_)
        refine z_goto (tgt := 5) hC d_Mo_lessen_68 (by decide) ?_
        exact ih5 (uZ G (i + 9 * x1) (((G (i + 9 * x1) - G (i + 9 * x2) + ov) % 16777216))) (((G (i + 9 * x1) - G (i + 9 * x2) + ov) / 16777216)) (i + 1) _ _ _ (by omega) (by omega) (by omega) (gI_s hI (by omega) (by omega) hxy (by omega)) (hP.sub (ws' := [(o, .inr (5, [.int (iI cd), .int (iI z), .int (iI lv), .ref qT, .ref qC, .ref qF, .ref qY, .ref qZ, .ref qu, .ref qv, .ref qw, .ref qg, .ref qh, .ref qx, .ref qc, .ref qa, .ref qb, .ref qd, .int (iI fm), .ref qp, .ref qq])), (qx, eL t.2.1 54 (uZ G (i + 9 * x1) (((G (i + 9 * x1) - G (i + 9 * x2) + ov) % 16777216))))]) [0, 1] rfl) (hD.sub (ws' := [(o, .inr (5, [.int (iI cd), .int (iI z), .int (iI lv), .ref qT, .ref qC, .ref qF, .ref qY, .ref qZ, .ref qu, .ref qv, .ref qw, .ref qg, .ref qh, .ref qx, .ref qc, .ref qa, .ref qb, .ref qd, .int (iI fm), .ref qp, .ref qq])), (qx, eL t.2.1 54 (uZ G (i + 9 * x1) (((G (i + 9 * x1) - G (i + 9 * x2) + ov) % 16777216))))]) [0, 1] (by decide) rfl) hS (lv_sub hl [0, 1, 3, 4, 5] rfl)
  exact L5 (9 - 0 + 1 : Int).toNat Wd 0 0 _ _ _ (by omega) (by omega) (by omega) (gI_0 hB.1) hP hD hS (lv_sub hl [0, 1, 2, 3, 4] rfl)
theorem ye_Mo_rootSign : ye y_Mo_rootSign R_Mo 2 := by unfold ye; decide +kernel
abbrev rm_Mo_rootSign : Room := { frames := 1, cells := 0, slots := 0, locals := 29 }
set_option maxHeartbeats 4000000 in
set_option maxRecDepth 100000 in
theorem c_Mo_rootSign (l : Launch) (D : va_G) (t : vt) (ts : Nat → Nat) (o qT qC qF qY qZ qu qv qw qg qh qx qc qa qb qd qp qq : Nat) (cd z lv fm : Int) (Wd : Int → Int) (x y : Int) (hx : -4611686018427387904 ≤ x ∧ x ≤ 4611686018427387904) (hy : -4611686018427387904 ≤ y ∧ y ≤ 4611686018427387904) (sz : Nat) : Met l y_Mo_rootSign (.code y_Mo_rootSign b_Mo_rootSign 5 (some .int) :: tb_ws) rm_Mo_rootSign (MP D t ts [.ref o, .long (lI x), .long (lI y)] [(o, .inr (5, [.int (iI cd), .int (iI z), .int (iI lv), .ref qT, .ref qC, .ref qF, .ref qY, .ref qZ, .ref qu, .ref qv, .ref qw, .ref qg, .ref qh, .ref qx, .ref qc, .ref qa, .ref qb, .ref qd, .int (iI fm), .ref qp, .ref qq])), (qx, eL t.2.1 54 Wd)] sz) (va_Qi (fun zr u => zr = iI ((fun u : Int × (Int → Int) => u.1) u) ∧ ((fun u : Int × (Int → Int) => u.1 = rsZ x y)) u) (MB D (va_A [(o, .inr (5, [.int (iI cd), .int (iI z), .int (iI lv), .ref qT, .ref qC, .ref qF, .ref qY, .ref qZ, .ref qu, .ref qv, .ref qw, .ref qg, .ref qh, .ref qx, .ref qc, .ref qa, .ref qb, .ref qd, .int (iI fm), .ref qp, .ref qq])), (qx, eL t.2.1 54 Wd)] sz) (fun u : Int × (Int → Int) => [(o, .inr (5, [.int (iI cd), .int (iI z), .int (iI lv), .ref qT, .ref qC, .ref qF, .ref qY, .ref qZ, .ref qu, .ref qv, .ref qw, .ref qg, .ref qh, .ref qx, .ref qc, .ref qa, .ref qb, .ref qd, .int (iI fm), .ref qp, .ref qq])), (qx, eL t.2.1 54 u.2)])) (va_A [(o, .inr (5, [.int (iI cd), .int (iI z), .int (iI lv), .ref qT, .ref qC, .ref qF, .ref qY, .ref qZ, .ref qu, .ref qv, .ref qw, .ref qg, .ref qh, .ref qx, .ref qc, .ref qa, .ref qb, .ref qd, .int (iI fm), .ref qp, .ref qq])), (qx, eL t.2.1 54 Wd)] sz)) 0 0 (va_A [(o, .inr (5, [.int (iI cd), .int (iI z), .int (iI lv), .ref qT, .ref qC, .ref qF, .ref qY, .ref qZ, .ref qu, .ref qv, .ref qw, .ref qg, .ref qh, .ref qx, .ref qc, .ref qa, .ref qb, .ref qd, .int (iI fm), .ref qp, .ref qq])), (qx, eL t.2.1 54 Wd)] sz) := by
  refine m_i (by decide +kernel) (Nat.le_of_ble_eq_true rfl) ?_
  intro zp ze zs zm zb zt zc zQ A ls hC hA hP hK hD hE hS hl ret
  have hl : lv_has ls 5 [(0, .ref o), (1, .long (lI x)), (3, .long (lI y))] := hl
  have retv : ∀ (u : Int × (Int → Int)) (H : Heap) (locs : List Loc) (pc : Nat) (ls : Array Slot) (zv : Int), decode b_Mo_rootSign pc = .ok (.ireturn, 1) → (zv = u.1 ∧ (u.1 = rsZ x y)) → va_P D classes ([(o, .inr (5, [.int (iI cd), .int (iI z), .int (iI lv), .ref qT, .ref qC, .ref qF, .ref qY, .ref qZ, .ref qu, .ref qv, .ref qw, .ref qg, .ref qh, .ref qx, .ref qc, .ref qa, .ref qb, .ref qd, .int (iI fm), .ref qp, .ref qq])), (qx, eL t.2.1 54 u.2)]) H → va_D A ([(o, .inr (5, [.int (iI cd), .int (iI z), .int (iI lv), .ref qT, .ref qC, .ref qF, .ref qY, .ref qZ, .ref qu, .ref qv, .ref qw, .ref qg, .ref qh, .ref qx, .ref qc, .ref qa, .ref qb, .ref qd, .int (iI fm), .ref qp, .ref qq])), (qx, eL t.2.1 54 u.2)]) → va_S A zs.heap H locs → W zp l ze rm_Mo_rootSign zs zm [.ref o, .long (lI x), .long (lI y)].toArray zb zt zc H locs 0 0 zQ (F0 zm pc ls [.int (iI zv)]) := fun u H locs pc ls v d h hP hD hS => by rw [h.1]; exact ret u H locs pc ls d h.2 hP hD hS
  refine lv_lload_n hC.1 hC.2.1 d_Mo_rootSign_0 rfl (lv_at hl 1 rfl) ?_
  refine z_lconst (v := 0) hC d_Mo_rootSign_1 (by decide) ?_
  refine z_lcmp_lt (tgt := 30) hC d_Mo_rootSign_2 d_Mo_rootSign_3 (by decide) (by omega) (by decide) (fun h2 => ?_) (fun h2 => ?_)
  · refine lv_lload_n hC.1 hC.2.1 d_Mo_rootSign_30 rfl (lv_at hl 1 rfl) ?_
    refine z_lconst (v := 0) hC d_Mo_rootSign_31 (by decide) ?_
    refine z_lcmp_gt (tgt := 44) hC d_Mo_rootSign_32 d_Mo_rootSign_33 (by decide) (by omega) (by decide) (fun h32 => ?_) (fun h32 => ?_)
    · have sx := szZ_in hx
      have sy := szZ_in hy
      have mx := mul_bd (a := szZ x) (b := szZ x) (A := 4611686018427387904) (B := 4611686018427387904) (by omega) (by omega)
      have my := mul_bd (a := szZ y) (b := szZ y) (A := 4611686018427387904) (B := 4611686018427387904) (by omega) (by omega)
      have mx0 : 0 ≤ szZ x * szZ x := Int.mul_nonneg sx.1 sx.1
      have my0 : 0 ≤ szZ y * szZ y := Int.mul_nonneg sy.1 sy.1
      refine lv_aload_n hC.1 hC.2.1 d_Mo_rootSign_44 rfl (lv_at hl 0 rfl) ?_
      refine z_iconst hC d_Mo_rootSign_45 ?_
      refine lv_lload_n hC.1 hC.2.1 d_Mo_rootSign_46 rfl (lv_at hl 1 rfl) ?_
      refine z_roSl (As := [.long (lI x)]) (rest := [.int (iI 0), .ref o]) hC (c_Mo_size l D t ts x (by omega)) (cw_S hC k_552 k_553 k_6 k_554 ye_Mo_size (by decide)) hP hK hE hS [] rfl rfl hl.1 rfl (Nat.le_of_ble_eq_true rfl) ⟨Nat.le_of_ble_eq_true rfl, Nat.le_of_ble_eq_true rfl⟩ d_Mo_rootSign_47 ?_
      refine z_mVv (As := [.int (iI 0), .long (lI (szZ x))]) (rest := []) (wr := []) hC (c_Mo_be l D t ts o qT qC qF qY qZ qu qv qw qg qh qx qc qa qb qd qp qq cd z lv fm Wd 0 (szZ x) (by decide) (by have := szZ_in (x := x) (by omega); omega) _) (cw_V hC k_585 k_587 kp_34 k_6 k_588 ye_Mo_be (by decide)) hP hD hK hE hS hA [0, 1] [] (by decide) rfl rfl (by decide) (by decide) 0 (ci := 5) rfl rfl rfl rfl hl.1 rfl (Nat.le_of_ble_eq_true rfl) ⟨Nat.le_of_ble_eq_true rfl, Nat.le_of_ble_eq_true rfl⟩ d_Mo_rootSign_50 (fun u1 H locs eu1 hP hD hS => ?_)
      have b0_u1 : bk u1 (9 * 0) (szZ x) := eu1.1
      have hP : va_P D classes [(o, .inr (5, [.int (iI cd), .int (iI z), .int (iI lv), .ref qT, .ref qC, .ref qF, .ref qY, .ref qZ, .ref qu, .ref qv, .ref qw, .ref qg, .ref qh, .ref qx, .ref qc, .ref qa, .ref qb, .ref qd, .int (iI fm), .ref qp, .ref qq])), (qx, eL t.2.1 54 u1)] H := hP
      have hD : va_D A [(o, .inr (5, [.int (iI cd), .int (iI z), .int (iI lv), .ref qT, .ref qC, .ref qF, .ref qY, .ref qZ, .ref qu, .ref qv, .ref qw, .ref qg, .ref qh, .ref qx, .ref qc, .ref qa, .ref qb, .ref qd, .int (iI fm), .ref qp, .ref qq])), (qx, eL t.2.1 54 u1)] := hD
      refine lv_aload_n hC.1 hC.2.1 d_Mo_rootSign_53 rfl (lv_at hl 0 rfl) ?_
      refine z_iconst hC d_Mo_rootSign_54 ?_
      refine z_iconst hC d_Mo_rootSign_55 ?_
      refine z_iconst hC d_Mo_rootSign_56 ?_
      refine z_mVv (As := [.int (iI 1), .int (iI 0), .int (iI 0)]) (rest := []) (wr := []) hC (c_Mo_product l D t ts o qT qC qF qY qZ qu qv qw qg qh qx qc qa qb qd qp qq cd z lv fm u1 1 0 0 (szZ x) (szZ x) (by decide) (by decide) (by decide) (by decide) (by decide) b0_u1 b0_u1 sx.1 sx.1 (by have := p9_big; omega) _) (cw_V hC k_590 k_592 kp_35 k_6 k_593 ye_Mo_product (by decide)) hP hD hK hE hS hA [0, 1] [] (by decide) rfl rfl (by decide) (by decide) 0 (ci := 5) rfl rfl rfl rfl hl.1 rfl (Nat.le_of_ble_eq_true rfl) ⟨Nat.le_of_ble_eq_true rfl, Nat.le_of_ble_eq_true rfl⟩ d_Mo_rootSign_57 (fun u2 H locs eu2 hP hD hS => ?_)
      have b0_u2 : bk u2 (9 * 0) (szZ x) := bk_keep b0_u1 eu2.2 (by omega)
      have b1_u2 : bk u2 (9 * 1) ((szZ x) * (szZ x)) := eu2.1
      have hP : va_P D classes [(o, .inr (5, [.int (iI cd), .int (iI z), .int (iI lv), .ref qT, .ref qC, .ref qF, .ref qY, .ref qZ, .ref qu, .ref qv, .ref qw, .ref qg, .ref qh, .ref qx, .ref qc, .ref qa, .ref qb, .ref qd, .int (iI fm), .ref qp, .ref qq])), (qx, eL t.2.1 54 u2)] H := hP
      have hD : va_D A [(o, .inr (5, [.int (iI cd), .int (iI z), .int (iI lv), .ref qT, .ref qC, .ref qF, .ref qY, .ref qZ, .ref qu, .ref qv, .ref qw, .ref qg, .ref qh, .ref qx, .ref qc, .ref qa, .ref qb, .ref qd, .int (iI fm), .ref qp, .ref qq])), (qx, eL t.2.1 54 u2)] := hD
      refine lv_aload_n hC.1 hC.2.1 d_Mo_rootSign_60 rfl (lv_at hl 0 rfl) ?_
      refine z_iconst hC d_Mo_rootSign_61 ?_
      refine lv_lload_n hC.1 hC.2.1 d_Mo_rootSign_62 rfl (lv_at hl 2 rfl) ?_
      refine z_roSl (As := [.long (lI y)]) (rest := [.int (iI 0), .ref o]) hC (c_Mo_size l D t ts y (by omega)) (cw_S hC k_552 k_553 k_6 k_554 ye_Mo_size (by decide)) hP hK hE hS [] rfl rfl hl.1 rfl (Nat.le_of_ble_eq_true rfl) ⟨Nat.le_of_ble_eq_true rfl, Nat.le_of_ble_eq_true rfl⟩ d_Mo_rootSign_63 ?_
      refine z_mVv (As := [.int (iI 0), .long (lI (szZ y))]) (rest := []) (wr := []) hC (c_Mo_be l D t ts o qT qC qF qY qZ qu qv qw qg qh qx qc qa qb qd qp qq cd z lv fm u2 0 (szZ y) (by decide) (by have := szZ_in (x := y) (by omega); omega) _) (cw_V hC k_585 k_587 kp_34 k_6 k_588 ye_Mo_be (by decide)) hP hD hK hE hS hA [0, 1] [] (by decide) rfl rfl (by decide) (by decide) 0 (ci := 5) rfl rfl rfl rfl hl.1 rfl (Nat.le_of_ble_eq_true rfl) ⟨Nat.le_of_ble_eq_true rfl, Nat.le_of_ble_eq_true rfl⟩ d_Mo_rootSign_66 (fun u3 H locs eu3 hP hD hS => ?_)
      have b1_u3 : bk u3 (9 * 1) ((szZ x) * (szZ x)) := bk_keep b1_u2 eu3.2 (by omega)
      have b0_u3 : bk u3 (9 * 0) (szZ y) := eu3.1
      have hP : va_P D classes [(o, .inr (5, [.int (iI cd), .int (iI z), .int (iI lv), .ref qT, .ref qC, .ref qF, .ref qY, .ref qZ, .ref qu, .ref qv, .ref qw, .ref qg, .ref qh, .ref qx, .ref qc, .ref qa, .ref qb, .ref qd, .int (iI fm), .ref qp, .ref qq])), (qx, eL t.2.1 54 u3)] H := hP
      have hD : va_D A [(o, .inr (5, [.int (iI cd), .int (iI z), .int (iI lv), .ref qT, .ref qC, .ref qF, .ref qY, .ref qZ, .ref qu, .ref qv, .ref qw, .ref qg, .ref qh, .ref qx, .ref qc, .ref qa, .ref qb, .ref qd, .int (iI fm), .ref qp, .ref qq])), (qx, eL t.2.1 54 u3)] := hD
      refine lv_aload_n hC.1 hC.2.1 d_Mo_rootSign_69 rfl (lv_at hl 0 rfl) ?_
      refine z_iconst hC d_Mo_rootSign_70 ?_
      refine z_iconst hC d_Mo_rootSign_71 ?_
      refine z_iconst hC d_Mo_rootSign_72 ?_
      refine z_mVv (As := [.int (iI 2), .int (iI 0), .int (iI 0)]) (rest := []) (wr := []) hC (c_Mo_product l D t ts o qT qC qF qY qZ qu qv qw qg qh qx qc qa qb qd qp qq cd z lv fm u3 2 0 0 (szZ y) (szZ y) (by decide) (by decide) (by decide) (by decide) (by decide) b0_u3 b0_u3 sy.1 sy.1 (by have := p9_big; omega) _) (cw_V hC k_590 k_592 kp_35 k_6 k_593 ye_Mo_product (by decide)) hP hD hK hE hS hA [0, 1] [] (by decide) rfl rfl (by decide) (by decide) 0 (ci := 5) rfl rfl rfl rfl hl.1 rfl (Nat.le_of_ble_eq_true rfl) ⟨Nat.le_of_ble_eq_true rfl, Nat.le_of_ble_eq_true rfl⟩ d_Mo_rootSign_73 (fun u4 H locs eu4 hP hD hS => ?_)
      have b1_u4 : bk u4 (9 * 1) ((szZ x) * (szZ x)) := bk_keep b1_u3 eu4.2 (by omega)
      have b0_u4 : bk u4 (9 * 0) (szZ y) := bk_keep b0_u3 eu4.2 (by omega)
      have b2_u4 : bk u4 (9 * 2) ((szZ y) * (szZ y)) := eu4.1
      have hP : va_P D classes [(o, .inr (5, [.int (iI cd), .int (iI z), .int (iI lv), .ref qT, .ref qC, .ref qF, .ref qY, .ref qZ, .ref qu, .ref qv, .ref qw, .ref qg, .ref qh, .ref qx, .ref qc, .ref qa, .ref qb, .ref qd, .int (iI fm), .ref qp, .ref qq])), (qx, eL t.2.1 54 u4)] H := hP
      have hD : va_D A [(o, .inr (5, [.int (iI cd), .int (iI z), .int (iI lv), .ref qT, .ref qC, .ref qF, .ref qY, .ref qZ, .ref qu, .ref qv, .ref qw, .ref qg, .ref qh, .ref qx, .ref qc, .ref qa, .ref qb, .ref qd, .int (iI fm), .ref qp, .ref qq])), (qx, eL t.2.1 54 u4)] := hD
      refine lv_aload_n hC.1 hC.2.1 d_Mo_rootSign_76 rfl (lv_at hl 0 rfl) ?_
      refine z_iconst hC d_Mo_rootSign_77 ?_
      refine z_ldc2 hC k_594 d_Mo_rootSign_78 ?_
      refine z_mVv (As := [.int (iI 0), .long (lI 5)]) (rest := []) (wr := []) hC (c_Mo_be l D t ts o qT qC qF qY qZ qu qv qw qg qh qx qc qa qb qd qp qq cd z lv fm u4 0 5 (by decide) (by decide) _) (cw_V hC k_585 k_587 kp_34 k_6 k_588 ye_Mo_be (by decide)) hP hD hK hE hS hA [0, 1] [] (by decide) rfl rfl (by decide) (by decide) 0 (ci := 5) rfl rfl rfl rfl hl.1 rfl (Nat.le_of_ble_eq_true rfl) ⟨Nat.le_of_ble_eq_true rfl, Nat.le_of_ble_eq_true rfl⟩ d_Mo_rootSign_81 (fun u5 H locs eu5 hP hD hS => ?_)
      have b1_u5 : bk u5 (9 * 1) ((szZ x) * (szZ x)) := bk_keep b1_u4 eu5.2 (by omega)
      have b2_u5 : bk u5 (9 * 2) ((szZ y) * (szZ y)) := bk_keep b2_u4 eu5.2 (by omega)
      have b0_u5 : bk u5 (9 * 0) 5 := eu5.1
      have hP : va_P D classes [(o, .inr (5, [.int (iI cd), .int (iI z), .int (iI lv), .ref qT, .ref qC, .ref qF, .ref qY, .ref qZ, .ref qu, .ref qv, .ref qw, .ref qg, .ref qh, .ref qx, .ref qc, .ref qa, .ref qb, .ref qd, .int (iI fm), .ref qp, .ref qq])), (qx, eL t.2.1 54 u5)] H := hP
      have hD : va_D A [(o, .inr (5, [.int (iI cd), .int (iI z), .int (iI lv), .ref qT, .ref qC, .ref qF, .ref qY, .ref qZ, .ref qu, .ref qv, .ref qw, .ref qg, .ref qh, .ref qx, .ref qc, .ref qa, .ref qb, .ref qd, .int (iI fm), .ref qp, .ref qq])), (qx, eL t.2.1 54 u5)] := hD
      refine lv_aload_n hC.1 hC.2.1 d_Mo_rootSign_84 rfl (lv_at hl 0 rfl) ?_
      refine z_iconst hC d_Mo_rootSign_85 ?_
      refine z_iconst hC d_Mo_rootSign_86 ?_
      refine z_iconst hC d_Mo_rootSign_87 ?_
      refine z_mVv (As := [.int (iI 3), .int (iI 2), .int (iI 0)]) (rest := []) (wr := []) hC (c_Mo_product l D t ts o qT qC qF qY qZ qu qv qw qg qh qx qc qa qb qd qp qq cd z lv fm u5 3 2 0 ((szZ y) * (szZ y)) 5 (by decide) (by decide) (by decide) (by decide) (by decide) b2_u5 b0_u5 my0 (by decide) (by have := p9_big; omega) _) (cw_V hC k_590 k_592 kp_35 k_6 k_593 ye_Mo_product (by decide)) hP hD hK hE hS hA [0, 1] [] (by decide) rfl rfl (by decide) (by decide) 0 (ci := 5) rfl rfl rfl rfl hl.1 rfl (Nat.le_of_ble_eq_true rfl) ⟨Nat.le_of_ble_eq_true rfl, Nat.le_of_ble_eq_true rfl⟩ d_Mo_rootSign_88 (fun u6 H locs eu6 hP hD hS => ?_)
      have b1_u6 : bk u6 (9 * 1) ((szZ x) * (szZ x)) := bk_keep b1_u5 eu6.2 (by omega)
      have b2_u6 : bk u6 (9 * 2) ((szZ y) * (szZ y)) := bk_keep b2_u5 eu6.2 (by omega)
      have b0_u6 : bk u6 (9 * 0) 5 := bk_keep b0_u5 eu6.2 (by omega)
      have b3_u6 : bk u6 (9 * 3) (((szZ y) * (szZ y)) * 5) := eu6.1
      have hP : va_P D classes [(o, .inr (5, [.int (iI cd), .int (iI z), .int (iI lv), .ref qT, .ref qC, .ref qF, .ref qY, .ref qZ, .ref qu, .ref qv, .ref qw, .ref qg, .ref qh, .ref qx, .ref qc, .ref qa, .ref qb, .ref qd, .int (iI fm), .ref qp, .ref qq])), (qx, eL t.2.1 54 u6)] H := hP
      have hD : va_D A [(o, .inr (5, [.int (iI cd), .int (iI z), .int (iI lv), .ref qT, .ref qC, .ref qF, .ref qY, .ref qZ, .ref qu, .ref qv, .ref qw, .ref qg, .ref qh, .ref qx, .ref qc, .ref qa, .ref qb, .ref qd, .int (iI fm), .ref qp, .ref qq])), (qx, eL t.2.1 54 u6)] := hD
      refine lv_aload_n hC.1 hC.2.1 d_Mo_rootSign_91 rfl (lv_at hl 0 rfl) ?_
      refine z_iconst hC d_Mo_rootSign_92 ?_
      refine z_iconst hC d_Mo_rootSign_93 ?_
      refine z_roVi (As := [.int (iI 1), .int (iI 3)]) (rest := []) hC (c_Mo_compare l D t ts o qT qC qF qY qZ qu qv qw qg qh qx qc qa qb qd qp qq cd z lv fm u6 1 3 ((szZ x) * (szZ x)) (((szZ y) * (szZ y)) * 5) (by decide) (by decide) b1_u6 b3_u6) (cw_V hC k_595 k_597 kp_36 k_6 k_598 ye_Mo_compare (by decide)) hP hK hE hS [0, 1] rfl 0 (ci := 5) rfl rfl rfl rfl hl.1 rfl (Nat.le_of_ble_eq_true rfl) ⟨Nat.le_of_ble_eq_true rfl, Nat.le_of_ble_eq_true rfl⟩ d_Mo_rootSign_94 ?_
      have h97s := sgn_in (szZ x * szZ x - szZ y * szZ y * 5)
      refine z_if_le (tgt := 104) hC d_Mo_rootSign_97 (by decide) (by have := sgn_in (((szZ x) * (szZ x)) - (((szZ y) * (szZ y)) * 5)); omega) (fun h97 => ?_) (fun h97 => ?_)
      · refine z_iconst hC d_Mo_rootSign_104 ?_
        refine lv_lload_n hC.1 hC.2.1 d_Mo_rootSign_105 rfl (lv_at hl 1 rfl) ?_
        refine z_lconst (v := 0) hC d_Mo_rootSign_106 (by decide) ?_
        refine z_lcmp_le (tgt := 115) hC d_Mo_rootSign_107 d_Mo_rootSign_108 (by decide) (by omega) (by decide) (fun h107 => ?_) (fun h107 => ?_)
        · refine z_iconst hC d_Mo_rootSign_115 ?_
          refine z_icmp_ne (tgt := 123) hC d_Mo_rootSign_116 (by decide) (by decide) (by decide) (fun h => absurd h (by decide)) (fun _ => ?_)
          refine z_iconst hC d_Mo_rootSign_119 ?_
          refine z_goto (tgt := 124) hC d_Mo_rootSign_120 (by decide) ?_
          have hP9 := hP.sub (ws' := [(o, .inr (5, [.int (iI cd), .int (iI z), .int (iI lv), .ref qT, .ref qC, .ref qF, .ref qY, .ref qZ, .ref qu, .ref qv, .ref qw, .ref qg, .ref qh, .ref qx, .ref qc, .ref qa, .ref qb, .ref qd, .int (iI fm), .ref qp, .ref qq])), (qx, eL t.2.1 54 u6)]) [0, 1] rfl
          have hD9 := hD.sub (ws' := [(o, .inr (5, [.int (iI cd), .int (iI z), .int (iI lv), .ref qT, .ref qC, .ref qF, .ref qY, .ref qZ, .ref qu, .ref qv, .ref qw, .ref qg, .ref qh, .ref qx, .ref qc, .ref qa, .ref qb, .ref qd, .int (iI fm), .ref qp, .ref qq])), (qx, eL t.2.1 54 u6)]) [0, 1] (by decide) rfl
          exact retv (1, u6) _ _ 124 _ _ d_Mo_rootSign_124 ⟨rfl, (by show 1 = _; unfold rsZ; rw [if_neg (by omega), if_neg (by omega), if_pos (by (first | rw [sgn_gt] at h97 | rw [sgn_le] at h97); simp; omega)])⟩ hP9 hD9 hS
        · refine z_iconst hC d_Mo_rootSign_111 ?_
          refine z_goto (tgt := 116) hC d_Mo_rootSign_112 (by decide) ?_
          refine z_icmp_ne (tgt := 123) hC d_Mo_rootSign_116 (by decide) (by decide) (by decide) (fun _ => ?_) (fun h => absurd h (by decide))
          refine z_iconst hC d_Mo_rootSign_123 ?_
          have hP9 := hP.sub (ws' := [(o, .inr (5, [.int (iI cd), .int (iI z), .int (iI lv), .ref qT, .ref qC, .ref qF, .ref qY, .ref qZ, .ref qu, .ref qv, .ref qw, .ref qg, .ref qh, .ref qx, .ref qc, .ref qa, .ref qb, .ref qd, .int (iI fm), .ref qp, .ref qq])), (qx, eL t.2.1 54 u6)]) [0, 1] rfl
          have hD9 := hD.sub (ws' := [(o, .inr (5, [.int (iI cd), .int (iI z), .int (iI lv), .ref qT, .ref qC, .ref qF, .ref qY, .ref qZ, .ref qu, .ref qv, .ref qw, .ref qg, .ref qh, .ref qx, .ref qc, .ref qa, .ref qb, .ref qd, .int (iI fm), .ref qp, .ref qq])), (qx, eL t.2.1 54 u6)]) [0, 1] (by decide) rfl
          exact retv (-1, u6) _ _ 124 _ _ d_Mo_rootSign_124 ⟨rfl, (by show -1 = _; unfold rsZ; rw [if_neg (by omega), if_neg (by omega), if_neg (by (first | rw [sgn_gt] at h97 | rw [sgn_le] at h97); simp; omega)])⟩ hP9 hD9 hS
      · refine z_iconst hC d_Mo_rootSign_100 ?_
        refine z_goto (tgt := 105) hC d_Mo_rootSign_101 (by decide) ?_
        refine lv_lload_n hC.1 hC.2.1 d_Mo_rootSign_105 rfl (lv_at hl 1 rfl) ?_
        refine z_lconst (v := 0) hC d_Mo_rootSign_106 (by decide) ?_
        refine z_lcmp_le (tgt := 115) hC d_Mo_rootSign_107 d_Mo_rootSign_108 (by decide) (by omega) (by decide) (fun h107 => ?_) (fun h107 => ?_)
        · refine z_iconst hC d_Mo_rootSign_115 ?_
          refine z_icmp_ne (tgt := 123) hC d_Mo_rootSign_116 (by decide) (by decide) (by decide) (fun _ => ?_) (fun h => absurd h (by decide))
          refine z_iconst hC d_Mo_rootSign_123 ?_
          have hP9 := hP.sub (ws' := [(o, .inr (5, [.int (iI cd), .int (iI z), .int (iI lv), .ref qT, .ref qC, .ref qF, .ref qY, .ref qZ, .ref qu, .ref qv, .ref qw, .ref qg, .ref qh, .ref qx, .ref qc, .ref qa, .ref qb, .ref qd, .int (iI fm), .ref qp, .ref qq])), (qx, eL t.2.1 54 u6)]) [0, 1] rfl
          have hD9 := hD.sub (ws' := [(o, .inr (5, [.int (iI cd), .int (iI z), .int (iI lv), .ref qT, .ref qC, .ref qF, .ref qY, .ref qZ, .ref qu, .ref qv, .ref qw, .ref qg, .ref qh, .ref qx, .ref qc, .ref qa, .ref qb, .ref qd, .int (iI fm), .ref qp, .ref qq])), (qx, eL t.2.1 54 u6)]) [0, 1] (by decide) rfl
          exact retv (-1, u6) _ _ 124 _ _ d_Mo_rootSign_124 ⟨rfl, (by show -1 = _; unfold rsZ; rw [if_neg (by omega), if_neg (by omega), if_neg (by (first | rw [sgn_gt] at h97 | rw [sgn_le] at h97); simp; omega)])⟩ hP9 hD9 hS
        · refine z_iconst hC d_Mo_rootSign_111 ?_
          refine z_goto (tgt := 116) hC d_Mo_rootSign_112 (by decide) ?_
          refine z_icmp_ne (tgt := 123) hC d_Mo_rootSign_116 (by decide) (by decide) (by decide) (fun h => absurd h (by decide)) (fun _ => ?_)
          refine z_iconst hC d_Mo_rootSign_119 ?_
          refine z_goto (tgt := 124) hC d_Mo_rootSign_120 (by decide) ?_
          have hP9 := hP.sub (ws' := [(o, .inr (5, [.int (iI cd), .int (iI z), .int (iI lv), .ref qT, .ref qC, .ref qF, .ref qY, .ref qZ, .ref qu, .ref qv, .ref qw, .ref qg, .ref qh, .ref qx, .ref qc, .ref qa, .ref qb, .ref qd, .int (iI fm), .ref qp, .ref qq])), (qx, eL t.2.1 54 u6)]) [0, 1] rfl
          have hD9 := hD.sub (ws' := [(o, .inr (5, [.int (iI cd), .int (iI z), .int (iI lv), .ref qT, .ref qC, .ref qF, .ref qY, .ref qZ, .ref qu, .ref qv, .ref qw, .ref qg, .ref qh, .ref qx, .ref qc, .ref qa, .ref qb, .ref qd, .int (iI fm), .ref qp, .ref qq])), (qx, eL t.2.1 54 u6)]) [0, 1] (by decide) rfl
          exact retv (1, u6) _ _ 124 _ _ d_Mo_rootSign_124 ⟨rfl, (by show 1 = _; unfold rsZ; rw [if_neg (by omega), if_neg (by omega), if_pos (by (first | rw [sgn_gt] at h97 | rw [sgn_le] at h97); simp; omega)])⟩ hP9 hD9 hS
    · refine lv_lload_n hC.1 hC.2.1 d_Mo_rootSign_36 rfl (lv_at hl 2 rfl) ?_
      refine z_lconst (v := 0) hC d_Mo_rootSign_37 (by decide) ?_
      refine z_lcmp_gt (tgt := 44) hC d_Mo_rootSign_38 d_Mo_rootSign_39 (by decide) (by omega) (by decide) (fun h38 => ?_) (fun h38 => ?_)
      · have sx := szZ_in hx
        have sy := szZ_in hy
        have mx := mul_bd (a := szZ x) (b := szZ x) (A := 4611686018427387904) (B := 4611686018427387904) (by omega) (by omega)
        have my := mul_bd (a := szZ y) (b := szZ y) (A := 4611686018427387904) (B := 4611686018427387904) (by omega) (by omega)
        have mx0 : 0 ≤ szZ x * szZ x := Int.mul_nonneg sx.1 sx.1
        have my0 : 0 ≤ szZ y * szZ y := Int.mul_nonneg sy.1 sy.1
        refine lv_aload_n hC.1 hC.2.1 d_Mo_rootSign_44 rfl (lv_at hl 0 rfl) ?_
        refine z_iconst hC d_Mo_rootSign_45 ?_
        refine lv_lload_n hC.1 hC.2.1 d_Mo_rootSign_46 rfl (lv_at hl 1 rfl) ?_
        refine z_roSl (As := [.long (lI x)]) (rest := [.int (iI 0), .ref o]) hC (c_Mo_size l D t ts x (by omega)) (cw_S hC k_552 k_553 k_6 k_554 ye_Mo_size (by decide)) hP hK hE hS [] rfl rfl hl.1 rfl (Nat.le_of_ble_eq_true rfl) ⟨Nat.le_of_ble_eq_true rfl, Nat.le_of_ble_eq_true rfl⟩ d_Mo_rootSign_47 ?_
        refine z_mVv (As := [.int (iI 0), .long (lI (szZ x))]) (rest := []) (wr := []) hC (c_Mo_be l D t ts o qT qC qF qY qZ qu qv qw qg qh qx qc qa qb qd qp qq cd z lv fm Wd 0 (szZ x) (by decide) (by have := szZ_in (x := x) (by omega); omega) _) (cw_V hC k_585 k_587 kp_34 k_6 k_588 ye_Mo_be (by decide)) hP hD hK hE hS hA [0, 1] [] (by decide) rfl rfl (by decide) (by decide) 0 (ci := 5) rfl rfl rfl rfl hl.1 rfl (Nat.le_of_ble_eq_true rfl) ⟨Nat.le_of_ble_eq_true rfl, Nat.le_of_ble_eq_true rfl⟩ d_Mo_rootSign_50 (fun u7 H locs eu7 hP hD hS => ?_)
        have b0_u7 : bk u7 (9 * 0) (szZ x) := eu7.1
        have hP : va_P D classes [(o, .inr (5, [.int (iI cd), .int (iI z), .int (iI lv), .ref qT, .ref qC, .ref qF, .ref qY, .ref qZ, .ref qu, .ref qv, .ref qw, .ref qg, .ref qh, .ref qx, .ref qc, .ref qa, .ref qb, .ref qd, .int (iI fm), .ref qp, .ref qq])), (qx, eL t.2.1 54 u7)] H := hP
        have hD : va_D A [(o, .inr (5, [.int (iI cd), .int (iI z), .int (iI lv), .ref qT, .ref qC, .ref qF, .ref qY, .ref qZ, .ref qu, .ref qv, .ref qw, .ref qg, .ref qh, .ref qx, .ref qc, .ref qa, .ref qb, .ref qd, .int (iI fm), .ref qp, .ref qq])), (qx, eL t.2.1 54 u7)] := hD
        refine lv_aload_n hC.1 hC.2.1 d_Mo_rootSign_53 rfl (lv_at hl 0 rfl) ?_
        refine z_iconst hC d_Mo_rootSign_54 ?_
        refine z_iconst hC d_Mo_rootSign_55 ?_
        refine z_iconst hC d_Mo_rootSign_56 ?_
        refine z_mVv (As := [.int (iI 1), .int (iI 0), .int (iI 0)]) (rest := []) (wr := []) hC (c_Mo_product l D t ts o qT qC qF qY qZ qu qv qw qg qh qx qc qa qb qd qp qq cd z lv fm u7 1 0 0 (szZ x) (szZ x) (by decide) (by decide) (by decide) (by decide) (by decide) b0_u7 b0_u7 sx.1 sx.1 (by have := p9_big; omega) _) (cw_V hC k_590 k_592 kp_35 k_6 k_593 ye_Mo_product (by decide)) hP hD hK hE hS hA [0, 1] [] (by decide) rfl rfl (by decide) (by decide) 0 (ci := 5) rfl rfl rfl rfl hl.1 rfl (Nat.le_of_ble_eq_true rfl) ⟨Nat.le_of_ble_eq_true rfl, Nat.le_of_ble_eq_true rfl⟩ d_Mo_rootSign_57 (fun u8 H locs eu8 hP hD hS => ?_)
        have b0_u8 : bk u8 (9 * 0) (szZ x) := bk_keep b0_u7 eu8.2 (by omega)
        have b1_u8 : bk u8 (9 * 1) ((szZ x) * (szZ x)) := eu8.1
        have hP : va_P D classes [(o, .inr (5, [.int (iI cd), .int (iI z), .int (iI lv), .ref qT, .ref qC, .ref qF, .ref qY, .ref qZ, .ref qu, .ref qv, .ref qw, .ref qg, .ref qh, .ref qx, .ref qc, .ref qa, .ref qb, .ref qd, .int (iI fm), .ref qp, .ref qq])), (qx, eL t.2.1 54 u8)] H := hP
        have hD : va_D A [(o, .inr (5, [.int (iI cd), .int (iI z), .int (iI lv), .ref qT, .ref qC, .ref qF, .ref qY, .ref qZ, .ref qu, .ref qv, .ref qw, .ref qg, .ref qh, .ref qx, .ref qc, .ref qa, .ref qb, .ref qd, .int (iI fm), .ref qp, .ref qq])), (qx, eL t.2.1 54 u8)] := hD
        refine lv_aload_n hC.1 hC.2.1 d_Mo_rootSign_60 rfl (lv_at hl 0 rfl) ?_
        refine z_iconst hC d_Mo_rootSign_61 ?_
        refine lv_lload_n hC.1 hC.2.1 d_Mo_rootSign_62 rfl (lv_at hl 2 rfl) ?_
        refine z_roSl (As := [.long (lI y)]) (rest := [.int (iI 0), .ref o]) hC (c_Mo_size l D t ts y (by omega)) (cw_S hC k_552 k_553 k_6 k_554 ye_Mo_size (by decide)) hP hK hE hS [] rfl rfl hl.1 rfl (Nat.le_of_ble_eq_true rfl) ⟨Nat.le_of_ble_eq_true rfl, Nat.le_of_ble_eq_true rfl⟩ d_Mo_rootSign_63 ?_
        refine z_mVv (As := [.int (iI 0), .long (lI (szZ y))]) (rest := []) (wr := []) hC (c_Mo_be l D t ts o qT qC qF qY qZ qu qv qw qg qh qx qc qa qb qd qp qq cd z lv fm u8 0 (szZ y) (by decide) (by have := szZ_in (x := y) (by omega); omega) _) (cw_V hC k_585 k_587 kp_34 k_6 k_588 ye_Mo_be (by decide)) hP hD hK hE hS hA [0, 1] [] (by decide) rfl rfl (by decide) (by decide) 0 (ci := 5) rfl rfl rfl rfl hl.1 rfl (Nat.le_of_ble_eq_true rfl) ⟨Nat.le_of_ble_eq_true rfl, Nat.le_of_ble_eq_true rfl⟩ d_Mo_rootSign_66 (fun u9 H locs eu9 hP hD hS => ?_)
        have b1_u9 : bk u9 (9 * 1) ((szZ x) * (szZ x)) := bk_keep b1_u8 eu9.2 (by omega)
        have b0_u9 : bk u9 (9 * 0) (szZ y) := eu9.1
        have hP : va_P D classes [(o, .inr (5, [.int (iI cd), .int (iI z), .int (iI lv), .ref qT, .ref qC, .ref qF, .ref qY, .ref qZ, .ref qu, .ref qv, .ref qw, .ref qg, .ref qh, .ref qx, .ref qc, .ref qa, .ref qb, .ref qd, .int (iI fm), .ref qp, .ref qq])), (qx, eL t.2.1 54 u9)] H := hP
        have hD : va_D A [(o, .inr (5, [.int (iI cd), .int (iI z), .int (iI lv), .ref qT, .ref qC, .ref qF, .ref qY, .ref qZ, .ref qu, .ref qv, .ref qw, .ref qg, .ref qh, .ref qx, .ref qc, .ref qa, .ref qb, .ref qd, .int (iI fm), .ref qp, .ref qq])), (qx, eL t.2.1 54 u9)] := hD
        refine lv_aload_n hC.1 hC.2.1 d_Mo_rootSign_69 rfl (lv_at hl 0 rfl) ?_
        refine z_iconst hC d_Mo_rootSign_70 ?_
        refine z_iconst hC d_Mo_rootSign_71 ?_
        refine z_iconst hC d_Mo_rootSign_72 ?_
        refine z_mVv (As := [.int (iI 2), .int (iI 0), .int (iI 0)]) (rest := []) (wr := []) hC (c_Mo_product l D t ts o qT qC qF qY qZ qu qv qw qg qh qx qc qa qb qd qp qq cd z lv fm u9 2 0 0 (szZ y) (szZ y) (by decide) (by decide) (by decide) (by decide) (by decide) b0_u9 b0_u9 sy.1 sy.1 (by have := p9_big; omega) _) (cw_V hC k_590 k_592 kp_35 k_6 k_593 ye_Mo_product (by decide)) hP hD hK hE hS hA [0, 1] [] (by decide) rfl rfl (by decide) (by decide) 0 (ci := 5) rfl rfl rfl rfl hl.1 rfl (Nat.le_of_ble_eq_true rfl) ⟨Nat.le_of_ble_eq_true rfl, Nat.le_of_ble_eq_true rfl⟩ d_Mo_rootSign_73 (fun u10 H locs eu10 hP hD hS => ?_)
        have b1_u10 : bk u10 (9 * 1) ((szZ x) * (szZ x)) := bk_keep b1_u9 eu10.2 (by omega)
        have b0_u10 : bk u10 (9 * 0) (szZ y) := bk_keep b0_u9 eu10.2 (by omega)
        have b2_u10 : bk u10 (9 * 2) ((szZ y) * (szZ y)) := eu10.1
        have hP : va_P D classes [(o, .inr (5, [.int (iI cd), .int (iI z), .int (iI lv), .ref qT, .ref qC, .ref qF, .ref qY, .ref qZ, .ref qu, .ref qv, .ref qw, .ref qg, .ref qh, .ref qx, .ref qc, .ref qa, .ref qb, .ref qd, .int (iI fm), .ref qp, .ref qq])), (qx, eL t.2.1 54 u10)] H := hP
        have hD : va_D A [(o, .inr (5, [.int (iI cd), .int (iI z), .int (iI lv), .ref qT, .ref qC, .ref qF, .ref qY, .ref qZ, .ref qu, .ref qv, .ref qw, .ref qg, .ref qh, .ref qx, .ref qc, .ref qa, .ref qb, .ref qd, .int (iI fm), .ref qp, .ref qq])), (qx, eL t.2.1 54 u10)] := hD
        refine lv_aload_n hC.1 hC.2.1 d_Mo_rootSign_76 rfl (lv_at hl 0 rfl) ?_
        refine z_iconst hC d_Mo_rootSign_77 ?_
        refine z_ldc2 hC k_594 d_Mo_rootSign_78 ?_
        refine z_mVv (As := [.int (iI 0), .long (lI 5)]) (rest := []) (wr := []) hC (c_Mo_be l D t ts o qT qC qF qY qZ qu qv qw qg qh qx qc qa qb qd qp qq cd z lv fm u10 0 5 (by decide) (by decide) _) (cw_V hC k_585 k_587 kp_34 k_6 k_588 ye_Mo_be (by decide)) hP hD hK hE hS hA [0, 1] [] (by decide) rfl rfl (by decide) (by decide) 0 (ci := 5) rfl rfl rfl rfl hl.1 rfl (Nat.le_of_ble_eq_true rfl) ⟨Nat.le_of_ble_eq_true rfl, Nat.le_of_ble_eq_true rfl⟩ d_Mo_rootSign_81 (fun u11 H locs eu11 hP hD hS => ?_)
        have b1_u11 : bk u11 (9 * 1) ((szZ x) * (szZ x)) := bk_keep b1_u10 eu11.2 (by omega)
        have b2_u11 : bk u11 (9 * 2) ((szZ y) * (szZ y)) := bk_keep b2_u10 eu11.2 (by omega)
        have b0_u11 : bk u11 (9 * 0) 5 := eu11.1
        have hP : va_P D classes [(o, .inr (5, [.int (iI cd), .int (iI z), .int (iI lv), .ref qT, .ref qC, .ref qF, .ref qY, .ref qZ, .ref qu, .ref qv, .ref qw, .ref qg, .ref qh, .ref qx, .ref qc, .ref qa, .ref qb, .ref qd, .int (iI fm), .ref qp, .ref qq])), (qx, eL t.2.1 54 u11)] H := hP
        have hD : va_D A [(o, .inr (5, [.int (iI cd), .int (iI z), .int (iI lv), .ref qT, .ref qC, .ref qF, .ref qY, .ref qZ, .ref qu, .ref qv, .ref qw, .ref qg, .ref qh, .ref qx, .ref qc, .ref qa, .ref qb, .ref qd, .int (iI fm), .ref qp, .ref qq])), (qx, eL t.2.1 54 u11)] := hD
        refine lv_aload_n hC.1 hC.2.1 d_Mo_rootSign_84 rfl (lv_at hl 0 rfl) ?_
        refine z_iconst hC d_Mo_rootSign_85 ?_
        refine z_iconst hC d_Mo_rootSign_86 ?_
        refine z_iconst hC d_Mo_rootSign_87 ?_
        refine z_mVv (As := [.int (iI 3), .int (iI 2), .int (iI 0)]) (rest := []) (wr := []) hC (c_Mo_product l D t ts o qT qC qF qY qZ qu qv qw qg qh qx qc qa qb qd qp qq cd z lv fm u11 3 2 0 ((szZ y) * (szZ y)) 5 (by decide) (by decide) (by decide) (by decide) (by decide) b2_u11 b0_u11 my0 (by decide) (by have := p9_big; omega) _) (cw_V hC k_590 k_592 kp_35 k_6 k_593 ye_Mo_product (by decide)) hP hD hK hE hS hA [0, 1] [] (by decide) rfl rfl (by decide) (by decide) 0 (ci := 5) rfl rfl rfl rfl hl.1 rfl (Nat.le_of_ble_eq_true rfl) ⟨Nat.le_of_ble_eq_true rfl, Nat.le_of_ble_eq_true rfl⟩ d_Mo_rootSign_88 (fun u12 H locs eu12 hP hD hS => ?_)
        have b1_u12 : bk u12 (9 * 1) ((szZ x) * (szZ x)) := bk_keep b1_u11 eu12.2 (by omega)
        have b2_u12 : bk u12 (9 * 2) ((szZ y) * (szZ y)) := bk_keep b2_u11 eu12.2 (by omega)
        have b0_u12 : bk u12 (9 * 0) 5 := bk_keep b0_u11 eu12.2 (by omega)
        have b3_u12 : bk u12 (9 * 3) (((szZ y) * (szZ y)) * 5) := eu12.1
        have hP : va_P D classes [(o, .inr (5, [.int (iI cd), .int (iI z), .int (iI lv), .ref qT, .ref qC, .ref qF, .ref qY, .ref qZ, .ref qu, .ref qv, .ref qw, .ref qg, .ref qh, .ref qx, .ref qc, .ref qa, .ref qb, .ref qd, .int (iI fm), .ref qp, .ref qq])), (qx, eL t.2.1 54 u12)] H := hP
        have hD : va_D A [(o, .inr (5, [.int (iI cd), .int (iI z), .int (iI lv), .ref qT, .ref qC, .ref qF, .ref qY, .ref qZ, .ref qu, .ref qv, .ref qw, .ref qg, .ref qh, .ref qx, .ref qc, .ref qa, .ref qb, .ref qd, .int (iI fm), .ref qp, .ref qq])), (qx, eL t.2.1 54 u12)] := hD
        refine lv_aload_n hC.1 hC.2.1 d_Mo_rootSign_91 rfl (lv_at hl 0 rfl) ?_
        refine z_iconst hC d_Mo_rootSign_92 ?_
        refine z_iconst hC d_Mo_rootSign_93 ?_
        refine z_roVi (As := [.int (iI 1), .int (iI 3)]) (rest := []) hC (c_Mo_compare l D t ts o qT qC qF qY qZ qu qv qw qg qh qx qc qa qb qd qp qq cd z lv fm u12 1 3 ((szZ x) * (szZ x)) (((szZ y) * (szZ y)) * 5) (by decide) (by decide) b1_u12 b3_u12) (cw_V hC k_595 k_597 kp_36 k_6 k_598 ye_Mo_compare (by decide)) hP hK hE hS [0, 1] rfl 0 (ci := 5) rfl rfl rfl rfl hl.1 rfl (Nat.le_of_ble_eq_true rfl) ⟨Nat.le_of_ble_eq_true rfl, Nat.le_of_ble_eq_true rfl⟩ d_Mo_rootSign_94 ?_
        have h97s := sgn_in (szZ x * szZ x - szZ y * szZ y * 5)
        refine z_if_le (tgt := 104) hC d_Mo_rootSign_97 (by decide) (by have := sgn_in (((szZ x) * (szZ x)) - (((szZ y) * (szZ y)) * 5)); omega) (fun h97 => ?_) (fun h97 => ?_)
        · refine z_iconst hC d_Mo_rootSign_104 ?_
          refine lv_lload_n hC.1 hC.2.1 d_Mo_rootSign_105 rfl (lv_at hl 1 rfl) ?_
          refine z_lconst (v := 0) hC d_Mo_rootSign_106 (by decide) ?_
          refine z_lcmp_le (tgt := 115) hC d_Mo_rootSign_107 d_Mo_rootSign_108 (by decide) (by omega) (by decide) (fun h107 => ?_) (fun h107 => ?_)
          · refine z_iconst hC d_Mo_rootSign_115 ?_
            refine z_icmp_ne (tgt := 123) hC d_Mo_rootSign_116 (by decide) (by decide) (by decide) (fun h => absurd h (by decide)) (fun _ => ?_)
            refine z_iconst hC d_Mo_rootSign_119 ?_
            refine z_goto (tgt := 124) hC d_Mo_rootSign_120 (by decide) ?_
            have hP9 := hP.sub (ws' := [(o, .inr (5, [.int (iI cd), .int (iI z), .int (iI lv), .ref qT, .ref qC, .ref qF, .ref qY, .ref qZ, .ref qu, .ref qv, .ref qw, .ref qg, .ref qh, .ref qx, .ref qc, .ref qa, .ref qb, .ref qd, .int (iI fm), .ref qp, .ref qq])), (qx, eL t.2.1 54 u12)]) [0, 1] rfl
            have hD9 := hD.sub (ws' := [(o, .inr (5, [.int (iI cd), .int (iI z), .int (iI lv), .ref qT, .ref qC, .ref qF, .ref qY, .ref qZ, .ref qu, .ref qv, .ref qw, .ref qg, .ref qh, .ref qx, .ref qc, .ref qa, .ref qb, .ref qd, .int (iI fm), .ref qp, .ref qq])), (qx, eL t.2.1 54 u12)]) [0, 1] (by decide) rfl
            exact retv (1, u12) _ _ 124 _ _ d_Mo_rootSign_124 ⟨rfl, (by show 1 = _; unfold rsZ; rw [if_neg (by omega), if_neg (by omega), if_pos (by (first | rw [sgn_gt] at h97 | rw [sgn_le] at h97); simp; omega)])⟩ hP9 hD9 hS
          · refine z_iconst hC d_Mo_rootSign_111 ?_
            refine z_goto (tgt := 116) hC d_Mo_rootSign_112 (by decide) ?_
            refine z_icmp_ne (tgt := 123) hC d_Mo_rootSign_116 (by decide) (by decide) (by decide) (fun _ => ?_) (fun h => absurd h (by decide))
            refine z_iconst hC d_Mo_rootSign_123 ?_
            have hP9 := hP.sub (ws' := [(o, .inr (5, [.int (iI cd), .int (iI z), .int (iI lv), .ref qT, .ref qC, .ref qF, .ref qY, .ref qZ, .ref qu, .ref qv, .ref qw, .ref qg, .ref qh, .ref qx, .ref qc, .ref qa, .ref qb, .ref qd, .int (iI fm), .ref qp, .ref qq])), (qx, eL t.2.1 54 u12)]) [0, 1] rfl
            have hD9 := hD.sub (ws' := [(o, .inr (5, [.int (iI cd), .int (iI z), .int (iI lv), .ref qT, .ref qC, .ref qF, .ref qY, .ref qZ, .ref qu, .ref qv, .ref qw, .ref qg, .ref qh, .ref qx, .ref qc, .ref qa, .ref qb, .ref qd, .int (iI fm), .ref qp, .ref qq])), (qx, eL t.2.1 54 u12)]) [0, 1] (by decide) rfl
            exact retv (-1, u12) _ _ 124 _ _ d_Mo_rootSign_124 ⟨rfl, (by show -1 = _; unfold rsZ; rw [if_neg (by omega), if_neg (by omega), if_neg (by (first | rw [sgn_gt] at h97 | rw [sgn_le] at h97); simp; omega)])⟩ hP9 hD9 hS
        · refine z_iconst hC d_Mo_rootSign_100 ?_
          refine z_goto (tgt := 105) hC d_Mo_rootSign_101 (by decide) ?_
          refine lv_lload_n hC.1 hC.2.1 d_Mo_rootSign_105 rfl (lv_at hl 1 rfl) ?_
          refine z_lconst (v := 0) hC d_Mo_rootSign_106 (by decide) ?_
          refine z_lcmp_le (tgt := 115) hC d_Mo_rootSign_107 d_Mo_rootSign_108 (by decide) (by omega) (by decide) (fun h107 => ?_) (fun h107 => ?_)
          · refine z_iconst hC d_Mo_rootSign_115 ?_
            refine z_icmp_ne (tgt := 123) hC d_Mo_rootSign_116 (by decide) (by decide) (by decide) (fun _ => ?_) (fun h => absurd h (by decide))
            refine z_iconst hC d_Mo_rootSign_123 ?_
            have hP9 := hP.sub (ws' := [(o, .inr (5, [.int (iI cd), .int (iI z), .int (iI lv), .ref qT, .ref qC, .ref qF, .ref qY, .ref qZ, .ref qu, .ref qv, .ref qw, .ref qg, .ref qh, .ref qx, .ref qc, .ref qa, .ref qb, .ref qd, .int (iI fm), .ref qp, .ref qq])), (qx, eL t.2.1 54 u12)]) [0, 1] rfl
            have hD9 := hD.sub (ws' := [(o, .inr (5, [.int (iI cd), .int (iI z), .int (iI lv), .ref qT, .ref qC, .ref qF, .ref qY, .ref qZ, .ref qu, .ref qv, .ref qw, .ref qg, .ref qh, .ref qx, .ref qc, .ref qa, .ref qb, .ref qd, .int (iI fm), .ref qp, .ref qq])), (qx, eL t.2.1 54 u12)]) [0, 1] (by decide) rfl
            exact retv (-1, u12) _ _ 124 _ _ d_Mo_rootSign_124 ⟨rfl, (by show -1 = _; unfold rsZ; rw [if_neg (by omega), if_neg (by omega), if_neg (by (first | rw [sgn_gt] at h97 | rw [sgn_le] at h97); simp; omega)])⟩ hP9 hD9 hS
          · refine z_iconst hC d_Mo_rootSign_111 ?_
            refine z_goto (tgt := 116) hC d_Mo_rootSign_112 (by decide) ?_
            refine z_icmp_ne (tgt := 123) hC d_Mo_rootSign_116 (by decide) (by decide) (by decide) (fun h => absurd h (by decide)) (fun _ => ?_)
            refine z_iconst hC d_Mo_rootSign_119 ?_
            refine z_goto (tgt := 124) hC d_Mo_rootSign_120 (by decide) ?_
            have hP9 := hP.sub (ws' := [(o, .inr (5, [.int (iI cd), .int (iI z), .int (iI lv), .ref qT, .ref qC, .ref qF, .ref qY, .ref qZ, .ref qu, .ref qv, .ref qw, .ref qg, .ref qh, .ref qx, .ref qc, .ref qa, .ref qb, .ref qd, .int (iI fm), .ref qp, .ref qq])), (qx, eL t.2.1 54 u12)]) [0, 1] rfl
            have hD9 := hD.sub (ws' := [(o, .inr (5, [.int (iI cd), .int (iI z), .int (iI lv), .ref qT, .ref qC, .ref qF, .ref qY, .ref qZ, .ref qu, .ref qv, .ref qw, .ref qg, .ref qh, .ref qx, .ref qc, .ref qa, .ref qb, .ref qd, .int (iI fm), .ref qp, .ref qq])), (qx, eL t.2.1 54 u12)]) [0, 1] (by decide) rfl
            exact retv (1, u12) _ _ 124 _ _ d_Mo_rootSign_124 ⟨rfl, (by show 1 = _; unfold rsZ; rw [if_neg (by omega), if_neg (by omega), if_pos (by (first | rw [sgn_gt] at h97 | rw [sgn_le] at h97); simp; omega)])⟩ hP9 hD9 hS
      · refine z_iconst hC d_Mo_rootSign_42 ?_
        have hP9 := hP.sub (ws' := [(o, .inr (5, [.int (iI cd), .int (iI z), .int (iI lv), .ref qT, .ref qC, .ref qF, .ref qY, .ref qZ, .ref qu, .ref qv, .ref qw, .ref qg, .ref qh, .ref qx, .ref qc, .ref qa, .ref qb, .ref qd, .int (iI fm), .ref qp, .ref qq])), (qx, eL t.2.1 54 Wd)]) [0, 1] rfl
        have hD9 := hD.sub (ws' := [(o, .inr (5, [.int (iI cd), .int (iI z), .int (iI lv), .ref qT, .ref qC, .ref qF, .ref qY, .ref qZ, .ref qu, .ref qv, .ref qw, .ref qg, .ref qh, .ref qx, .ref qc, .ref qa, .ref qb, .ref qd, .int (iI fm), .ref qp, .ref qq])), (qx, eL t.2.1 54 Wd)]) [0, 1] (by decide) rfl
        exact retv (-1, Wd) _ _ 43 _ _ d_Mo_rootSign_43 ⟨rfl, (by show -1 = _; unfold rsZ; rw [if_neg (by omega), if_pos (by omega)])⟩ hP9 hD9 hS
  · refine lv_lload_n hC.1 hC.2.1 d_Mo_rootSign_6 rfl (lv_at hl 2 rfl) ?_
    refine z_lconst (v := 0) hC d_Mo_rootSign_7 (by decide) ?_
    refine z_lcmp_lt (tgt := 30) hC d_Mo_rootSign_8 d_Mo_rootSign_9 (by decide) (by omega) (by decide) (fun h8 => ?_) (fun h8 => ?_)
    · refine lv_lload_n hC.1 hC.2.1 d_Mo_rootSign_30 rfl (lv_at hl 1 rfl) ?_
      refine z_lconst (v := 0) hC d_Mo_rootSign_31 (by decide) ?_
      refine z_lcmp_gt (tgt := 44) hC d_Mo_rootSign_32 d_Mo_rootSign_33 (by decide) (by omega) (by decide) (fun h32 => ?_) (fun h32 => ?_)
      · have sx := szZ_in hx
        have sy := szZ_in hy
        have mx := mul_bd (a := szZ x) (b := szZ x) (A := 4611686018427387904) (B := 4611686018427387904) (by omega) (by omega)
        have my := mul_bd (a := szZ y) (b := szZ y) (A := 4611686018427387904) (B := 4611686018427387904) (by omega) (by omega)
        have mx0 : 0 ≤ szZ x * szZ x := Int.mul_nonneg sx.1 sx.1
        have my0 : 0 ≤ szZ y * szZ y := Int.mul_nonneg sy.1 sy.1
        refine lv_aload_n hC.1 hC.2.1 d_Mo_rootSign_44 rfl (lv_at hl 0 rfl) ?_
        refine z_iconst hC d_Mo_rootSign_45 ?_
        refine lv_lload_n hC.1 hC.2.1 d_Mo_rootSign_46 rfl (lv_at hl 1 rfl) ?_
        refine z_roSl (As := [.long (lI x)]) (rest := [.int (iI 0), .ref o]) hC (c_Mo_size l D t ts x (by omega)) (cw_S hC k_552 k_553 k_6 k_554 ye_Mo_size (by decide)) hP hK hE hS [] rfl rfl hl.1 rfl (Nat.le_of_ble_eq_true rfl) ⟨Nat.le_of_ble_eq_true rfl, Nat.le_of_ble_eq_true rfl⟩ d_Mo_rootSign_47 ?_
        refine z_mVv (As := [.int (iI 0), .long (lI (szZ x))]) (rest := []) (wr := []) hC (c_Mo_be l D t ts o qT qC qF qY qZ qu qv qw qg qh qx qc qa qb qd qp qq cd z lv fm Wd 0 (szZ x) (by decide) (by have := szZ_in (x := x) (by omega); omega) _) (cw_V hC k_585 k_587 kp_34 k_6 k_588 ye_Mo_be (by decide)) hP hD hK hE hS hA [0, 1] [] (by decide) rfl rfl (by decide) (by decide) 0 (ci := 5) rfl rfl rfl rfl hl.1 rfl (Nat.le_of_ble_eq_true rfl) ⟨Nat.le_of_ble_eq_true rfl, Nat.le_of_ble_eq_true rfl⟩ d_Mo_rootSign_50 (fun u13 H locs eu13 hP hD hS => ?_)
        have b0_u13 : bk u13 (9 * 0) (szZ x) := eu13.1
        have hP : va_P D classes [(o, .inr (5, [.int (iI cd), .int (iI z), .int (iI lv), .ref qT, .ref qC, .ref qF, .ref qY, .ref qZ, .ref qu, .ref qv, .ref qw, .ref qg, .ref qh, .ref qx, .ref qc, .ref qa, .ref qb, .ref qd, .int (iI fm), .ref qp, .ref qq])), (qx, eL t.2.1 54 u13)] H := hP
        have hD : va_D A [(o, .inr (5, [.int (iI cd), .int (iI z), .int (iI lv), .ref qT, .ref qC, .ref qF, .ref qY, .ref qZ, .ref qu, .ref qv, .ref qw, .ref qg, .ref qh, .ref qx, .ref qc, .ref qa, .ref qb, .ref qd, .int (iI fm), .ref qp, .ref qq])), (qx, eL t.2.1 54 u13)] := hD
        refine lv_aload_n hC.1 hC.2.1 d_Mo_rootSign_53 rfl (lv_at hl 0 rfl) ?_
        refine z_iconst hC d_Mo_rootSign_54 ?_
        refine z_iconst hC d_Mo_rootSign_55 ?_
        refine z_iconst hC d_Mo_rootSign_56 ?_
        refine z_mVv (As := [.int (iI 1), .int (iI 0), .int (iI 0)]) (rest := []) (wr := []) hC (c_Mo_product l D t ts o qT qC qF qY qZ qu qv qw qg qh qx qc qa qb qd qp qq cd z lv fm u13 1 0 0 (szZ x) (szZ x) (by decide) (by decide) (by decide) (by decide) (by decide) b0_u13 b0_u13 sx.1 sx.1 (by have := p9_big; omega) _) (cw_V hC k_590 k_592 kp_35 k_6 k_593 ye_Mo_product (by decide)) hP hD hK hE hS hA [0, 1] [] (by decide) rfl rfl (by decide) (by decide) 0 (ci := 5) rfl rfl rfl rfl hl.1 rfl (Nat.le_of_ble_eq_true rfl) ⟨Nat.le_of_ble_eq_true rfl, Nat.le_of_ble_eq_true rfl⟩ d_Mo_rootSign_57 (fun u14 H locs eu14 hP hD hS => ?_)
        have b0_u14 : bk u14 (9 * 0) (szZ x) := bk_keep b0_u13 eu14.2 (by omega)
        have b1_u14 : bk u14 (9 * 1) ((szZ x) * (szZ x)) := eu14.1
        have hP : va_P D classes [(o, .inr (5, [.int (iI cd), .int (iI z), .int (iI lv), .ref qT, .ref qC, .ref qF, .ref qY, .ref qZ, .ref qu, .ref qv, .ref qw, .ref qg, .ref qh, .ref qx, .ref qc, .ref qa, .ref qb, .ref qd, .int (iI fm), .ref qp, .ref qq])), (qx, eL t.2.1 54 u14)] H := hP
        have hD : va_D A [(o, .inr (5, [.int (iI cd), .int (iI z), .int (iI lv), .ref qT, .ref qC, .ref qF, .ref qY, .ref qZ, .ref qu, .ref qv, .ref qw, .ref qg, .ref qh, .ref qx, .ref qc, .ref qa, .ref qb, .ref qd, .int (iI fm), .ref qp, .ref qq])), (qx, eL t.2.1 54 u14)] := hD
        refine lv_aload_n hC.1 hC.2.1 d_Mo_rootSign_60 rfl (lv_at hl 0 rfl) ?_
        refine z_iconst hC d_Mo_rootSign_61 ?_
        refine lv_lload_n hC.1 hC.2.1 d_Mo_rootSign_62 rfl (lv_at hl 2 rfl) ?_
        refine z_roSl (As := [.long (lI y)]) (rest := [.int (iI 0), .ref o]) hC (c_Mo_size l D t ts y (by omega)) (cw_S hC k_552 k_553 k_6 k_554 ye_Mo_size (by decide)) hP hK hE hS [] rfl rfl hl.1 rfl (Nat.le_of_ble_eq_true rfl) ⟨Nat.le_of_ble_eq_true rfl, Nat.le_of_ble_eq_true rfl⟩ d_Mo_rootSign_63 ?_
        refine z_mVv (As := [.int (iI 0), .long (lI (szZ y))]) (rest := []) (wr := []) hC (c_Mo_be l D t ts o qT qC qF qY qZ qu qv qw qg qh qx qc qa qb qd qp qq cd z lv fm u14 0 (szZ y) (by decide) (by have := szZ_in (x := y) (by omega); omega) _) (cw_V hC k_585 k_587 kp_34 k_6 k_588 ye_Mo_be (by decide)) hP hD hK hE hS hA [0, 1] [] (by decide) rfl rfl (by decide) (by decide) 0 (ci := 5) rfl rfl rfl rfl hl.1 rfl (Nat.le_of_ble_eq_true rfl) ⟨Nat.le_of_ble_eq_true rfl, Nat.le_of_ble_eq_true rfl⟩ d_Mo_rootSign_66 (fun u15 H locs eu15 hP hD hS => ?_)
        have b1_u15 : bk u15 (9 * 1) ((szZ x) * (szZ x)) := bk_keep b1_u14 eu15.2 (by omega)
        have b0_u15 : bk u15 (9 * 0) (szZ y) := eu15.1
        have hP : va_P D classes [(o, .inr (5, [.int (iI cd), .int (iI z), .int (iI lv), .ref qT, .ref qC, .ref qF, .ref qY, .ref qZ, .ref qu, .ref qv, .ref qw, .ref qg, .ref qh, .ref qx, .ref qc, .ref qa, .ref qb, .ref qd, .int (iI fm), .ref qp, .ref qq])), (qx, eL t.2.1 54 u15)] H := hP
        have hD : va_D A [(o, .inr (5, [.int (iI cd), .int (iI z), .int (iI lv), .ref qT, .ref qC, .ref qF, .ref qY, .ref qZ, .ref qu, .ref qv, .ref qw, .ref qg, .ref qh, .ref qx, .ref qc, .ref qa, .ref qb, .ref qd, .int (iI fm), .ref qp, .ref qq])), (qx, eL t.2.1 54 u15)] := hD
        refine lv_aload_n hC.1 hC.2.1 d_Mo_rootSign_69 rfl (lv_at hl 0 rfl) ?_
        refine z_iconst hC d_Mo_rootSign_70 ?_
        refine z_iconst hC d_Mo_rootSign_71 ?_
        refine z_iconst hC d_Mo_rootSign_72 ?_
        refine z_mVv (As := [.int (iI 2), .int (iI 0), .int (iI 0)]) (rest := []) (wr := []) hC (c_Mo_product l D t ts o qT qC qF qY qZ qu qv qw qg qh qx qc qa qb qd qp qq cd z lv fm u15 2 0 0 (szZ y) (szZ y) (by decide) (by decide) (by decide) (by decide) (by decide) b0_u15 b0_u15 sy.1 sy.1 (by have := p9_big; omega) _) (cw_V hC k_590 k_592 kp_35 k_6 k_593 ye_Mo_product (by decide)) hP hD hK hE hS hA [0, 1] [] (by decide) rfl rfl (by decide) (by decide) 0 (ci := 5) rfl rfl rfl rfl hl.1 rfl (Nat.le_of_ble_eq_true rfl) ⟨Nat.le_of_ble_eq_true rfl, Nat.le_of_ble_eq_true rfl⟩ d_Mo_rootSign_73 (fun u16 H locs eu16 hP hD hS => ?_)
        have b1_u16 : bk u16 (9 * 1) ((szZ x) * (szZ x)) := bk_keep b1_u15 eu16.2 (by omega)
        have b0_u16 : bk u16 (9 * 0) (szZ y) := bk_keep b0_u15 eu16.2 (by omega)
        have b2_u16 : bk u16 (9 * 2) ((szZ y) * (szZ y)) := eu16.1
        have hP : va_P D classes [(o, .inr (5, [.int (iI cd), .int (iI z), .int (iI lv), .ref qT, .ref qC, .ref qF, .ref qY, .ref qZ, .ref qu, .ref qv, .ref qw, .ref qg, .ref qh, .ref qx, .ref qc, .ref qa, .ref qb, .ref qd, .int (iI fm), .ref qp, .ref qq])), (qx, eL t.2.1 54 u16)] H := hP
        have hD : va_D A [(o, .inr (5, [.int (iI cd), .int (iI z), .int (iI lv), .ref qT, .ref qC, .ref qF, .ref qY, .ref qZ, .ref qu, .ref qv, .ref qw, .ref qg, .ref qh, .ref qx, .ref qc, .ref qa, .ref qb, .ref qd, .int (iI fm), .ref qp, .ref qq])), (qx, eL t.2.1 54 u16)] := hD
        refine lv_aload_n hC.1 hC.2.1 d_Mo_rootSign_76 rfl (lv_at hl 0 rfl) ?_
        refine z_iconst hC d_Mo_rootSign_77 ?_
        refine z_ldc2 hC k_594 d_Mo_rootSign_78 ?_
        refine z_mVv (As := [.int (iI 0), .long (lI 5)]) (rest := []) (wr := []) hC (c_Mo_be l D t ts o qT qC qF qY qZ qu qv qw qg qh qx qc qa qb qd qp qq cd z lv fm u16 0 5 (by decide) (by decide) _) (cw_V hC k_585 k_587 kp_34 k_6 k_588 ye_Mo_be (by decide)) hP hD hK hE hS hA [0, 1] [] (by decide) rfl rfl (by decide) (by decide) 0 (ci := 5) rfl rfl rfl rfl hl.1 rfl (Nat.le_of_ble_eq_true rfl) ⟨Nat.le_of_ble_eq_true rfl, Nat.le_of_ble_eq_true rfl⟩ d_Mo_rootSign_81 (fun u17 H locs eu17 hP hD hS => ?_)
        have b1_u17 : bk u17 (9 * 1) ((szZ x) * (szZ x)) := bk_keep b1_u16 eu17.2 (by omega)
        have b2_u17 : bk u17 (9 * 2) ((szZ y) * (szZ y)) := bk_keep b2_u16 eu17.2 (by omega)
        have b0_u17 : bk u17 (9 * 0) 5 := eu17.1
        have hP : va_P D classes [(o, .inr (5, [.int (iI cd), .int (iI z), .int (iI lv), .ref qT, .ref qC, .ref qF, .ref qY, .ref qZ, .ref qu, .ref qv, .ref qw, .ref qg, .ref qh, .ref qx, .ref qc, .ref qa, .ref qb, .ref qd, .int (iI fm), .ref qp, .ref qq])), (qx, eL t.2.1 54 u17)] H := hP
        have hD : va_D A [(o, .inr (5, [.int (iI cd), .int (iI z), .int (iI lv), .ref qT, .ref qC, .ref qF, .ref qY, .ref qZ, .ref qu, .ref qv, .ref qw, .ref qg, .ref qh, .ref qx, .ref qc, .ref qa, .ref qb, .ref qd, .int (iI fm), .ref qp, .ref qq])), (qx, eL t.2.1 54 u17)] := hD
        refine lv_aload_n hC.1 hC.2.1 d_Mo_rootSign_84 rfl (lv_at hl 0 rfl) ?_
        refine z_iconst hC d_Mo_rootSign_85 ?_
        refine z_iconst hC d_Mo_rootSign_86 ?_
        refine z_iconst hC d_Mo_rootSign_87 ?_
        refine z_mVv (As := [.int (iI 3), .int (iI 2), .int (iI 0)]) (rest := []) (wr := []) hC (c_Mo_product l D t ts o qT qC qF qY qZ qu qv qw qg qh qx qc qa qb qd qp qq cd z lv fm u17 3 2 0 ((szZ y) * (szZ y)) 5 (by decide) (by decide) (by decide) (by decide) (by decide) b2_u17 b0_u17 my0 (by decide) (by have := p9_big; omega) _) (cw_V hC k_590 k_592 kp_35 k_6 k_593 ye_Mo_product (by decide)) hP hD hK hE hS hA [0, 1] [] (by decide) rfl rfl (by decide) (by decide) 0 (ci := 5) rfl rfl rfl rfl hl.1 rfl (Nat.le_of_ble_eq_true rfl) ⟨Nat.le_of_ble_eq_true rfl, Nat.le_of_ble_eq_true rfl⟩ d_Mo_rootSign_88 (fun u18 H locs eu18 hP hD hS => ?_)
        have b1_u18 : bk u18 (9 * 1) ((szZ x) * (szZ x)) := bk_keep b1_u17 eu18.2 (by omega)
        have b2_u18 : bk u18 (9 * 2) ((szZ y) * (szZ y)) := bk_keep b2_u17 eu18.2 (by omega)
        have b0_u18 : bk u18 (9 * 0) 5 := bk_keep b0_u17 eu18.2 (by omega)
        have b3_u18 : bk u18 (9 * 3) (((szZ y) * (szZ y)) * 5) := eu18.1
        have hP : va_P D classes [(o, .inr (5, [.int (iI cd), .int (iI z), .int (iI lv), .ref qT, .ref qC, .ref qF, .ref qY, .ref qZ, .ref qu, .ref qv, .ref qw, .ref qg, .ref qh, .ref qx, .ref qc, .ref qa, .ref qb, .ref qd, .int (iI fm), .ref qp, .ref qq])), (qx, eL t.2.1 54 u18)] H := hP
        have hD : va_D A [(o, .inr (5, [.int (iI cd), .int (iI z), .int (iI lv), .ref qT, .ref qC, .ref qF, .ref qY, .ref qZ, .ref qu, .ref qv, .ref qw, .ref qg, .ref qh, .ref qx, .ref qc, .ref qa, .ref qb, .ref qd, .int (iI fm), .ref qp, .ref qq])), (qx, eL t.2.1 54 u18)] := hD
        refine lv_aload_n hC.1 hC.2.1 d_Mo_rootSign_91 rfl (lv_at hl 0 rfl) ?_
        refine z_iconst hC d_Mo_rootSign_92 ?_
        refine z_iconst hC d_Mo_rootSign_93 ?_
        refine z_roVi (As := [.int (iI 1), .int (iI 3)]) (rest := []) hC (c_Mo_compare l D t ts o qT qC qF qY qZ qu qv qw qg qh qx qc qa qb qd qp qq cd z lv fm u18 1 3 ((szZ x) * (szZ x)) (((szZ y) * (szZ y)) * 5) (by decide) (by decide) b1_u18 b3_u18) (cw_V hC k_595 k_597 kp_36 k_6 k_598 ye_Mo_compare (by decide)) hP hK hE hS [0, 1] rfl 0 (ci := 5) rfl rfl rfl rfl hl.1 rfl (Nat.le_of_ble_eq_true rfl) ⟨Nat.le_of_ble_eq_true rfl, Nat.le_of_ble_eq_true rfl⟩ d_Mo_rootSign_94 ?_
        have h97s := sgn_in (szZ x * szZ x - szZ y * szZ y * 5)
        refine z_if_le (tgt := 104) hC d_Mo_rootSign_97 (by decide) (by have := sgn_in (((szZ x) * (szZ x)) - (((szZ y) * (szZ y)) * 5)); omega) (fun h97 => ?_) (fun h97 => ?_)
        · refine z_iconst hC d_Mo_rootSign_104 ?_
          refine lv_lload_n hC.1 hC.2.1 d_Mo_rootSign_105 rfl (lv_at hl 1 rfl) ?_
          refine z_lconst (v := 0) hC d_Mo_rootSign_106 (by decide) ?_
          refine z_lcmp_le (tgt := 115) hC d_Mo_rootSign_107 d_Mo_rootSign_108 (by decide) (by omega) (by decide) (fun h107 => ?_) (fun h107 => ?_)
          · refine z_iconst hC d_Mo_rootSign_115 ?_
            refine z_icmp_ne (tgt := 123) hC d_Mo_rootSign_116 (by decide) (by decide) (by decide) (fun h => absurd h (by decide)) (fun _ => ?_)
            refine z_iconst hC d_Mo_rootSign_119 ?_
            refine z_goto (tgt := 124) hC d_Mo_rootSign_120 (by decide) ?_
            have hP9 := hP.sub (ws' := [(o, .inr (5, [.int (iI cd), .int (iI z), .int (iI lv), .ref qT, .ref qC, .ref qF, .ref qY, .ref qZ, .ref qu, .ref qv, .ref qw, .ref qg, .ref qh, .ref qx, .ref qc, .ref qa, .ref qb, .ref qd, .int (iI fm), .ref qp, .ref qq])), (qx, eL t.2.1 54 u18)]) [0, 1] rfl
            have hD9 := hD.sub (ws' := [(o, .inr (5, [.int (iI cd), .int (iI z), .int (iI lv), .ref qT, .ref qC, .ref qF, .ref qY, .ref qZ, .ref qu, .ref qv, .ref qw, .ref qg, .ref qh, .ref qx, .ref qc, .ref qa, .ref qb, .ref qd, .int (iI fm), .ref qp, .ref qq])), (qx, eL t.2.1 54 u18)]) [0, 1] (by decide) rfl
            exact retv (1, u18) _ _ 124 _ _ d_Mo_rootSign_124 ⟨rfl, (by show 1 = _; unfold rsZ; rw [if_neg (by omega), if_neg (by omega), if_pos (by (first | rw [sgn_gt] at h97 | rw [sgn_le] at h97); simp; omega)])⟩ hP9 hD9 hS
          · refine z_iconst hC d_Mo_rootSign_111 ?_
            refine z_goto (tgt := 116) hC d_Mo_rootSign_112 (by decide) ?_
            refine z_icmp_ne (tgt := 123) hC d_Mo_rootSign_116 (by decide) (by decide) (by decide) (fun _ => ?_) (fun h => absurd h (by decide))
            refine z_iconst hC d_Mo_rootSign_123 ?_
            have hP9 := hP.sub (ws' := [(o, .inr (5, [.int (iI cd), .int (iI z), .int (iI lv), .ref qT, .ref qC, .ref qF, .ref qY, .ref qZ, .ref qu, .ref qv, .ref qw, .ref qg, .ref qh, .ref qx, .ref qc, .ref qa, .ref qb, .ref qd, .int (iI fm), .ref qp, .ref qq])), (qx, eL t.2.1 54 u18)]) [0, 1] rfl
            have hD9 := hD.sub (ws' := [(o, .inr (5, [.int (iI cd), .int (iI z), .int (iI lv), .ref qT, .ref qC, .ref qF, .ref qY, .ref qZ, .ref qu, .ref qv, .ref qw, .ref qg, .ref qh, .ref qx, .ref qc, .ref qa, .ref qb, .ref qd, .int (iI fm), .ref qp, .ref qq])), (qx, eL t.2.1 54 u18)]) [0, 1] (by decide) rfl
            exact retv (-1, u18) _ _ 124 _ _ d_Mo_rootSign_124 ⟨rfl, (by show -1 = _; unfold rsZ; rw [if_neg (by omega), if_neg (by omega), if_neg (by (first | rw [sgn_gt] at h97 | rw [sgn_le] at h97); simp; omega)])⟩ hP9 hD9 hS
        · refine z_iconst hC d_Mo_rootSign_100 ?_
          refine z_goto (tgt := 105) hC d_Mo_rootSign_101 (by decide) ?_
          refine lv_lload_n hC.1 hC.2.1 d_Mo_rootSign_105 rfl (lv_at hl 1 rfl) ?_
          refine z_lconst (v := 0) hC d_Mo_rootSign_106 (by decide) ?_
          refine z_lcmp_le (tgt := 115) hC d_Mo_rootSign_107 d_Mo_rootSign_108 (by decide) (by omega) (by decide) (fun h107 => ?_) (fun h107 => ?_)
          · refine z_iconst hC d_Mo_rootSign_115 ?_
            refine z_icmp_ne (tgt := 123) hC d_Mo_rootSign_116 (by decide) (by decide) (by decide) (fun _ => ?_) (fun h => absurd h (by decide))
            refine z_iconst hC d_Mo_rootSign_123 ?_
            have hP9 := hP.sub (ws' := [(o, .inr (5, [.int (iI cd), .int (iI z), .int (iI lv), .ref qT, .ref qC, .ref qF, .ref qY, .ref qZ, .ref qu, .ref qv, .ref qw, .ref qg, .ref qh, .ref qx, .ref qc, .ref qa, .ref qb, .ref qd, .int (iI fm), .ref qp, .ref qq])), (qx, eL t.2.1 54 u18)]) [0, 1] rfl
            have hD9 := hD.sub (ws' := [(o, .inr (5, [.int (iI cd), .int (iI z), .int (iI lv), .ref qT, .ref qC, .ref qF, .ref qY, .ref qZ, .ref qu, .ref qv, .ref qw, .ref qg, .ref qh, .ref qx, .ref qc, .ref qa, .ref qb, .ref qd, .int (iI fm), .ref qp, .ref qq])), (qx, eL t.2.1 54 u18)]) [0, 1] (by decide) rfl
            exact retv (-1, u18) _ _ 124 _ _ d_Mo_rootSign_124 ⟨rfl, (by show -1 = _; unfold rsZ; rw [if_neg (by omega), if_neg (by omega), if_neg (by (first | rw [sgn_gt] at h97 | rw [sgn_le] at h97); simp; omega)])⟩ hP9 hD9 hS
          · refine z_iconst hC d_Mo_rootSign_111 ?_
            refine z_goto (tgt := 116) hC d_Mo_rootSign_112 (by decide) ?_
            refine z_icmp_ne (tgt := 123) hC d_Mo_rootSign_116 (by decide) (by decide) (by decide) (fun h => absurd h (by decide)) (fun _ => ?_)
            refine z_iconst hC d_Mo_rootSign_119 ?_
            refine z_goto (tgt := 124) hC d_Mo_rootSign_120 (by decide) ?_
            have hP9 := hP.sub (ws' := [(o, .inr (5, [.int (iI cd), .int (iI z), .int (iI lv), .ref qT, .ref qC, .ref qF, .ref qY, .ref qZ, .ref qu, .ref qv, .ref qw, .ref qg, .ref qh, .ref qx, .ref qc, .ref qa, .ref qb, .ref qd, .int (iI fm), .ref qp, .ref qq])), (qx, eL t.2.1 54 u18)]) [0, 1] rfl
            have hD9 := hD.sub (ws' := [(o, .inr (5, [.int (iI cd), .int (iI z), .int (iI lv), .ref qT, .ref qC, .ref qF, .ref qY, .ref qZ, .ref qu, .ref qv, .ref qw, .ref qg, .ref qh, .ref qx, .ref qc, .ref qa, .ref qb, .ref qd, .int (iI fm), .ref qp, .ref qq])), (qx, eL t.2.1 54 u18)]) [0, 1] (by decide) rfl
            exact retv (1, u18) _ _ 124 _ _ d_Mo_rootSign_124 ⟨rfl, (by show 1 = _; unfold rsZ; rw [if_neg (by omega), if_neg (by omega), if_pos (by (first | rw [sgn_gt] at h97 | rw [sgn_le] at h97); simp; omega)])⟩ hP9 hD9 hS
      · refine lv_lload_n hC.1 hC.2.1 d_Mo_rootSign_36 rfl (lv_at hl 2 rfl) ?_
        refine z_lconst (v := 0) hC d_Mo_rootSign_37 (by decide) ?_
        refine z_lcmp_gt (tgt := 44) hC d_Mo_rootSign_38 d_Mo_rootSign_39 (by decide) (by omega) (by decide) (fun h38 => ?_) (fun h38 => ?_)
        · have sx := szZ_in hx
          have sy := szZ_in hy
          have mx := mul_bd (a := szZ x) (b := szZ x) (A := 4611686018427387904) (B := 4611686018427387904) (by omega) (by omega)
          have my := mul_bd (a := szZ y) (b := szZ y) (A := 4611686018427387904) (B := 4611686018427387904) (by omega) (by omega)
          have mx0 : 0 ≤ szZ x * szZ x := Int.mul_nonneg sx.1 sx.1
          have my0 : 0 ≤ szZ y * szZ y := Int.mul_nonneg sy.1 sy.1
          refine lv_aload_n hC.1 hC.2.1 d_Mo_rootSign_44 rfl (lv_at hl 0 rfl) ?_
          refine z_iconst hC d_Mo_rootSign_45 ?_
          refine lv_lload_n hC.1 hC.2.1 d_Mo_rootSign_46 rfl (lv_at hl 1 rfl) ?_
          refine z_roSl (As := [.long (lI x)]) (rest := [.int (iI 0), .ref o]) hC (c_Mo_size l D t ts x (by omega)) (cw_S hC k_552 k_553 k_6 k_554 ye_Mo_size (by decide)) hP hK hE hS [] rfl rfl hl.1 rfl (Nat.le_of_ble_eq_true rfl) ⟨Nat.le_of_ble_eq_true rfl, Nat.le_of_ble_eq_true rfl⟩ d_Mo_rootSign_47 ?_
          refine z_mVv (As := [.int (iI 0), .long (lI (szZ x))]) (rest := []) (wr := []) hC (c_Mo_be l D t ts o qT qC qF qY qZ qu qv qw qg qh qx qc qa qb qd qp qq cd z lv fm Wd 0 (szZ x) (by decide) (by have := szZ_in (x := x) (by omega); omega) _) (cw_V hC k_585 k_587 kp_34 k_6 k_588 ye_Mo_be (by decide)) hP hD hK hE hS hA [0, 1] [] (by decide) rfl rfl (by decide) (by decide) 0 (ci := 5) rfl rfl rfl rfl hl.1 rfl (Nat.le_of_ble_eq_true rfl) ⟨Nat.le_of_ble_eq_true rfl, Nat.le_of_ble_eq_true rfl⟩ d_Mo_rootSign_50 (fun u19 H locs eu19 hP hD hS => ?_)
          have b0_u19 : bk u19 (9 * 0) (szZ x) := eu19.1
          have hP : va_P D classes [(o, .inr (5, [.int (iI cd), .int (iI z), .int (iI lv), .ref qT, .ref qC, .ref qF, .ref qY, .ref qZ, .ref qu, .ref qv, .ref qw, .ref qg, .ref qh, .ref qx, .ref qc, .ref qa, .ref qb, .ref qd, .int (iI fm), .ref qp, .ref qq])), (qx, eL t.2.1 54 u19)] H := hP
          have hD : va_D A [(o, .inr (5, [.int (iI cd), .int (iI z), .int (iI lv), .ref qT, .ref qC, .ref qF, .ref qY, .ref qZ, .ref qu, .ref qv, .ref qw, .ref qg, .ref qh, .ref qx, .ref qc, .ref qa, .ref qb, .ref qd, .int (iI fm), .ref qp, .ref qq])), (qx, eL t.2.1 54 u19)] := hD
          refine lv_aload_n hC.1 hC.2.1 d_Mo_rootSign_53 rfl (lv_at hl 0 rfl) ?_
          refine z_iconst hC d_Mo_rootSign_54 ?_
          refine z_iconst hC d_Mo_rootSign_55 ?_
          refine z_iconst hC d_Mo_rootSign_56 ?_
          refine z_mVv (As := [.int (iI 1), .int (iI 0), .int (iI 0)]) (rest := []) (wr := []) hC (c_Mo_product l D t ts o qT qC qF qY qZ qu qv qw qg qh qx qc qa qb qd qp qq cd z lv fm u19 1 0 0 (szZ x) (szZ x) (by decide) (by decide) (by decide) (by decide) (by decide) b0_u19 b0_u19 sx.1 sx.1 (by have := p9_big; omega) _) (cw_V hC k_590 k_592 kp_35 k_6 k_593 ye_Mo_product (by decide)) hP hD hK hE hS hA [0, 1] [] (by decide) rfl rfl (by decide) (by decide) 0 (ci := 5) rfl rfl rfl rfl hl.1 rfl (Nat.le_of_ble_eq_true rfl) ⟨Nat.le_of_ble_eq_true rfl, Nat.le_of_ble_eq_true rfl⟩ d_Mo_rootSign_57 (fun u20 H locs eu20 hP hD hS => ?_)
          have b0_u20 : bk u20 (9 * 0) (szZ x) := bk_keep b0_u19 eu20.2 (by omega)
          have b1_u20 : bk u20 (9 * 1) ((szZ x) * (szZ x)) := eu20.1
          have hP : va_P D classes [(o, .inr (5, [.int (iI cd), .int (iI z), .int (iI lv), .ref qT, .ref qC, .ref qF, .ref qY, .ref qZ, .ref qu, .ref qv, .ref qw, .ref qg, .ref qh, .ref qx, .ref qc, .ref qa, .ref qb, .ref qd, .int (iI fm), .ref qp, .ref qq])), (qx, eL t.2.1 54 u20)] H := hP
          have hD : va_D A [(o, .inr (5, [.int (iI cd), .int (iI z), .int (iI lv), .ref qT, .ref qC, .ref qF, .ref qY, .ref qZ, .ref qu, .ref qv, .ref qw, .ref qg, .ref qh, .ref qx, .ref qc, .ref qa, .ref qb, .ref qd, .int (iI fm), .ref qp, .ref qq])), (qx, eL t.2.1 54 u20)] := hD
          refine lv_aload_n hC.1 hC.2.1 d_Mo_rootSign_60 rfl (lv_at hl 0 rfl) ?_
          refine z_iconst hC d_Mo_rootSign_61 ?_
          refine lv_lload_n hC.1 hC.2.1 d_Mo_rootSign_62 rfl (lv_at hl 2 rfl) ?_
          refine z_roSl (As := [.long (lI y)]) (rest := [.int (iI 0), .ref o]) hC (c_Mo_size l D t ts y (by omega)) (cw_S hC k_552 k_553 k_6 k_554 ye_Mo_size (by decide)) hP hK hE hS [] rfl rfl hl.1 rfl (Nat.le_of_ble_eq_true rfl) ⟨Nat.le_of_ble_eq_true rfl, Nat.le_of_ble_eq_true rfl⟩ d_Mo_rootSign_63 ?_
          refine z_mVv (As := [.int (iI 0), .long (lI (szZ y))]) (rest := []) (wr := []) hC (c_Mo_be l D t ts o qT qC qF qY qZ qu qv qw qg qh qx qc qa qb qd qp qq cd z lv fm u20 0 (szZ y) (by decide) (by have := szZ_in (x := y) (by omega); omega) _) (cw_V hC k_585 k_587 kp_34 k_6 k_588 ye_Mo_be (by decide)) hP hD hK hE hS hA [0, 1] [] (by decide) rfl rfl (by decide) (by decide) 0 (ci := 5) rfl rfl rfl rfl hl.1 rfl (Nat.le_of_ble_eq_true rfl) ⟨Nat.le_of_ble_eq_true rfl, Nat.le_of_ble_eq_true rfl⟩ d_Mo_rootSign_66 (fun u21 H locs eu21 hP hD hS => ?_)
          have b1_u21 : bk u21 (9 * 1) ((szZ x) * (szZ x)) := bk_keep b1_u20 eu21.2 (by omega)
          have b0_u21 : bk u21 (9 * 0) (szZ y) := eu21.1
          have hP : va_P D classes [(o, .inr (5, [.int (iI cd), .int (iI z), .int (iI lv), .ref qT, .ref qC, .ref qF, .ref qY, .ref qZ, .ref qu, .ref qv, .ref qw, .ref qg, .ref qh, .ref qx, .ref qc, .ref qa, .ref qb, .ref qd, .int (iI fm), .ref qp, .ref qq])), (qx, eL t.2.1 54 u21)] H := hP
          have hD : va_D A [(o, .inr (5, [.int (iI cd), .int (iI z), .int (iI lv), .ref qT, .ref qC, .ref qF, .ref qY, .ref qZ, .ref qu, .ref qv, .ref qw, .ref qg, .ref qh, .ref qx, .ref qc, .ref qa, .ref qb, .ref qd, .int (iI fm), .ref qp, .ref qq])), (qx, eL t.2.1 54 u21)] := hD
          refine lv_aload_n hC.1 hC.2.1 d_Mo_rootSign_69 rfl (lv_at hl 0 rfl) ?_
          refine z_iconst hC d_Mo_rootSign_70 ?_
          refine z_iconst hC d_Mo_rootSign_71 ?_
          refine z_iconst hC d_Mo_rootSign_72 ?_
          refine z_mVv (As := [.int (iI 2), .int (iI 0), .int (iI 0)]) (rest := []) (wr := []) hC (c_Mo_product l D t ts o qT qC qF qY qZ qu qv qw qg qh qx qc qa qb qd qp qq cd z lv fm u21 2 0 0 (szZ y) (szZ y) (by decide) (by decide) (by decide) (by decide) (by decide) b0_u21 b0_u21 sy.1 sy.1 (by have := p9_big; omega) _) (cw_V hC k_590 k_592 kp_35 k_6 k_593 ye_Mo_product (by decide)) hP hD hK hE hS hA [0, 1] [] (by decide) rfl rfl (by decide) (by decide) 0 (ci := 5) rfl rfl rfl rfl hl.1 rfl (Nat.le_of_ble_eq_true rfl) ⟨Nat.le_of_ble_eq_true rfl, Nat.le_of_ble_eq_true rfl⟩ d_Mo_rootSign_73 (fun u22 H locs eu22 hP hD hS => ?_)
          have b1_u22 : bk u22 (9 * 1) ((szZ x) * (szZ x)) := bk_keep b1_u21 eu22.2 (by omega)
          have b0_u22 : bk u22 (9 * 0) (szZ y) := bk_keep b0_u21 eu22.2 (by omega)
          have b2_u22 : bk u22 (9 * 2) ((szZ y) * (szZ y)) := eu22.1
          have hP : va_P D classes [(o, .inr (5, [.int (iI cd), .int (iI z), .int (iI lv), .ref qT, .ref qC, .ref qF, .ref qY, .ref qZ, .ref qu, .ref qv, .ref qw, .ref qg, .ref qh, .ref qx, .ref qc, .ref qa, .ref qb, .ref qd, .int (iI fm), .ref qp, .ref qq])), (qx, eL t.2.1 54 u22)] H := hP
          have hD : va_D A [(o, .inr (5, [.int (iI cd), .int (iI z), .int (iI lv), .ref qT, .ref qC, .ref qF, .ref qY, .ref qZ, .ref qu, .ref qv, .ref qw, .ref qg, .ref qh, .ref qx, .ref qc, .ref qa, .ref qb, .ref qd, .int (iI fm), .ref qp, .ref qq])), (qx, eL t.2.1 54 u22)] := hD
          refine lv_aload_n hC.1 hC.2.1 d_Mo_rootSign_76 rfl (lv_at hl 0 rfl) ?_
          refine z_iconst hC d_Mo_rootSign_77 ?_
          refine z_ldc2 hC k_594 d_Mo_rootSign_78 ?_
          refine z_mVv (As := [.int (iI 0), .long (lI 5)]) (rest := []) (wr := []) hC (c_Mo_be l D t ts o qT qC qF qY qZ qu qv qw qg qh qx qc qa qb qd qp qq cd z lv fm u22 0 5 (by decide) (by decide) _) (cw_V hC k_585 k_587 kp_34 k_6 k_588 ye_Mo_be (by decide)) hP hD hK hE hS hA [0, 1] [] (by decide) rfl rfl (by decide) (by decide) 0 (ci := 5) rfl rfl rfl rfl hl.1 rfl (Nat.le_of_ble_eq_true rfl) ⟨Nat.le_of_ble_eq_true rfl, Nat.le_of_ble_eq_true rfl⟩ d_Mo_rootSign_81 (fun u23 H locs eu23 hP hD hS => ?_)
          have b1_u23 : bk u23 (9 * 1) ((szZ x) * (szZ x)) := bk_keep b1_u22 eu23.2 (by omega)
          have b2_u23 : bk u23 (9 * 2) ((szZ y) * (szZ y)) := bk_keep b2_u22 eu23.2 (by omega)
          have b0_u23 : bk u23 (9 * 0) 5 := eu23.1
          have hP : va_P D classes [(o, .inr (5, [.int (iI cd), .int (iI z), .int (iI lv), .ref qT, .ref qC, .ref qF, .ref qY, .ref qZ, .ref qu, .ref qv, .ref qw, .ref qg, .ref qh, .ref qx, .ref qc, .ref qa, .ref qb, .ref qd, .int (iI fm), .ref qp, .ref qq])), (qx, eL t.2.1 54 u23)] H := hP
          have hD : va_D A [(o, .inr (5, [.int (iI cd), .int (iI z), .int (iI lv), .ref qT, .ref qC, .ref qF, .ref qY, .ref qZ, .ref qu, .ref qv, .ref qw, .ref qg, .ref qh, .ref qx, .ref qc, .ref qa, .ref qb, .ref qd, .int (iI fm), .ref qp, .ref qq])), (qx, eL t.2.1 54 u23)] := hD
          refine lv_aload_n hC.1 hC.2.1 d_Mo_rootSign_84 rfl (lv_at hl 0 rfl) ?_
          refine z_iconst hC d_Mo_rootSign_85 ?_
          refine z_iconst hC d_Mo_rootSign_86 ?_
          refine z_iconst hC d_Mo_rootSign_87 ?_
          refine z_mVv (As := [.int (iI 3), .int (iI 2), .int (iI 0)]) (rest := []) (wr := []) hC (c_Mo_product l D t ts o qT qC qF qY qZ qu qv qw qg qh qx qc qa qb qd qp qq cd z lv fm u23 3 2 0 ((szZ y) * (szZ y)) 5 (by decide) (by decide) (by decide) (by decide) (by decide) b2_u23 b0_u23 my0 (by decide) (by have := p9_big; omega) _) (cw_V hC k_590 k_592 kp_35 k_6 k_593 ye_Mo_product (by decide)) hP hD hK hE hS hA [0, 1] [] (by decide) rfl rfl (by decide) (by decide) 0 (ci := 5) rfl rfl rfl rfl hl.1 rfl (Nat.le_of_ble_eq_true rfl) ⟨Nat.le_of_ble_eq_true rfl, Nat.le_of_ble_eq_true rfl⟩ d_Mo_rootSign_88 (fun u24 H locs eu24 hP hD hS => ?_)
          have b1_u24 : bk u24 (9 * 1) ((szZ x) * (szZ x)) := bk_keep b1_u23 eu24.2 (by omega)
          have b2_u24 : bk u24 (9 * 2) ((szZ y) * (szZ y)) := bk_keep b2_u23 eu24.2 (by omega)
          have b0_u24 : bk u24 (9 * 0) 5 := bk_keep b0_u23 eu24.2 (by omega)
          have b3_u24 : bk u24 (9 * 3) (((szZ y) * (szZ y)) * 5) := eu24.1
          have hP : va_P D classes [(o, .inr (5, [.int (iI cd), .int (iI z), .int (iI lv), .ref qT, .ref qC, .ref qF, .ref qY, .ref qZ, .ref qu, .ref qv, .ref qw, .ref qg, .ref qh, .ref qx, .ref qc, .ref qa, .ref qb, .ref qd, .int (iI fm), .ref qp, .ref qq])), (qx, eL t.2.1 54 u24)] H := hP
          have hD : va_D A [(o, .inr (5, [.int (iI cd), .int (iI z), .int (iI lv), .ref qT, .ref qC, .ref qF, .ref qY, .ref qZ, .ref qu, .ref qv, .ref qw, .ref qg, .ref qh, .ref qx, .ref qc, .ref qa, .ref qb, .ref qd, .int (iI fm), .ref qp, .ref qq])), (qx, eL t.2.1 54 u24)] := hD
          refine lv_aload_n hC.1 hC.2.1 d_Mo_rootSign_91 rfl (lv_at hl 0 rfl) ?_
          refine z_iconst hC d_Mo_rootSign_92 ?_
          refine z_iconst hC d_Mo_rootSign_93 ?_
          refine z_roVi (As := [.int (iI 1), .int (iI 3)]) (rest := []) hC (c_Mo_compare l D t ts o qT qC qF qY qZ qu qv qw qg qh qx qc qa qb qd qp qq cd z lv fm u24 1 3 ((szZ x) * (szZ x)) (((szZ y) * (szZ y)) * 5) (by decide) (by decide) b1_u24 b3_u24) (cw_V hC k_595 k_597 kp_36 k_6 k_598 ye_Mo_compare (by decide)) hP hK hE hS [0, 1] rfl 0 (ci := 5) rfl rfl rfl rfl hl.1 rfl (Nat.le_of_ble_eq_true rfl) ⟨Nat.le_of_ble_eq_true rfl, Nat.le_of_ble_eq_true rfl⟩ d_Mo_rootSign_94 ?_
          have h97s := sgn_in (szZ x * szZ x - szZ y * szZ y * 5)
          refine z_if_le (tgt := 104) hC d_Mo_rootSign_97 (by decide) (by have := sgn_in (((szZ x) * (szZ x)) - (((szZ y) * (szZ y)) * 5)); omega) (fun h97 => ?_) (fun h97 => ?_)
          · refine z_iconst hC d_Mo_rootSign_104 ?_
            refine lv_lload_n hC.1 hC.2.1 d_Mo_rootSign_105 rfl (lv_at hl 1 rfl) ?_
            refine z_lconst (v := 0) hC d_Mo_rootSign_106 (by decide) ?_
            refine z_lcmp_le (tgt := 115) hC d_Mo_rootSign_107 d_Mo_rootSign_108 (by decide) (by omega) (by decide) (fun h107 => ?_) (fun h107 => ?_)
            · refine z_iconst hC d_Mo_rootSign_115 ?_
              refine z_icmp_ne (tgt := 123) hC d_Mo_rootSign_116 (by decide) (by decide) (by decide) (fun h => absurd h (by decide)) (fun _ => ?_)
              refine z_iconst hC d_Mo_rootSign_119 ?_
              refine z_goto (tgt := 124) hC d_Mo_rootSign_120 (by decide) ?_
              have hP9 := hP.sub (ws' := [(o, .inr (5, [.int (iI cd), .int (iI z), .int (iI lv), .ref qT, .ref qC, .ref qF, .ref qY, .ref qZ, .ref qu, .ref qv, .ref qw, .ref qg, .ref qh, .ref qx, .ref qc, .ref qa, .ref qb, .ref qd, .int (iI fm), .ref qp, .ref qq])), (qx, eL t.2.1 54 u24)]) [0, 1] rfl
              have hD9 := hD.sub (ws' := [(o, .inr (5, [.int (iI cd), .int (iI z), .int (iI lv), .ref qT, .ref qC, .ref qF, .ref qY, .ref qZ, .ref qu, .ref qv, .ref qw, .ref qg, .ref qh, .ref qx, .ref qc, .ref qa, .ref qb, .ref qd, .int (iI fm), .ref qp, .ref qq])), (qx, eL t.2.1 54 u24)]) [0, 1] (by decide) rfl
              exact retv (1, u24) _ _ 124 _ _ d_Mo_rootSign_124 ⟨rfl, (by show 1 = _; unfold rsZ; rw [if_neg (by omega), if_neg (by omega), if_pos (by (first | rw [sgn_gt] at h97 | rw [sgn_le] at h97); simp; omega)])⟩ hP9 hD9 hS
            · refine z_iconst hC d_Mo_rootSign_111 ?_
              refine z_goto (tgt := 116) hC d_Mo_rootSign_112 (by decide) ?_
              refine z_icmp_ne (tgt := 123) hC d_Mo_rootSign_116 (by decide) (by decide) (by decide) (fun _ => ?_) (fun h => absurd h (by decide))
              refine z_iconst hC d_Mo_rootSign_123 ?_
              have hP9 := hP.sub (ws' := [(o, .inr (5, [.int (iI cd), .int (iI z), .int (iI lv), .ref qT, .ref qC, .ref qF, .ref qY, .ref qZ, .ref qu, .ref qv, .ref qw, .ref qg, .ref qh, .ref qx, .ref qc, .ref qa, .ref qb, .ref qd, .int (iI fm), .ref qp, .ref qq])), (qx, eL t.2.1 54 u24)]) [0, 1] rfl
              have hD9 := hD.sub (ws' := [(o, .inr (5, [.int (iI cd), .int (iI z), .int (iI lv), .ref qT, .ref qC, .ref qF, .ref qY, .ref qZ, .ref qu, .ref qv, .ref qw, .ref qg, .ref qh, .ref qx, .ref qc, .ref qa, .ref qb, .ref qd, .int (iI fm), .ref qp, .ref qq])), (qx, eL t.2.1 54 u24)]) [0, 1] (by decide) rfl
              exact retv (-1, u24) _ _ 124 _ _ d_Mo_rootSign_124 ⟨rfl, (by show -1 = _; unfold rsZ; rw [if_neg (by omega), if_neg (by omega), if_neg (by (first | rw [sgn_gt] at h97 | rw [sgn_le] at h97); simp; omega)])⟩ hP9 hD9 hS
          · refine z_iconst hC d_Mo_rootSign_100 ?_
            refine z_goto (tgt := 105) hC d_Mo_rootSign_101 (by decide) ?_
            refine lv_lload_n hC.1 hC.2.1 d_Mo_rootSign_105 rfl (lv_at hl 1 rfl) ?_
            refine z_lconst (v := 0) hC d_Mo_rootSign_106 (by decide) ?_
            refine z_lcmp_le (tgt := 115) hC d_Mo_rootSign_107 d_Mo_rootSign_108 (by decide) (by omega) (by decide) (fun h107 => ?_) (fun h107 => ?_)
            · refine z_iconst hC d_Mo_rootSign_115 ?_
              refine z_icmp_ne (tgt := 123) hC d_Mo_rootSign_116 (by decide) (by decide) (by decide) (fun _ => ?_) (fun h => absurd h (by decide))
              refine z_iconst hC d_Mo_rootSign_123 ?_
              have hP9 := hP.sub (ws' := [(o, .inr (5, [.int (iI cd), .int (iI z), .int (iI lv), .ref qT, .ref qC, .ref qF, .ref qY, .ref qZ, .ref qu, .ref qv, .ref qw, .ref qg, .ref qh, .ref qx, .ref qc, .ref qa, .ref qb, .ref qd, .int (iI fm), .ref qp, .ref qq])), (qx, eL t.2.1 54 u24)]) [0, 1] rfl
              have hD9 := hD.sub (ws' := [(o, .inr (5, [.int (iI cd), .int (iI z), .int (iI lv), .ref qT, .ref qC, .ref qF, .ref qY, .ref qZ, .ref qu, .ref qv, .ref qw, .ref qg, .ref qh, .ref qx, .ref qc, .ref qa, .ref qb, .ref qd, .int (iI fm), .ref qp, .ref qq])), (qx, eL t.2.1 54 u24)]) [0, 1] (by decide) rfl
              exact retv (-1, u24) _ _ 124 _ _ d_Mo_rootSign_124 ⟨rfl, (by show -1 = _; unfold rsZ; rw [if_neg (by omega), if_neg (by omega), if_neg (by (first | rw [sgn_gt] at h97 | rw [sgn_le] at h97); simp; omega)])⟩ hP9 hD9 hS
            · refine z_iconst hC d_Mo_rootSign_111 ?_
              refine z_goto (tgt := 116) hC d_Mo_rootSign_112 (by decide) ?_
              refine z_icmp_ne (tgt := 123) hC d_Mo_rootSign_116 (by decide) (by decide) (by decide) (fun h => absurd h (by decide)) (fun _ => ?_)
              refine z_iconst hC d_Mo_rootSign_119 ?_
              refine z_goto (tgt := 124) hC d_Mo_rootSign_120 (by decide) ?_
              have hP9 := hP.sub (ws' := [(o, .inr (5, [.int (iI cd), .int (iI z), .int (iI lv), .ref qT, .ref qC, .ref qF, .ref qY, .ref qZ, .ref qu, .ref qv, .ref qw, .ref qg, .ref qh, .ref qx, .ref qc, .ref qa, .ref qb, .ref qd, .int (iI fm), .ref qp, .ref qq])), (qx, eL t.2.1 54 u24)]) [0, 1] rfl
              have hD9 := hD.sub (ws' := [(o, .inr (5, [.int (iI cd), .int (iI z), .int (iI lv), .ref qT, .ref qC, .ref qF, .ref qY, .ref qZ, .ref qu, .ref qv, .ref qw, .ref qg, .ref qh, .ref qx, .ref qc, .ref qa, .ref qb, .ref qd, .int (iI fm), .ref qp, .ref qq])), (qx, eL t.2.1 54 u24)]) [0, 1] (by decide) rfl
              exact retv (1, u24) _ _ 124 _ _ d_Mo_rootSign_124 ⟨rfl, (by show 1 = _; unfold rsZ; rw [if_neg (by omega), if_neg (by omega), if_pos (by (first | rw [sgn_gt] at h97 | rw [sgn_le] at h97); simp; omega)])⟩ hP9 hD9 hS
        · refine z_iconst hC d_Mo_rootSign_42 ?_
          have hP9 := hP.sub (ws' := [(o, .inr (5, [.int (iI cd), .int (iI z), .int (iI lv), .ref qT, .ref qC, .ref qF, .ref qY, .ref qZ, .ref qu, .ref qv, .ref qw, .ref qg, .ref qh, .ref qx, .ref qc, .ref qa, .ref qb, .ref qd, .int (iI fm), .ref qp, .ref qq])), (qx, eL t.2.1 54 Wd)]) [0, 1] rfl
          have hD9 := hD.sub (ws' := [(o, .inr (5, [.int (iI cd), .int (iI z), .int (iI lv), .ref qT, .ref qC, .ref qF, .ref qY, .ref qZ, .ref qu, .ref qv, .ref qw, .ref qg, .ref qh, .ref qx, .ref qc, .ref qa, .ref qb, .ref qd, .int (iI fm), .ref qp, .ref qq])), (qx, eL t.2.1 54 Wd)]) [0, 1] (by decide) rfl
          exact retv (-1, Wd) _ _ 43 _ _ d_Mo_rootSign_43 ⟨rfl, (by show -1 = _; unfold rsZ; rw [if_neg (by omega), if_pos (by omega)])⟩ hP9 hD9 hS
    · refine lv_lload_n hC.1 hC.2.1 d_Mo_rootSign_12 rfl (lv_at hl 1 rfl) ?_
      refine z_lconst (v := 0) hC d_Mo_rootSign_13 (by decide) ?_
      refine z_lcmp_ne (tgt := 28) hC d_Mo_rootSign_14 d_Mo_rootSign_15 (by decide) (by omega) (by decide) (fun h14 => ?_) (fun h14 => ?_)
      · refine z_iconst hC d_Mo_rootSign_28 ?_
        have hP9 := hP.sub (ws' := [(o, .inr (5, [.int (iI cd), .int (iI z), .int (iI lv), .ref qT, .ref qC, .ref qF, .ref qY, .ref qZ, .ref qu, .ref qv, .ref qw, .ref qg, .ref qh, .ref qx, .ref qc, .ref qa, .ref qb, .ref qd, .int (iI fm), .ref qp, .ref qq])), (qx, eL t.2.1 54 Wd)]) [0, 1] rfl
        have hD9 := hD.sub (ws' := [(o, .inr (5, [.int (iI cd), .int (iI z), .int (iI lv), .ref qT, .ref qC, .ref qF, .ref qY, .ref qZ, .ref qu, .ref qv, .ref qw, .ref qg, .ref qh, .ref qx, .ref qc, .ref qa, .ref qb, .ref qd, .int (iI fm), .ref qp, .ref qq])), (qx, eL t.2.1 54 Wd)]) [0, 1] (by decide) rfl
        exact retv (1, Wd) _ _ 29 _ _ d_Mo_rootSign_29 ⟨rfl, (by show 1 = _; unfold rsZ; rw [if_pos (by omega), if_neg (by omega)])⟩ hP9 hD9 hS
      · refine lv_lload_n hC.1 hC.2.1 d_Mo_rootSign_18 rfl (lv_at hl 2 rfl) ?_
        refine z_lconst (v := 0) hC d_Mo_rootSign_19 (by decide) ?_
        refine z_lcmp_ne (tgt := 28) hC d_Mo_rootSign_20 d_Mo_rootSign_21 (by decide) (by omega) (by decide) (fun h20 => ?_) (fun h20 => ?_)
        · refine z_iconst hC d_Mo_rootSign_28 ?_
          have hP9 := hP.sub (ws' := [(o, .inr (5, [.int (iI cd), .int (iI z), .int (iI lv), .ref qT, .ref qC, .ref qF, .ref qY, .ref qZ, .ref qu, .ref qv, .ref qw, .ref qg, .ref qh, .ref qx, .ref qc, .ref qa, .ref qb, .ref qd, .int (iI fm), .ref qp, .ref qq])), (qx, eL t.2.1 54 Wd)]) [0, 1] rfl
          have hD9 := hD.sub (ws' := [(o, .inr (5, [.int (iI cd), .int (iI z), .int (iI lv), .ref qT, .ref qC, .ref qF, .ref qY, .ref qZ, .ref qu, .ref qv, .ref qw, .ref qg, .ref qh, .ref qx, .ref qc, .ref qa, .ref qb, .ref qd, .int (iI fm), .ref qp, .ref qq])), (qx, eL t.2.1 54 Wd)]) [0, 1] (by decide) rfl
          exact retv (1, Wd) _ _ 29 _ _ d_Mo_rootSign_29 ⟨rfl, (by show 1 = _; unfold rsZ; rw [if_pos (by omega), if_neg (by omega)])⟩ hP9 hD9 hS
        · refine z_iconst hC d_Mo_rootSign_24 ?_
          refine z_goto (tgt := 29) hC d_Mo_rootSign_25 (by decide) ?_
          have hP9 := hP.sub (ws' := [(o, .inr (5, [.int (iI cd), .int (iI z), .int (iI lv), .ref qT, .ref qC, .ref qF, .ref qY, .ref qZ, .ref qu, .ref qv, .ref qw, .ref qg, .ref qh, .ref qx, .ref qc, .ref qa, .ref qb, .ref qd, .int (iI fm), .ref qp, .ref qq])), (qx, eL t.2.1 54 Wd)]) [0, 1] rfl
          have hD9 := hD.sub (ws' := [(o, .inr (5, [.int (iI cd), .int (iI z), .int (iI lv), .ref qT, .ref qC, .ref qF, .ref qY, .ref qZ, .ref qu, .ref qv, .ref qw, .ref qg, .ref qh, .ref qx, .ref qc, .ref qa, .ref qb, .ref qd, .int (iI fm), .ref qp, .ref qq])), (qx, eL t.2.1 54 Wd)]) [0, 1] (by decide) rfl
          exact retv (0, Wd) _ _ 29 _ _ d_Mo_rootSign_29 ⟨rfl, (by show 0 = _; unfold rsZ; rw [if_pos (by omega), if_pos (by omega)])⟩ hP9 hD9 hS
