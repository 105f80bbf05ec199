theorem ye_Mo_sign : ye y_Mo_sign R_Mo 2 := by unfold ye; decide +kernel
abbrev rm_Mo_sign : Room := { frames := 2, cells := 0, slots := 0, locals := 53 }
set_option maxHeartbeats 4000000 in
set_option maxRecDepth 100000 in
theorem c_Mo_sign (l : Launch) (D : va_G) (t : vt) (ts : Nat → Nat) (o qT qC qF qY qZ qu qv qw qg qh qx qc qa qb qd qp qq : Nat) (cd z lv fm : Int) (Wd : Int → Int) (m n : Int) (hm : -1000000000000000000 ≤ m ∧ m ≤ 1000000000000000000) (hn : -1000000000000000000 ≤ n ∧ n ≤ 1000000000000000000) (sz : Nat) : Met l y_Mo_sign (.code y_Mo_sign b_Mo_sign 5 (some .int) :: tb_ws) rm_Mo_sign (MP D t ts [.ref o, .long (lI m), .long (lI n)] [(o, .inr (5, [.int (iI cd), .int (iI z), .int (iI lv), .ref qT, .ref qC, .ref qF, .ref qY, .ref qZ, .ref qu, .ref qv, .ref qw, .ref qg, .ref qh, .ref qx, .ref qc, .ref qa, .ref qb, .ref qd, .int (iI fm), .ref qp, .ref qq])), (qx, eL t.2.1 54 Wd)] sz) (va_Qi (fun zr u => zr = iI ((fun u : Int × (Int → Int) => u.1) u) ∧ ((fun u : Int × (Int → Int) => u.1 = sgZ m n)) u) (MB D (va_A [(o, .inr (5, [.int (iI cd), .int (iI z), .int (iI lv), .ref qT, .ref qC, .ref qF, .ref qY, .ref qZ, .ref qu, .ref qv, .ref qw, .ref qg, .ref qh, .ref qx, .ref qc, .ref qa, .ref qb, .ref qd, .int (iI fm), .ref qp, .ref qq])), (qx, eL t.2.1 54 Wd)] sz) (fun u : Int × (Int → Int) => [(o, .inr (5, [.int (iI cd), .int (iI z), .int (iI lv), .ref qT, .ref qC, .ref qF, .ref qY, .ref qZ, .ref qu, .ref qv, .ref qw, .ref qg, .ref qh, .ref qx, .ref qc, .ref qa, .ref qb, .ref qd, .int (iI fm), .ref qp, .ref qq])), (qx, eL t.2.1 54 u.2)])) (va_A [(o, .inr (5, [.int (iI cd), .int (iI z), .int (iI lv), .ref qT, .ref qC, .ref qF, .ref qY, .ref qZ, .ref qu, .ref qv, .ref qw, .ref qg, .ref qh, .ref qx, .ref qc, .ref qa, .ref qb, .ref qd, .int (iI fm), .ref qp, .ref qq])), (qx, eL t.2.1 54 Wd)] sz)) 0 0 (va_A [(o, .inr (5, [.int (iI cd), .int (iI z), .int (iI lv), .ref qT, .ref qC, .ref qF, .ref qY, .ref qZ, .ref qu, .ref qv, .ref qw, .ref qg, .ref qh, .ref qx, .ref qc, .ref qa, .ref qb, .ref qd, .int (iI fm), .ref qp, .ref qq])), (qx, eL t.2.1 54 Wd)] sz) := by
  refine m_i (by decide +kernel) (Nat.le_of_ble_eq_true rfl) ?_
  intro zp ze zs zm zb zt zc zQ A ls hC hA hP hK hD hE hS hl ret
  have hl : lv_has ls 5 [(0, .ref o), (1, .long (lI m)), (3, .long (lI n))] := hl
  have retv : ∀ (u : Int × (Int → Int)) (H : Heap) (locs : List Loc) (pc : Nat) (ls : Array Slot) (zv : Int), decode b_Mo_sign pc = .ok (.ireturn, 1) → (zv = u.1 ∧ (u.1 = sgZ m n)) → va_P D classes ([(o, .inr (5, [.int (iI cd), .int (iI z), .int (iI lv), .ref qT, .ref qC, .ref qF, .ref qY, .ref qZ, .ref qu, .ref qv, .ref qw, .ref qg, .ref qh, .ref qx, .ref qc, .ref qa, .ref qb, .ref qd, .int (iI fm), .ref qp, .ref qq])), (qx, eL t.2.1 54 u.2)]) H → va_D A ([(o, .inr (5, [.int (iI cd), .int (iI z), .int (iI lv), .ref qT, .ref qC, .ref qF, .ref qY, .ref qZ, .ref qu, .ref qv, .ref qw, .ref qg, .ref qh, .ref qx, .ref qc, .ref qa, .ref qb, .ref qd, .int (iI fm), .ref qp, .ref qq])), (qx, eL t.2.1 54 u.2)]) → va_S A zs.heap H locs → W zp l ze rm_Mo_sign zs zm [.ref o, .long (lI m), .long (lI n)].toArray zb zt zc H locs 0 0 zQ (F0 zm pc ls [.int (iI zv)]) := fun u H locs pc ls v d h hP hD hS => by rw [h.1]; exact ret u H locs pc ls d h.2 hP hD hS
  refine lv_aload_n hC.1 hC.2.1 d_Mo_sign_0 rfl (lv_at hl 0 rfl) ?_
  refine z_ldc2 hC k_575 d_Mo_sign_1 ?_
  refine lv_lload_n hC.1 hC.2.1 d_Mo_sign_4 rfl (lv_at hl 1 rfl) ?_
  refine z_lmul hC d_Mo_sign_5 ?_
  refine lv_lload_n hC.1 hC.2.1 d_Mo_sign_6 rfl (lv_at hl 2 rfl) ?_
  refine z_ladd hC d_Mo_sign_7 ?_
  refine z_topl (z := 2 * m + n) (by omega) ?_
  refine lv_lload_n hC.1 hC.2.1 d_Mo_sign_8 rfl (lv_at hl 2 rfl) ?_
  refine z_mVi (As := [.long (lI (2 * m + n)), .long (lI n)]) (rest := []) (wr := []) hC (c_Mo_rootSign l D t ts o qT qC qF qY qZ qu qv qw qg qh qx qc qa qb qd qp qq cd z lv fm Wd (2 * m + n) n (by omega) (by omega) _) (cw_V hC k_581 k_583 kp_33 k_6 k_584 ye_Mo_rootSign (by decide)) hP hD hK hE hS hA [0, 1] [] (by decide) rfl rfl (by decide) (by decide) 0 (ci := 5) rfl rfl rfl rfl hl.1 rfl (Nat.le_of_ble_eq_true rfl) ⟨Nat.le_of_ble_eq_true rfl, Nat.le_of_ble_eq_true rfl⟩ d_Mo_sign_9 (fun u1 H locs eu1 hP hD hS => ?_)
  obtain ⟨u1r, u1X⟩ := u1
  dsimp only at eu1 hP hD ⊢
  have hP : va_P D classes [(o, .inr (5, [.int (iI cd), .int (iI z), .int (iI lv), .ref qT, .ref qC, .ref qF, .ref qY, .ref qZ, .ref qu, .ref qv, .ref qw, .ref qg, .ref qh, .ref qx, .ref qc, .ref qa, .ref qb, .ref qd, .int (iI fm), .ref qp, .ref qq])), (qx, eL t.2.1 54 u1X)] H := hP
  have hD : va_D A [(o, .inr (5, [.int (iI cd), .int (iI z), .int (iI lv), .ref qT, .ref qC, .ref qF, .ref qY, .ref qZ, .ref qu, .ref qv, .ref qw, .ref qg, .ref qh, .ref qx, .ref qc, .ref qa, .ref qb, .ref qd, .int (iI fm), .ref qp, .ref qq])), (qx, eL t.2.1 54 u1X)] := hD
  have hP9 := hP.sub (ws' := [(o, .inr (5, [.int (iI cd), .int (iI z), .int (iI lv), .ref qT, .ref qC, .ref qF, .ref qY, .ref qZ, .ref qu, .ref qv, .ref qw, .ref qg, .ref qh, .ref qx, .ref qc, .ref qa, .ref qb, .ref qd, .int (iI fm), .ref qp, .ref qq])), (qx, eL t.2.1 54 u1X)]) [0, 1] rfl
  have hD9 := hD.sub (ws' := [(o, .inr (5, [.int (iI cd), .int (iI z), .int (iI lv), .ref qT, .ref qC, .ref qF, .ref qY, .ref qZ, .ref qu, .ref qv, .ref qw, .ref qg, .ref qh, .ref qx, .ref qc, .ref qa, .ref qb, .ref qd, .int (iI fm), .ref qp, .ref qq])), (qx, eL t.2.1 54 u1X)]) [0, 1] (by decide) rfl
  exact retv (u1r, u1X) _ _ 12 _ _ d_Mo_sign_12 ⟨rfl, eu1⟩ hP9 hD9 hS
theorem ye_Mo_conjugate : ye y_Mo_conjugate R_Mo 0 := by unfold ye; decide +kernel
abbrev rm_Mo_conjugate : Room := { frames := 0, cells := 0, slots := 0, locals := 0 }
set_option maxHeartbeats 4000000 in
set_option maxRecDepth 100000 in
theorem c_Mo_conjugate (l : Launch) (D : va_G) (t : vt) (ts : Nat → Nat) (o qT qC qF qY qZ qu qv qw qg qh qx qc qa qb qd qp qq : Nat) (cd z lv fm : Int) (x0 x1 x2 x3 : Int) (y0 y1 y2 y3 : Int) (c0 c1 c2 c3 : Int) (r0 r1 r2 r3 : Int) (f_r0 : r0 = cj0 x0 x1 x2 x3 y0 y1 y2 y3) (f_r1 : r1 = cj1 x0 x1 x2 x3 y0 y1 y2 y3) (f_r2 : r2 = cj2 x0 x1 x2 x3 y0 y1 y2 y3) (f_r3 : r3 = cj3 x0 x1 x2 x3 y0 y1 y2 y3) (sz : Nat) : Met l y_Mo_conjugate (.code y_Mo_conjugate b_Mo_conjugate 7 none :: tb_ws) rm_Mo_conjugate (MP D t ts [.ref o] [(o, .inr (5, [.int (iI cd), .int (iI z), .int (iI lv), .ref qT, .ref qC, .ref qF, .ref qY, .ref qZ, .ref qu, .ref qv, .ref qw, .ref qg, .ref qh, .ref qx, .ref qc, .ref qa, .ref qb, .ref qd, .int (iI fm), .ref qp, .ref qq])), (qu, eL t.2.1 4 (v4 x0 x1 x2 x3)), (qv, eL t.2.1 4 (v4 y0 y1 y2 y3)), (qc, eL t.2.1 4 (v4 c0 c1 c2 c3))] sz) (va_Qv (fun _ : Unit => True) (MB D (va_A [(o, .inr (5, [.int (iI cd), .int (iI z), .int (iI lv), .ref qT, .ref qC, .ref qF, .ref qY, .ref qZ, .ref qu, .ref qv, .ref qw, .ref qg, .ref qh, .ref qx, .ref qc, .ref qa, .ref qb, .ref qd, .int (iI fm), .ref qp, .ref qq])), (qu, eL t.2.1 4 (v4 x0 x1 x2 x3)), (qv, eL t.2.1 4 (v4 y0 y1 y2 y3)), (qc, eL t.2.1 4 (v4 c0 c1 c2 c3))] sz) (fun _ : Unit => [(o, .inr (5, [.int (iI cd), .int (iI z), .int (iI lv), .ref qT, .ref qC, .ref qF, .ref qY, .ref qZ, .ref qu, .ref qv, .ref qw, .ref qg, .ref qh, .ref qx, .ref qc, .ref qa, .ref qb, .ref qd, .int (iI fm), .ref qp, .ref qq])), (qu, eL t.2.1 4 (v4 x0 x1 x2 x3)), (qv, eL t.2.1 4 (v4 y0 y1 y2 y3)), (qc, eL t.2.1 4 (v4 r0 r1 r2 r3))])) (va_A [(o, .inr (5, [.int (iI cd), .int (iI z), .int (iI lv), .ref qT, .ref qC, .ref qF, .ref qY, .ref qZ, .ref qu, .ref qv, .ref qw, .ref qg, .ref qh, .ref qx, .ref qc, .ref qa, .ref qb, .ref qd, .int (iI fm), .ref qp, .ref qq])), (qu, eL t.2.1 4 (v4 x0 x1 x2 x3)), (qv, eL t.2.1 4 (v4 y0 y1 y2 y3)), (qc, eL t.2.1 4 (v4 c0 c1 c2 c3))] sz)) 0 0 (va_A [(o, .inr (5, [.int (iI cd), .int (iI z), .int (iI lv), .ref qT, .ref qC, .ref qF, .ref qY, .ref qZ, .ref qu, .ref qv, .ref qw, .ref qg, .ref qh, .ref qx, .ref qc, .ref qa, .ref qb, .ref qd, .int (iI fm), .ref qp, .ref qq])), (qu, eL t.2.1 4 (v4 x0 x1 x2 x3)), (qv, eL t.2.1 4 (v4 y0 y1 y2 y3)), (qc, eL t.2.1 4 (v4 c0 c1 c2 c3))] sz) := by
  refine m_v (by decide +kernel) (Nat.le_of_ble_eq_true rfl) ?_
  intro zp ze zs zm zb zt zc zQ A ls hC hA hP hK hD hE hS hl ret
  have hl : lv_has ls 7 [(0, .ref o)] := hl
  unfold cj0 at f_r0
  unfold cj1 at f_r1
  unfold cj2 at f_r2
  unfold cj3 at f_r3
  refine z_iconst hC d_Mo_conjugate_0 ?_
  refine lv_istore_n (lv' := [(1, .int (iI 0)), (0, .ref o)]) hC.1 hC.2.1 d_Mo_conjugate_1 rfl hl (by decide) rfl (fun ls hl => ?_)
  refine lv_iload_n hC.1 hC.2.1 d_Mo_conjugate_2 rfl (lv_at hl 0 rfl) ?_
  refine z_iconst hC d_Mo_conjugate_3 ?_
  refine z_icmp_ge (tgt := 20) hC d_Mo_conjugate_4 (by decide) (by decide) (by decide) (fun h => absurd h (by decide)) (fun _ => ?_)
  refine lv_aload_n hC.1 hC.2.1 d_Mo_conjugate_7 rfl (lv_at hl 1 rfl) ?_
  refine z_get (ci := 5) (C := R_Mo) (T := F_Mo) (N := 21) (v := .ref qc) hC in_Mo hK hP 0 rfl rfl 14 (by decide) k_467 rfl d_Mo_conjugate_8 ?_
  refine lv_iload_n hC.1 hC.2.1 d_Mo_conjugate_11 rfl (lv_at hl 0 rfl) ?_
  refine z_lconst (v := 0) hC d_Mo_conjugate_12 (by decide) ?_
  refine z_last (ws' := [(o, .inr (5, [.int (iI cd), .int (iI z), .int (iI lv), .ref qT, .ref qC, .ref qF, .ref qY, .ref qZ, .ref qu, .ref qv, .ref qw, .ref qg, .ref qh, .ref qx, .ref qc, .ref qa, .ref qb, .ref qd, .int (iI fm), .ref qp, .ref qq])), (qu, eL t.2.1 4 (v4 x0 x1 x2 x3)), (qv, eL t.2.1 4 (v4 y0 y1 y2 y3)), (qc, eL t.2.1 4 (uZ (v4 c0 c1 c2 c3) 0 0))]) hC hK hP hD hS 3 rfl (by decide) rfl d_Mo_conjugate_13 (fun H locs hP hD hS => ?_)
  rw [v4_u0] at hP hD
  refine lv_iinc (v := iI 1) (lv' := [(1, .int (iI 1)), (0, .ref o)]) hC.1 hC.2.1 d_Mo_conjugate_14 hl (k := 0) rfl (z_inc (by omega)) (by decide) rfl (fun ls hl => ?_)
  refine z_goto (tgt := 2) hC d_Mo_conjugate_17 (by decide) ?_
  refine lv_iload_n hC.1 hC.2.1 d_Mo_conjugate_2 rfl (lv_at hl 0 rfl) ?_
  refine z_iconst hC d_Mo_conjugate_3 ?_
  refine z_icmp_ge (tgt := 20) hC d_Mo_conjugate_4 (by decide) (by decide) (by decide) (fun h => absurd h (by decide)) (fun _ => ?_)
  refine lv_aload_n hC.1 hC.2.1 d_Mo_conjugate_7 rfl (lv_at hl 1 rfl) ?_
  refine z_get (ci := 5) (C := R_Mo) (T := F_Mo) (N := 21) (v := .ref qc) hC in_Mo hK hP 0 rfl rfl 14 (by decide) k_467 rfl d_Mo_conjugate_8 ?_
  refine lv_iload_n hC.1 hC.2.1 d_Mo_conjugate_11 rfl (lv_at hl 0 rfl) ?_
  refine z_lconst (v := 0) hC d_Mo_conjugate_12 (by decide) ?_
  refine z_last (ws' := [(o, .inr (5, [.int (iI cd), .int (iI z), .int (iI lv), .ref qT, .ref qC, .ref qF, .ref qY, .ref qZ, .ref qu, .ref qv, .ref qw, .ref qg, .ref qh, .ref qx, .ref qc, .ref qa, .ref qb, .ref qd, .int (iI fm), .ref qp, .ref qq])), (qu, eL t.2.1 4 (v4 x0 x1 x2 x3)), (qv, eL t.2.1 4 (v4 y0 y1 y2 y3)), (qc, eL t.2.1 4 (uZ (v4 0 c1 c2 c3) 1 0))]) hC hK hP hD hS 3 rfl (by decide) rfl d_Mo_conjugate_13 (fun H locs hP hD hS => ?_)
  rw [v4_u1] at hP hD
  refine lv_iinc (v := iI 2) (lv' := [(1, .int (iI 2)), (0, .ref o)]) hC.1 hC.2.1 d_Mo_conjugate_14 hl (k := 0) rfl (z_inc (by omega)) (by decide) rfl (fun ls hl => ?_)
  refine z_goto (tgt := 2) hC d_Mo_conjugate_17 (by decide) ?_
  refine lv_iload_n hC.1 hC.2.1 d_Mo_conjugate_2 rfl (lv_at hl 0 rfl) ?_
  refine z_iconst hC d_Mo_conjugate_3 ?_
  refine z_icmp_ge (tgt := 20) hC d_Mo_conjugate_4 (by decide) (by decide) (by decide) (fun h => absurd h (by decide)) (fun _ => ?_)
  refine lv_aload_n hC.1 hC.2.1 d_Mo_conjugate_7 rfl (lv_at hl 1 rfl) ?_
  refine z_get (ci := 5) (C := R_Mo) (T := F_Mo) (N := 21) (v := .ref qc) hC in_Mo hK hP 0 rfl rfl 14 (by decide) k_467 rfl d_Mo_conjugate_8 ?_
  refine lv_iload_n hC.1 hC.2.1 d_Mo_conjugate_11 rfl (lv_at hl 0 rfl) ?_
  refine z_lconst (v := 0) hC d_Mo_conjugate_12 (by decide) ?_
  refine z_last (ws' := [(o, .inr (5, [.int (iI cd), .int (iI z), .int (iI lv), .ref qT, .ref qC, .ref qF, .ref qY, .ref qZ, .ref qu, .ref qv, .ref qw, .ref qg, .ref qh, .ref qx, .ref qc, .ref qa, .ref qb, .ref qd, .int (iI fm), .ref qp, .ref qq])), (qu, eL t.2.1 4 (v4 x0 x1 x2 x3)), (qv, eL t.2.1 4 (v4 y0 y1 y2 y3)), (qc, eL t.2.1 4 (uZ (v4 0 0 c2 c3) 2 0))]) hC hK hP hD hS 3 rfl (by decide) rfl d_Mo_conjugate_13 (fun H locs hP hD hS => ?_)
  rw [v4_u2] at hP hD
  refine lv_iinc (v := iI 3) (lv' := [(1, .int (iI 3)), (0, .ref o)]) hC.1 hC.2.1 d_Mo_conjugate_14 hl (k := 0) rfl (z_inc (by omega)) (by decide) rfl (fun ls hl => ?_)
  refine z_goto (tgt := 2) hC d_Mo_conjugate_17 (by decide) ?_
  refine lv_iload_n hC.1 hC.2.1 d_Mo_conjugate_2 rfl (lv_at hl 0 rfl) ?_
  refine z_iconst hC d_Mo_conjugate_3 ?_
  refine z_icmp_ge (tgt := 20) hC d_Mo_conjugate_4 (by decide) (by decide) (by decide) (fun h => absurd h (by decide)) (fun _ => ?_)
  refine lv_aload_n hC.1 hC.2.1 d_Mo_conjugate_7 rfl (lv_at hl 1 rfl) ?_
  refine z_get (ci := 5) (C := R_Mo) (T := F_Mo) (N := 21) (v := .ref qc) hC in_Mo hK hP 0 rfl rfl 14 (by decide) k_467 rfl d_Mo_conjugate_8 ?_
  refine lv_iload_n hC.1 hC.2.1 d_Mo_conjugate_11 rfl (lv_at hl 0 rfl) ?_
  refine z_lconst (v := 0) hC d_Mo_conjugate_12 (by decide) ?_
  refine z_last (ws' := [(o, .inr (5, [.int (iI cd), .int (iI z), .int (iI lv), .ref qT, .ref qC, .ref qF, .ref qY, .ref qZ, .ref qu, .ref qv, .ref qw, .ref qg, .ref qh, .ref qx, .ref qc, .ref qa, .ref qb, .ref qd, .int (iI fm), .ref qp, .ref qq])), (qu, eL t.2.1 4 (v4 x0 x1 x2 x3)), (qv, eL t.2.1 4 (v4 y0 y1 y2 y3)), (qc, eL t.2.1 4 (uZ (v4 0 0 0 c3) 3 0))]) hC hK hP hD hS 3 rfl (by decide) rfl d_Mo_conjugate_13 (fun H locs hP hD hS => ?_)
  rw [v4_u3] at hP hD
  refine lv_iinc (v := iI 4) (lv' := [(1, .int (iI 4)), (0, .ref o)]) hC.1 hC.2.1 d_Mo_conjugate_14 hl (k := 0) rfl (z_inc (by omega)) (by decide) rfl (fun ls hl => ?_)
  refine z_goto (tgt := 2) hC d_Mo_conjugate_17 (by decide) ?_
  refine lv_iload_n hC.1 hC.2.1 d_Mo_conjugate_2 rfl (lv_at hl 0 rfl) ?_
  refine z_iconst hC d_Mo_conjugate_3 ?_
  refine z_icmp_ge (tgt := 20) hC d_Mo_conjugate_4 (by decide) (by decide) (by decide) (fun _ => ?_) (fun h => absurd h (by decide))
  refine z_iconst hC d_Mo_conjugate_20 ?_
  refine lv_istore_n (lv' := [(1, .int (iI 0)), (0, .ref o)]) hC.1 hC.2.1 d_Mo_conjugate_21 rfl hl (by decide) rfl (fun ls hl => ?_)
  refine lv_iload_n hC.1 hC.2.1 d_Mo_conjugate_22 rfl (lv_at hl 0 rfl) ?_
  refine z_iconst hC d_Mo_conjugate_23 ?_
  refine z_icmp_ge (tgt := 115) hC d_Mo_conjugate_24 (by decide) (by decide) (by decide) (fun h => absurd h (by decide)) (fun _ => ?_)
  refine z_iconst hC d_Mo_conjugate_27 ?_
  refine lv_istore_n (lv' := [(2, .int (iI 0)), (1, .int (iI 0)), (0, .ref o)]) hC.1 hC.2.1 d_Mo_conjugate_28 rfl hl (by decide) rfl (fun ls hl => ?_)
  refine lv_iload_n hC.1 hC.2.1 d_Mo_conjugate_29 rfl (lv_at hl 0 rfl) ?_
  refine z_iconst hC d_Mo_conjugate_30 ?_
  refine z_icmp_ge (tgt := 109) hC d_Mo_conjugate_31 (by decide) (by decide) (by decide) (fun h => absurd h (by decide)) (fun _ => ?_)
  refine lv_iload_n hC.1 hC.2.1 d_Mo_conjugate_34 rfl (lv_at hl 0 rfl) ?_
  refine lv_iload_n hC.1 hC.2.1 d_Mo_conjugate_35 rfl (lv_at hl 1 rfl) ?_
  refine z_isub hC d_Mo_conjugate_36 ?_
  refine z_topi (z := 0) (by omega) ?_
  refine z_iconst hC d_Mo_conjugate_37 ?_
  refine z_iadd hC d_Mo_conjugate_38 ?_
  refine z_topi (z := 5) (by omega) ?_
  refine z_iconst hC d_Mo_conjugate_39 ?_
  refine z_irem hC d_Mo_conjugate_40 (by omega) (by omega) ?_
  refine z_topi (z := 0) (by decide) ?_
  refine lv_istore_n (lv' := [(3, .int (iI 0)), (2, .int (iI 0)), (1, .int (iI 0)), (0, .ref o)]) hC.1 hC.2.1 d_Mo_conjugate_41 rfl hl (by decide) rfl (fun ls hl => ?_)
  refine lv_aload_n hC.1 hC.2.1 d_Mo_conjugate_42 rfl (lv_at hl 3 rfl) ?_
  refine z_get (ci := 5) (C := R_Mo) (T := F_Mo) (N := 21) (v := .ref qu) hC in_Mo hK hP 0 rfl rfl 8 (by decide) k_461 rfl d_Mo_conjugate_43 ?_
  refine lv_iload_n hC.1 hC.2.1 d_Mo_conjugate_46 rfl (lv_at hl 2 rfl) ?_
  refine z_lald hC hK hP 1 rfl (by decide) d_Mo_conjugate_47 ?_
  refine z_topl (z := x0) rfl ?_
  refine lv_aload_n hC.1 hC.2.1 d_Mo_conjugate_48 rfl (lv_at hl 3 rfl) ?_
  refine z_get (ci := 5) (C := R_Mo) (T := F_Mo) (N := 21) (v := .ref qv) hC in_Mo hK hP 0 rfl rfl 9 (by decide) k_462 rfl d_Mo_conjugate_49 ?_
  refine lv_iload_n hC.1 hC.2.1 d_Mo_conjugate_52 rfl (lv_at hl 1 rfl) ?_
  refine z_lald hC hK hP 2 rfl (by decide) d_Mo_conjugate_53 ?_
  refine z_topl (z := y0) rfl ?_
  refine z_lmul hC d_Mo_conjugate_54 ?_
  refine lv_lstore (lv' := [(4, .long (lI ((x0 * y0)))), (3, .int (iI 0)), (2, .int (iI 0)), (1, .int (iI 0)), (0, .ref o)]) hC.1 hC.2.1 d_Mo_conjugate_55 hl (by decide) rfl (fun ls hl => ?_)
  refine lv_iload_n hC.1 hC.2.1 d_Mo_conjugate_57 rfl (lv_at hl 1 rfl) ?_
  refine z_iconst hC d_Mo_conjugate_58 ?_
  refine z_icmp_ge (tgt := 76) hC d_Mo_conjugate_59 (by decide) (by decide) (by decide) (fun h => absurd h (by decide)) (fun _ => ?_)
  refine lv_aload_n hC.1 hC.2.1 d_Mo_conjugate_62 rfl (lv_at hl 4 rfl) ?_
  refine z_get (ci := 5) (C := R_Mo) (T := F_Mo) (N := 21) (v := .ref qc) hC in_Mo hK hP 0 rfl rfl 14 (by decide) k_467 rfl d_Mo_conjugate_63 ?_
  refine lv_iload_n hC.1 hC.2.1 d_Mo_conjugate_66 rfl (lv_at hl 1 rfl) ?_
  refine lv_dup2_11 hC.1 hC.2.1 d_Mo_conjugate_67 rfl rfl ?_
  refine z_lald hC hK hP 3 rfl (by decide) d_Mo_conjugate_68 ?_
  refine z_topl (z := 0) rfl ?_
  refine lv_lload hC.1 hC.2.1 d_Mo_conjugate_69 (lv_at hl 0 rfl) ?_
  refine z_ladd hC d_Mo_conjugate_71 ?_
  refine z_topl (z := (x0 * y0)) (by omega) ?_
  refine z_last (ws' := [(o, .inr (5, [.int (iI cd), .int (iI z), .int (iI lv), .ref qT, .ref qC, .ref qF, .ref qY, .ref qZ, .ref qu, .ref qv, .ref qw, .ref qg, .ref qh, .ref qx, .ref qc, .ref qa, .ref qb, .ref qd, .int (iI fm), .ref qp, .ref qq])), (qu, eL t.2.1 4 (v4 x0 x1 x2 x3)), (qv, eL t.2.1 4 (v4 y0 y1 y2 y3)), (qc, eL t.2.1 4 (uZ (v4 0 0 0 0) 0 ((x0 * y0))))]) hC hK hP hD hS 3 rfl (by decide) rfl d_Mo_conjugate_72 (fun H locs hP hD hS => ?_)
  rw [v4_u0] at hP hD
  refine z_goto (tgt := 103) hC d_Mo_conjugate_73 (by decide) ?_
  refine lv_iinc (v := iI 1) (lv' := [(2, .int (iI 1)), (4, .long (lI ((x0 * y0)))), (3, .int (iI 0)), (1, .int (iI 0)), (0, .ref o)]) hC.1 hC.2.1 d_Mo_conjugate_103 hl (k := 2) rfl (z_inc (by omega)) (by decide) rfl (fun ls hl => ?_)
  refine z_goto (tgt := 29) hC d_Mo_conjugate_106 (by decide) ?_
  refine lv_iload_n hC.1 hC.2.1 d_Mo_conjugate_29 rfl (lv_at hl 0 rfl) ?_
  refine z_iconst hC d_Mo_conjugate_30 ?_
  refine z_icmp_ge (tgt := 109) hC d_Mo_conjugate_31 (by decide) (by decide) (by decide) (fun h => absurd h (by decide)) (fun _ => ?_)
  refine lv_iload_n hC.1 hC.2.1 d_Mo_conjugate_34 rfl (lv_at hl 0 rfl) ?_
  refine lv_iload_n hC.1 hC.2.1 d_Mo_conjugate_35 rfl (lv_at hl 3 rfl) ?_
  refine z_isub hC d_Mo_conjugate_36 ?_
  refine z_topi (z := 1) (by omega) ?_
  refine z_iconst hC d_Mo_conjugate_37 ?_
  refine z_iadd hC d_Mo_conjugate_38 ?_
  refine z_topi (z := 6) (by omega) ?_
  refine z_iconst hC d_Mo_conjugate_39 ?_
  refine z_irem hC d_Mo_conjugate_40 (by omega) (by omega) ?_
  refine z_topi (z := 1) (by decide) ?_
  refine lv_istore_n (lv' := [(3, .int (iI 1)), (2, .int (iI 1)), (4, .long (lI ((x0 * y0)))), (1, .int (iI 0)), (0, .ref o)]) hC.1 hC.2.1 d_Mo_conjugate_41 rfl hl (by decide) rfl (fun ls hl => ?_)
  refine lv_aload_n hC.1 hC.2.1 d_Mo_conjugate_42 rfl (lv_at hl 4 rfl) ?_
  refine z_get (ci := 5) (C := R_Mo) (T := F_Mo) (N := 21) (v := .ref qu) hC in_Mo hK hP 0 rfl rfl 8 (by decide) k_461 rfl d_Mo_conjugate_43 ?_
  refine lv_iload_n hC.1 hC.2.1 d_Mo_conjugate_46 rfl (lv_at hl 3 rfl) ?_
  refine z_lald hC hK hP 1 rfl (by decide) d_Mo_conjugate_47 ?_
  refine z_topl (z := x0) rfl ?_
  refine lv_aload_n hC.1 hC.2.1 d_Mo_conjugate_48 rfl (lv_at hl 4 rfl) ?_
  refine z_get (ci := 5) (C := R_Mo) (T := F_Mo) (N := 21) (v := .ref qv) hC in_Mo hK hP 0 rfl rfl 9 (by decide) k_462 rfl d_Mo_conjugate_49 ?_
  refine lv_iload_n hC.1 hC.2.1 d_Mo_conjugate_52 rfl (lv_at hl 1 rfl) ?_
  refine z_lald hC hK hP 2 rfl (by decide) d_Mo_conjugate_53 ?_
  refine z_topl (z := y1) rfl ?_
  refine z_lmul hC d_Mo_conjugate_54 ?_
  refine lv_lstore (lv' := [(4, .long (lI ((x0 * y1)))), (3, .int (iI 1)), (2, .int (iI 1)), (1, .int (iI 0)), (0, .ref o)]) hC.1 hC.2.1 d_Mo_conjugate_55 hl (by decide) rfl (fun ls hl => ?_)
  refine lv_iload_n hC.1 hC.2.1 d_Mo_conjugate_57 rfl (lv_at hl 1 rfl) ?_
  refine z_iconst hC d_Mo_conjugate_58 ?_
  refine z_icmp_ge (tgt := 76) hC d_Mo_conjugate_59 (by decide) (by decide) (by decide) (fun h => absurd h (by decide)) (fun _ => ?_)
  refine lv_aload_n hC.1 hC.2.1 d_Mo_conjugate_62 rfl (lv_at hl 4 rfl) ?_
  refine z_get (ci := 5) (C := R_Mo) (T := F_Mo) (N := 21) (v := .ref qc) hC in_Mo hK hP 0 rfl rfl 14 (by decide) k_467 rfl d_Mo_conjugate_63 ?_
  refine lv_iload_n hC.1 hC.2.1 d_Mo_conjugate_66 rfl (lv_at hl 1 rfl) ?_
  refine lv_dup2_11 hC.1 hC.2.1 d_Mo_conjugate_67 rfl rfl ?_
  refine z_lald hC hK hP 3 rfl (by decide) d_Mo_conjugate_68 ?_
  refine z_topl (z := 0) rfl ?_
  refine lv_lload hC.1 hC.2.1 d_Mo_conjugate_69 (lv_at hl 0 rfl) ?_
  refine z_ladd hC d_Mo_conjugate_71 ?_
  refine z_topl (z := (x0 * y1)) (by omega) ?_
  refine z_last (ws' := [(o, .inr (5, [.int (iI cd), .int (iI z), .int (iI lv), .ref qT, .ref qC, .ref qF, .ref qY, .ref qZ, .ref qu, .ref qv, .ref qw, .ref qg, .ref qh, .ref qx, .ref qc, .ref qa, .ref qb, .ref qd, .int (iI fm), .ref qp, .ref qq])), (qu, eL t.2.1 4 (v4 x0 x1 x2 x3)), (qv, eL t.2.1 4 (v4 y0 y1 y2 y3)), (qc, eL t.2.1 4 (uZ (v4 ((x0 * y0)) 0 0 0) 1 ((x0 * y1))))]) hC hK hP hD hS 3 rfl (by decide) rfl d_Mo_conjugate_72 (fun H locs hP hD hS => ?_)
  rw [v4_u1] at hP hD
  refine z_goto (tgt := 103) hC d_Mo_conjugate_73 (by decide) ?_
  refine lv_iinc (v := iI 2) (lv' := [(2, .int (iI 2)), (4, .long (lI ((x0 * y1)))), (3, .int (iI 1)), (1, .int (iI 0)), (0, .ref o)]) hC.1 hC.2.1 d_Mo_conjugate_103 hl (k := 2) rfl (z_inc (by omega)) (by decide) rfl (fun ls hl => ?_)
  refine z_goto (tgt := 29) hC d_Mo_conjugate_106 (by decide) ?_
  refine lv_iload_n hC.1 hC.2.1 d_Mo_conjugate_29 rfl (lv_at hl 0 rfl) ?_
  refine z_iconst hC d_Mo_conjugate_30 ?_
  refine z_icmp_ge (tgt := 109) hC d_Mo_conjugate_31 (by decide) (by decide) (by decide) (fun h => absurd h (by decide)) (fun _ => ?_)
  refine lv_iload_n hC.1 hC.2.1 d_Mo_conjugate_34 rfl (lv_at hl 0 rfl) ?_
  refine lv_iload_n hC.1 hC.2.1 d_Mo_conjugate_35 rfl (lv_at hl 3 rfl) ?_
  refine z_isub hC d_Mo_conjugate_36 ?_
  refine z_topi (z := 2) (by omega) ?_
  refine z_iconst hC d_Mo_conjugate_37 ?_
  refine z_iadd hC d_Mo_conjugate_38 ?_
  refine z_topi (z := 7) (by omega) ?_
  refine z_iconst hC d_Mo_conjugate_39 ?_
  refine z_irem hC d_Mo_conjugate_40 (by omega) (by omega) ?_
  refine z_topi (z := 2) (by decide) ?_
  refine lv_istore_n (lv' := [(3, .int (iI 2)), (2, .int (iI 2)), (4, .long (lI ((x0 * y1)))), (1, .int (iI 0)), (0, .ref o)]) hC.1 hC.2.1 d_Mo_conjugate_41 rfl hl (by decide) rfl (fun ls hl => ?_)
  refine lv_aload_n hC.1 hC.2.1 d_Mo_conjugate_42 rfl (lv_at hl 4 rfl) ?_
  refine z_get (ci := 5) (C := R_Mo) (T := F_Mo) (N := 21) (v := .ref qu) hC in_Mo hK hP 0 rfl rfl 8 (by decide) k_461 rfl d_Mo_conjugate_43 ?_
  refine lv_iload_n hC.1 hC.2.1 d_Mo_conjugate_46 rfl (lv_at hl 3 rfl) ?_
  refine z_lald hC hK hP 1 rfl (by decide) d_Mo_conjugate_47 ?_
  refine z_topl (z := x0) rfl ?_
  refine lv_aload_n hC.1 hC.2.1 d_Mo_conjugate_48 rfl (lv_at hl 4 rfl) ?_
  refine z_get (ci := 5) (C := R_Mo) (T := F_Mo) (N := 21) (v := .ref qv) hC in_Mo hK hP 0 rfl rfl 9 (by decide) k_462 rfl d_Mo_conjugate_49 ?_
  refine lv_iload_n hC.1 hC.2.1 d_Mo_conjugate_52 rfl (lv_at hl 1 rfl) ?_
  refine z_lald hC hK hP 2 rfl (by decide) d_Mo_conjugate_53 ?_
  refine z_topl (z := y2) rfl ?_
  refine z_lmul hC d_Mo_conjugate_54 ?_
  refine lv_lstore (lv' := [(4, .long (lI ((x0 * y2)))), (3, .int (iI 2)), (2, .int (iI 2)), (1, .int (iI 0)), (0, .ref o)]) hC.1 hC.2.1 d_Mo_conjugate_55 hl (by decide) rfl (fun ls hl => ?_)
  refine lv_iload_n hC.1 hC.2.1 d_Mo_conjugate_57 rfl (lv_at hl 1 rfl) ?_
  refine z_iconst hC d_Mo_conjugate_58 ?_
  refine z_icmp_ge (tgt := 76) hC d_Mo_conjugate_59 (by decide) (by decide) (by decide) (fun h => absurd h (by decide)) (fun _ => ?_)
  refine lv_aload_n hC.1 hC.2.1 d_Mo_conjugate_62 rfl (lv_at hl 4 rfl) ?_
  refine z_get (ci := 5) (C := R_Mo) (T := F_Mo) (N := 21) (v := .ref qc) hC in_Mo hK hP 0 rfl rfl 14 (by decide) k_467 rfl d_Mo_conjugate_63 ?_
  refine lv_iload_n hC.1 hC.2.1 d_Mo_conjugate_66 rfl (lv_at hl 1 rfl) ?_
  refine lv_dup2_11 hC.1 hC.2.1 d_Mo_conjugate_67 rfl rfl ?_
  refine z_lald hC hK hP 3 rfl (by decide) d_Mo_conjugate_68 ?_
  refine z_topl (z := 0) rfl ?_
  refine lv_lload hC.1 hC.2.1 d_Mo_conjugate_69 (lv_at hl 0 rfl) ?_
  refine z_ladd hC d_Mo_conjugate_71 ?_
  refine z_topl (z := (x0 * y2)) (by omega) ?_
  refine z_last (ws' := [(o, .inr (5, [.int (iI cd), .int (iI z), .int (iI lv), .ref qT, .ref qC, .ref qF, .ref qY, .ref qZ, .ref qu, .ref qv, .ref qw, .ref qg, .ref qh, .ref qx, .ref qc, .ref qa, .ref qb, .ref qd, .int (iI fm), .ref qp, .ref qq])), (qu, eL t.2.1 4 (v4 x0 x1 x2 x3)), (qv, eL t.2.1 4 (v4 y0 y1 y2 y3)), (qc, eL t.2.1 4 (uZ (v4 ((x0 * y0)) ((x0 * y1)) 0 0) 2 ((x0 * y2))))]) hC hK hP hD hS 3 rfl (by decide) rfl d_Mo_conjugate_72 (fun H locs hP hD hS => ?_)
  rw [v4_u2] at hP hD
  refine z_goto (tgt := 103) hC d_Mo_conjugate_73 (by decide) ?_
  refine lv_iinc (v := iI 3) (lv' := [(2, .int (iI 3)), (4, .long (lI ((x0 * y2)))), (3, .int (iI 2)), (1, .int (iI 0)), (0, .ref o)]) hC.1 hC.2.1 d_Mo_conjugate_103 hl (k := 2) rfl (z_inc (by omega)) (by decide) rfl (fun ls hl => ?_)
  refine z_goto (tgt := 29) hC d_Mo_conjugate_106 (by decide) ?_
  refine lv_iload_n hC.1 hC.2.1 d_Mo_conjugate_29 rfl (lv_at hl 0 rfl) ?_
  refine z_iconst hC d_Mo_conjugate_30 ?_
  refine z_icmp_ge (tgt := 109) hC d_Mo_conjugate_31 (by decide) (by decide) (by decide) (fun h => absurd h (by decide)) (fun _ => ?_)
  refine lv_iload_n hC.1 hC.2.1 d_Mo_conjugate_34 rfl (lv_at hl 0 rfl) ?_
  refine lv_iload_n hC.1 hC.2.1 d_Mo_conjugate_35 rfl (lv_at hl 3 rfl) ?_
  refine z_isub hC d_Mo_conjugate_36 ?_
  refine z_topi (z := 3) (by omega) ?_
  refine z_iconst hC d_Mo_conjugate_37 ?_
  refine z_iadd hC d_Mo_conjugate_38 ?_
  refine z_topi (z := 8) (by omega) ?_
  refine z_iconst hC d_Mo_conjugate_39 ?_
  refine z_irem hC d_Mo_conjugate_40 (by omega) (by omega) ?_
  refine z_topi (z := 3) (by decide) ?_
  refine lv_istore_n (lv' := [(3, .int (iI 3)), (2, .int (iI 3)), (4, .long (lI ((x0 * y2)))), (1, .int (iI 0)), (0, .ref o)]) hC.1 hC.2.1 d_Mo_conjugate_41 rfl hl (by decide) rfl (fun ls hl => ?_)
  refine lv_aload_n hC.1 hC.2.1 d_Mo_conjugate_42 rfl (lv_at hl 4 rfl) ?_
  refine z_get (ci := 5) (C := R_Mo) (T := F_Mo) (N := 21) (v := .ref qu) hC in_Mo hK hP 0 rfl rfl 8 (by decide) k_461 rfl d_Mo_conjugate_43 ?_
  refine lv_iload_n hC.1 hC.2.1 d_Mo_conjugate_46 rfl (lv_at hl 3 rfl) ?_
  refine z_lald hC hK hP 1 rfl (by decide) d_Mo_conjugate_47 ?_
  refine z_topl (z := x0) rfl ?_
  refine lv_aload_n hC.1 hC.2.1 d_Mo_conjugate_48 rfl (lv_at hl 4 rfl) ?_
  refine z_get (ci := 5) (C := R_Mo) (T := F_Mo) (N := 21) (v := .ref qv) hC in_Mo hK hP 0 rfl rfl 9 (by decide) k_462 rfl d_Mo_conjugate_49 ?_
  refine lv_iload_n hC.1 hC.2.1 d_Mo_conjugate_52 rfl (lv_at hl 1 rfl) ?_
  refine z_lald hC hK hP 2 rfl (by decide) d_Mo_conjugate_53 ?_
  refine z_topl (z := y3) rfl ?_
  refine z_lmul hC d_Mo_conjugate_54 ?_
  refine lv_lstore (lv' := [(4, .long (lI ((x0 * y3)))), (3, .int (iI 3)), (2, .int (iI 3)), (1, .int (iI 0)), (0, .ref o)]) hC.1 hC.2.1 d_Mo_conjugate_55 hl (by decide) rfl (fun ls hl => ?_)
  refine lv_iload_n hC.1 hC.2.1 d_Mo_conjugate_57 rfl (lv_at hl 1 rfl) ?_
  refine z_iconst hC d_Mo_conjugate_58 ?_
  refine z_icmp_ge (tgt := 76) hC d_Mo_conjugate_59 (by decide) (by decide) (by decide) (fun h => absurd h (by decide)) (fun _ => ?_)
  refine lv_aload_n hC.1 hC.2.1 d_Mo_conjugate_62 rfl (lv_at hl 4 rfl) ?_
  refine z_get (ci := 5) (C := R_Mo) (T := F_Mo) (N := 21) (v := .ref qc) hC in_Mo hK hP 0 rfl rfl 14 (by decide) k_467 rfl d_Mo_conjugate_63 ?_
  refine lv_iload_n hC.1 hC.2.1 d_Mo_conjugate_66 rfl (lv_at hl 1 rfl) ?_
  refine lv_dup2_11 hC.1 hC.2.1 d_Mo_conjugate_67 rfl rfl ?_
  refine z_lald hC hK hP 3 rfl (by decide) d_Mo_conjugate_68 ?_
  refine z_topl (z := 0) rfl ?_
  refine lv_lload hC.1 hC.2.1 d_Mo_conjugate_69 (lv_at hl 0 rfl) ?_
  refine z_ladd hC d_Mo_conjugate_71 ?_
  refine z_topl (z := (x0 * y3)) (by omega) ?_
  refine z_last (ws' := [(o, .inr (5, [.int (iI cd), .int (iI z), .int (iI lv), .ref qT, .ref qC, .ref qF, .ref qY, .ref qZ, .ref qu, .ref qv, .ref qw, .ref qg, .ref qh, .ref qx, .ref qc, .ref qa, .ref qb, .ref qd, .int (iI fm), .ref qp, .ref qq])), (qu, eL t.2.1 4 (v4 x0 x1 x2 x3)), (qv, eL t.2.1 4 (v4 y0 y1 y2 y3)), (qc, eL t.2.1 4 (uZ (v4 ((x0 * y0)) ((x0 * y1)) ((x0 * y2)) 0) 3 ((x0 * y3))))]) hC hK hP hD hS 3 rfl (by decide) rfl d_Mo_conjugate_72 (fun H locs hP hD hS => ?_)
  rw [v4_u3] at hP hD
  refine z_goto (tgt := 103) hC d_Mo_conjugate_73 (by decide) ?_
  refine lv_iinc (v := iI 4) (lv' := [(2, .int (iI 4)), (4, .long (lI ((x0 * y3)))), (3, .int (iI 3)), (1, .int (iI 0)), (0, .ref o)]) hC.1 hC.2.1 d_Mo_conjugate_103 hl (k := 2) rfl (z_inc (by omega)) (by decide) rfl (fun ls hl => ?_)
  refine z_goto (tgt := 29) hC d_Mo_conjugate_106 (by decide) ?_
  refine lv_iload_n hC.1 hC.2.1 d_Mo_conjugate_29 rfl (lv_at hl 0 rfl) ?_
  refine z_iconst hC d_Mo_conjugate_30 ?_
  refine z_icmp_ge (tgt := 109) hC d_Mo_conjugate_31 (by decide) (by decide) (by decide) (fun _ => ?_) (fun h => absurd h (by decide))
  refine lv_iinc (v := iI 1) (lv' := [(1, .int (iI 1)), (2, .int (iI 4)), (4, .long (lI ((x0 * y3)))), (3, .int (iI 3)), (0, .ref o)]) hC.1 hC.2.1 d_Mo_conjugate_109 hl (k := 3) rfl (z_inc (by omega)) (by decide) rfl (fun ls hl => ?_)
  refine z_goto (tgt := 22) hC d_Mo_conjugate_112 (by decide) ?_
  refine lv_iload_n hC.1 hC.2.1 d_Mo_conjugate_22 rfl (lv_at hl 0 rfl) ?_
  refine z_iconst hC d_Mo_conjugate_23 ?_
  refine z_icmp_ge (tgt := 115) hC d_Mo_conjugate_24 (by decide) (by decide) (by decide) (fun h => absurd h (by decide)) (fun _ => ?_)
  refine z_iconst hC d_Mo_conjugate_27 ?_
  refine lv_istore_n (lv' := [(2, .int (iI 0)), (1, .int (iI 1)), (4, .long (lI ((x0 * y3)))), (3, .int (iI 3)), (0, .ref o)]) hC.1 hC.2.1 d_Mo_conjugate_28 rfl hl (by decide) rfl (fun ls hl => ?_)
  refine lv_iload_n hC.1 hC.2.1 d_Mo_conjugate_29 rfl (lv_at hl 0 rfl) ?_
  refine z_iconst hC d_Mo_conjugate_30 ?_
  refine z_icmp_ge (tgt := 109) hC d_Mo_conjugate_31 (by decide) (by decide) (by decide) (fun h => absurd h (by decide)) (fun _ => ?_)
  refine lv_iload_n hC.1 hC.2.1 d_Mo_conjugate_34 rfl (lv_at hl 0 rfl) ?_
  refine lv_iload_n hC.1 hC.2.1 d_Mo_conjugate_35 rfl (lv_at hl 1 rfl) ?_
  refine z_isub hC d_Mo_conjugate_36 ?_
  refine z_topi (z := -1) (by omega) ?_
  refine z_iconst hC d_Mo_conjugate_37 ?_
  refine z_iadd hC d_Mo_conjugate_38 ?_
  refine z_topi (z := 4) (by omega) ?_
  refine z_iconst hC d_Mo_conjugate_39 ?_
  refine z_irem hC d_Mo_conjugate_40 (by omega) (by omega) ?_
  refine z_topi (z := 4) (by decide) ?_
  refine lv_istore_n (lv' := [(3, .int (iI 4)), (2, .int (iI 0)), (1, .int (iI 1)), (4, .long (lI ((x0 * y3)))), (0, .ref o)]) hC.1 hC.2.1 d_Mo_conjugate_41 rfl hl (by decide) rfl (fun ls hl => ?_)
  refine lv_aload_n hC.1 hC.2.1 d_Mo_conjugate_42 rfl (lv_at hl 4 rfl) ?_
  refine z_get (ci := 5) (C := R_Mo) (T := F_Mo) (N := 21) (v := .ref qu) hC in_Mo hK hP 0 rfl rfl 8 (by decide) k_461 rfl d_Mo_conjugate_43 ?_
  refine lv_iload_n hC.1 hC.2.1 d_Mo_conjugate_46 rfl (lv_at hl 2 rfl) ?_
  refine z_lald hC hK hP 1 rfl (by decide) d_Mo_conjugate_47 ?_
  refine z_topl (z := x1) rfl ?_
  refine lv_aload_n hC.1 hC.2.1 d_Mo_conjugate_48 rfl (lv_at hl 4 rfl) ?_
  refine z_get (ci := 5) (C := R_Mo) (T := F_Mo) (N := 21) (v := .ref qv) hC in_Mo hK hP 0 rfl rfl 9 (by decide) k_462 rfl d_Mo_conjugate_49 ?_
  refine lv_iload_n hC.1 hC.2.1 d_Mo_conjugate_52 rfl (lv_at hl 1 rfl) ?_
  refine z_lald hC hK hP 2 rfl (by decide) d_Mo_conjugate_53 ?_
  refine z_topl (z := y0) rfl ?_
  refine z_lmul hC d_Mo_conjugate_54 ?_
  refine lv_lstore (lv' := [(4, .long (lI ((x1 * y0)))), (3, .int (iI 4)), (2, .int (iI 0)), (1, .int (iI 1)), (0, .ref o)]) hC.1 hC.2.1 d_Mo_conjugate_55 hl (by decide) rfl (fun ls hl => ?_)
  refine lv_iload_n hC.1 hC.2.1 d_Mo_conjugate_57 rfl (lv_at hl 1 rfl) ?_
  refine z_iconst hC d_Mo_conjugate_58 ?_
  refine z_icmp_ge (tgt := 76) hC d_Mo_conjugate_59 (by decide) (by decide) (by decide) (fun _ => ?_) (fun h => absurd h (by decide))
  refine z_iconst hC d_Mo_conjugate_76 ?_
  refine lv_istore (lv' := [(6, .int (iI 0)), (4, .long (lI ((x1 * y0)))), (3, .int (iI 4)), (2, .int (iI 0)), (1, .int (iI 1)), (0, .ref o)]) hC.1 hC.2.1 d_Mo_conjugate_77 hl (by decide) rfl (fun ls hl => ?_)
  refine lv_iload hC.1 hC.2.1 d_Mo_conjugate_79 (lv_at hl 0 rfl) ?_
  refine z_iconst hC d_Mo_conjugate_81 ?_
  refine z_icmp_ge (tgt := 103) hC d_Mo_conjugate_82 (by decide) (by decide) (by decide) (fun h => absurd h (by decide)) (fun _ => ?_)
  refine lv_aload_n hC.1 hC.2.1 d_Mo_conjugate_85 rfl (lv_at hl 5 rfl) ?_
  refine z_get (ci := 5) (C := R_Mo) (T := F_Mo) (N := 21) (v := .ref qc) hC in_Mo hK hP 0 rfl rfl 14 (by decide) k_467 rfl d_Mo_conjugate_86 ?_
  refine lv_iload hC.1 hC.2.1 d_Mo_conjugate_89 (lv_at hl 0 rfl) ?_
  refine lv_dup2_11 hC.1 hC.2.1 d_Mo_conjugate_91 rfl rfl ?_
  refine z_lald hC hK hP 3 rfl (by decide) d_Mo_conjugate_92 ?_
  refine z_topl (z := (x0 * y0)) rfl ?_
  refine lv_lload hC.1 hC.2.1 d_Mo_conjugate_93 (lv_at hl 1 rfl) ?_
  refine z_lsub hC d_Mo_conjugate_95 ?_
  refine z_topl (z := (x0 * y0) - (x1 * y0)) (by omega) ?_
  refine z_last (ws' := [(o, .inr (5, [.int (iI cd), .int (iI z), .int (iI lv), .ref qT, .ref qC, .ref qF, .ref qY, .ref qZ, .ref qu, .ref qv, .ref qw, .ref qg, .ref qh, .ref qx, .ref qc, .ref qa, .ref qb, .ref qd, .int (iI fm), .ref qp, .ref qq])), (qu, eL t.2.1 4 (v4 x0 x1 x2 x3)), (qv, eL t.2.1 4 (v4 y0 y1 y2 y3)), (qc, eL t.2.1 4 (uZ (v4 ((x0 * y0)) ((x0 * y1)) ((x0 * y2)) ((x0 * y3))) 0 ((x0 * y0) - (x1 * y0))))]) hC hK hP hD hS 3 rfl (by decide) rfl d_Mo_conjugate_96 (fun H locs hP hD hS => ?_)
  rw [v4_u0] at hP hD
  refine lv_iinc (v := iI 1) (lv' := [(6, .int (iI 1)), (4, .long (lI ((x1 * y0)))), (3, .int (iI 4)), (2, .int (iI 0)), (1, .int (iI 1)), (0, .ref o)]) hC.1 hC.2.1 d_Mo_conjugate_97 hl (k := 0) rfl (z_inc (by omega)) (by decide) rfl (fun ls hl => ?_)
  refine z_goto (tgt := 79) hC d_Mo_conjugate_100 (by decide) ?_
  refine lv_iload hC.1 hC.2.1 d_Mo_conjugate_79 (lv_at hl 0 rfl) ?_
  refine z_iconst hC d_Mo_conjugate_81 ?_
  refine z_icmp_ge (tgt := 103) hC d_Mo_conjugate_82 (by decide) (by decide) (by decide) (fun h => absurd h (by decide)) (fun _ => ?_)
  refine lv_aload_n hC.1 hC.2.1 d_Mo_conjugate_85 rfl (lv_at hl 5 rfl) ?_
  refine z_get (ci := 5) (C := R_Mo) (T := F_Mo) (N := 21) (v := .ref qc) hC in_Mo hK hP 0 rfl rfl 14 (by decide) k_467 rfl d_Mo_conjugate_86 ?_
  refine lv_iload hC.1 hC.2.1 d_Mo_conjugate_89 (lv_at hl 0 rfl) ?_
  refine lv_dup2_11 hC.1 hC.2.1 d_Mo_conjugate_91 rfl rfl ?_
  refine z_lald hC hK hP 3 rfl (by decide) d_Mo_conjugate_92 ?_
  refine z_topl (z := (x0 * y1)) rfl ?_
  refine lv_lload hC.1 hC.2.1 d_Mo_conjugate_93 (lv_at hl 1 rfl) ?_
  refine z_lsub hC d_Mo_conjugate_95 ?_
  refine z_topl (z := (x0 * y1) - (x1 * y0)) (by omega) ?_
  refine z_last (ws' := [(o, .inr (5, [.int (iI cd), .int (iI z), .int (iI lv), .ref qT, .ref qC, .ref qF, .ref qY, .ref qZ, .ref qu, .ref qv, .ref qw, .ref qg, .ref qh, .ref qx, .ref qc, .ref qa, .ref qb, .ref qd, .int (iI fm), .ref qp, .ref qq])), (qu, eL t.2.1 4 (v4 x0 x1 x2 x3)), (qv, eL t.2.1 4 (v4 y0 y1 y2 y3)), (qc, eL t.2.1 4 (uZ (v4 ((x0 * y0) - (x1 * y0)) ((x0 * y1)) ((x0 * y2)) ((x0 * y3))) 1 ((x0 * y1) - (x1 * y0))))]) hC hK hP hD hS 3 rfl (by decide) rfl d_Mo_conjugate_96 (fun H locs hP hD hS => ?_)
  rw [v4_u1] at hP hD
  refine lv_iinc (v := iI 2) (lv' := [(6, .int (iI 2)), (4, .long (lI ((x1 * y0)))), (3, .int (iI 4)), (2, .int (iI 0)), (1, .int (iI 1)), (0, .ref o)]) hC.1 hC.2.1 d_Mo_conjugate_97 hl (k := 0) rfl (z_inc (by omega)) (by decide) rfl (fun ls hl => ?_)
  refine z_goto (tgt := 79) hC d_Mo_conjugate_100 (by decide) ?_
  refine lv_iload hC.1 hC.2.1 d_Mo_conjugate_79 (lv_at hl 0 rfl) ?_
  refine z_iconst hC d_Mo_conjugate_81 ?_
  refine z_icmp_ge (tgt := 103) hC d_Mo_conjugate_82 (by decide) (by decide) (by decide) (fun h => absurd h (by decide)) (fun _ => ?_)
  refine lv_aload_n hC.1 hC.2.1 d_Mo_conjugate_85 rfl (lv_at hl 5 rfl) ?_
  refine z_get (ci := 5) (C := R_Mo) (T := F_Mo) (N := 21) (v := .ref qc) hC in_Mo hK hP 0 rfl rfl 14 (by decide) k_467 rfl d_Mo_conjugate_86 ?_
  refine lv_iload hC.1 hC.2.1 d_Mo_conjugate_89 (lv_at hl 0 rfl) ?_
  refine lv_dup2_11 hC.1 hC.2.1 d_Mo_conjugate_91 rfl rfl ?_
  refine z_lald hC hK hP 3 rfl (by decide) d_Mo_conjugate_92 ?_
  refine z_topl (z := (x0 * y2)) rfl ?_
  refine lv_lload hC.1 hC.2.1 d_Mo_conjugate_93 (lv_at hl 1 rfl) ?_
  refine z_lsub hC d_Mo_conjugate_95 ?_
  refine z_topl (z := (x0 * y2) - (x1 * y0)) (by omega) ?_
  refine z_last (ws' := [(o, .inr (5, [.int (iI cd), .int (iI z), .int (iI lv), .ref qT, .ref qC, .ref qF, .ref qY, .ref qZ, .ref qu, .ref qv, .ref qw, .ref qg, .ref qh, .ref qx, .ref qc, .ref qa, .ref qb, .ref qd, .int (iI fm), .ref qp, .ref qq])), (qu, eL t.2.1 4 (v4 x0 x1 x2 x3)), (qv, eL t.2.1 4 (v4 y0 y1 y2 y3)), (qc, eL t.2.1 4 (uZ (v4 ((x0 * y0) - (x1 * y0)) ((x0 * y1) - (x1 * y0)) ((x0 * y2)) ((x0 * y3))) 2 ((x0 * y2) - (x1 * y0))))]) hC hK hP hD hS 3 rfl (by decide) rfl d_Mo_conjugate_96 (fun H locs hP hD hS => ?_)
  rw [v4_u2] at hP hD
  refine lv_iinc (v := iI 3) (lv' := [(6, .int (iI 3)), (4, .long (lI ((x1 * y0)))), (3, .int (iI 4)), (2, .int (iI 0)), (1, .int (iI 1)), (0, .ref o)]) hC.1 hC.2.1 d_Mo_conjugate_97 hl (k := 0) rfl (z_inc (by omega)) (by decide) rfl (fun ls hl => ?_)
  refine z_goto (tgt := 79) hC d_Mo_conjugate_100 (by decide) ?_
  refine lv_iload hC.1 hC.2.1 d_Mo_conjugate_79 (lv_at hl 0 rfl) ?_
  refine z_iconst hC d_Mo_conjugate_81 ?_
  refine z_icmp_ge (tgt := 103) hC d_Mo_conjugate_82 (by decide) (by decide) (by decide) (fun h => absurd h (by decide)) (fun _ => ?_)
  refine lv_aload_n hC.1 hC.2.1 d_Mo_conjugate_85 rfl (lv_at hl 5 rfl) ?_
  refine z_get (ci := 5) (C := R_Mo) (T := F_Mo) (N := 21) (v := .ref qc) hC in_Mo hK hP 0 rfl rfl 14 (by decide) k_467 rfl d_Mo_conjugate_86 ?_
  refine lv_iload hC.1 hC.2.1 d_Mo_conjugate_89 (lv_at hl 0 rfl) ?_
  refine lv_dup2_11 hC.1 hC.2.1 d_Mo_conjugate_91 rfl rfl ?_
  refine z_lald hC hK hP 3 rfl (by decide) d_Mo_conjugate_92 ?_
  refine z_topl (z := (x0 * y3)) rfl ?_
  refine lv_lload hC.1 hC.2.1 d_Mo_conjugate_93 (lv_at hl 1 rfl) ?_
  refine z_lsub hC d_Mo_conjugate_95 ?_
  refine z_topl (z := (x0 * y3) - (x1 * y0)) (by omega) ?_
  refine z_last (ws' := [(o, .inr (5, [.int (iI cd), .int (iI z), .int (iI lv), .ref qT, .ref qC, .ref qF, .ref qY, .ref qZ, .ref qu, .ref qv, .ref qw, .ref qg, .ref qh, .ref qx, .ref qc, .ref qa, .ref qb, .ref qd, .int (iI fm), .ref qp, .ref qq])), (qu, eL t.2.1 4 (v4 x0 x1 x2 x3)), (qv, eL t.2.1 4 (v4 y0 y1 y2 y3)), (qc, eL t.2.1 4 (uZ (v4 ((x0 * y0) - (x1 * y0)) ((x0 * y1) - (x1 * y0)) ((x0 * y2) - (x1 * y0)) ((x0 * y3))) 3 ((x0 * y3) - (x1 * y0))))]) hC hK hP hD hS 3 rfl (by decide) rfl d_Mo_conjugate_96 (fun H locs hP hD hS => ?_)
  rw [v4_u3] at hP hD
  refine lv_iinc (v := iI 4) (lv' := [(6, .int (iI 4)), (4, .long (lI ((x1 * y0)))), (3, .int (iI 4)), (2, .int (iI 0)), (1, .int (iI 1)), (0, .ref o)]) hC.1 hC.2.1 d_Mo_conjugate_97 hl (k := 0) rfl (z_inc (by omega)) (by decide) rfl (fun ls hl => ?_)
  refine z_goto (tgt := 79) hC d_Mo_conjugate_100 (by decide) ?_
  refine lv_iload hC.1 hC.2.1 d_Mo_conjugate_79 (lv_at hl 0 rfl) ?_
  refine z_iconst hC d_Mo_conjugate_81 ?_
  refine z_icmp_ge (tgt := 103) hC d_Mo_conjugate_82 (by decide) (by decide) (by decide) (fun _ => ?_) (fun h => absurd h (by decide))
  refine lv_iinc (v := iI 1) (lv' := [(2, .int (iI 1)), (6, .int (iI 4)), (4, .long (lI ((x1 * y0)))), (3, .int (iI 4)), (1, .int (iI 1)), (0, .ref o)]) hC.1 hC.2.1 d_Mo_conjugate_103 hl (k := 3) rfl (z_inc (by omega)) (by decide) rfl (fun ls hl => ?_)
  refine z_goto (tgt := 29) hC d_Mo_conjugate_106 (by decide) ?_
  refine lv_iload_n hC.1 hC.2.1 d_Mo_conjugate_29 rfl (lv_at hl 0 rfl) ?_
  refine z_iconst hC d_Mo_conjugate_30 ?_
  refine z_icmp_ge (tgt := 109) hC d_Mo_conjugate_31 (by decide) (by decide) (by decide) (fun h => absurd h (by decide)) (fun _ => ?_)
  refine lv_iload_n hC.1 hC.2.1 d_Mo_conjugate_34 rfl (lv_at hl 0 rfl) ?_
  refine lv_iload_n hC.1 hC.2.1 d_Mo_conjugate_35 rfl (lv_at hl 4 rfl) ?_
  refine z_isub hC d_Mo_conjugate_36 ?_
  refine z_topi (z := 0) (by omega) ?_
  refine z_iconst hC d_Mo_conjugate_37 ?_
  refine z_iadd hC d_Mo_conjugate_38 ?_
  refine z_topi (z := 5) (by omega) ?_
  refine z_iconst hC d_Mo_conjugate_39 ?_
  refine z_irem hC d_Mo_conjugate_40 (by omega) (by omega) ?_
  refine z_topi (z := 0) (by decide) ?_
  refine lv_istore_n (lv' := [(3, .int (iI 0)), (2, .int (iI 1)), (6, .int (iI 4)), (4, .long (lI ((x1 * y0)))), (1, .int (iI 1)), (0, .ref o)]) hC.1 hC.2.1 d_Mo_conjugate_41 rfl hl (by decide) rfl (fun ls hl => ?_)
  refine lv_aload_n hC.1 hC.2.1 d_Mo_conjugate_42 rfl (lv_at hl 5 rfl) ?_
  refine z_get (ci := 5) (C := R_Mo) (T := F_Mo) (N := 21) (v := .ref qu) hC in_Mo hK hP 0 rfl rfl 8 (by decide) k_461 rfl d_Mo_conjugate_43 ?_
  refine lv_iload_n hC.1 hC.2.1 d_Mo_conjugate_46 rfl (lv_at hl 4 rfl) ?_
  refine z_lald hC hK hP 1 rfl (by decide) d_Mo_conjugate_47 ?_
  refine z_topl (z := x1) rfl ?_
  refine lv_aload_n hC.1 hC.2.1 d_Mo_conjugate_48 rfl (lv_at hl 5 rfl) ?_
  refine z_get (ci := 5) (C := R_Mo) (T := F_Mo) (N := 21) (v := .ref qv) hC in_Mo hK hP 0 rfl rfl 9 (by decide) k_462 rfl d_Mo_conjugate_49 ?_
  refine lv_iload_n hC.1 hC.2.1 d_Mo_conjugate_52 rfl (lv_at hl 1 rfl) ?_
  refine z_lald hC hK hP 2 rfl (by decide) d_Mo_conjugate_53 ?_
  refine z_topl (z := y1) rfl ?_
  refine z_lmul hC d_Mo_conjugate_54 ?_
  refine lv_lstore (lv' := [(4, .long (lI ((x1 * y1)))), (3, .int (iI 0)), (2, .int (iI 1)), (6, .int (iI 4)), (1, .int (iI 1)), (0, .ref o)]) hC.1 hC.2.1 d_Mo_conjugate_55 hl (by decide) rfl (fun ls hl => ?_)
  refine lv_iload_n hC.1 hC.2.1 d_Mo_conjugate_57 rfl (lv_at hl 1 rfl) ?_
  refine z_iconst hC d_Mo_conjugate_58 ?_
  refine z_icmp_ge (tgt := 76) hC d_Mo_conjugate_59 (by decide) (by decide) (by decide) (fun h => absurd h (by decide)) (fun _ => ?_)
  refine lv_aload_n hC.1 hC.2.1 d_Mo_conjugate_62 rfl (lv_at hl 5 rfl) ?_
  refine z_get (ci := 5) (C := R_Mo) (T := F_Mo) (N := 21) (v := .ref qc) hC in_Mo hK hP 0 rfl rfl 14 (by decide) k_467 rfl d_Mo_conjugate_63 ?_
  refine lv_iload_n hC.1 hC.2.1 d_Mo_conjugate_66 rfl (lv_at hl 1 rfl) ?_
  refine lv_dup2_11 hC.1 hC.2.1 d_Mo_conjugate_67 rfl rfl ?_
  refine z_lald hC hK hP 3 rfl (by decide) d_Mo_conjugate_68 ?_
  refine z_topl (z := (x0 * y0) - (x1 * y0)) rfl ?_
  refine lv_lload hC.1 hC.2.1 d_Mo_conjugate_69 (lv_at hl 0 rfl) ?_
  refine z_ladd hC d_Mo_conjugate_71 ?_
  refine z_topl (z := (x0 * y0) - (x1 * y0) + (x1 * y1)) (by omega) ?_
  refine z_last (ws' := [(o, .inr (5, [.int (iI cd), .int (iI z), .int (iI lv), .ref qT, .ref qC, .ref qF, .ref qY, .ref qZ, .ref qu, .ref qv, .ref qw, .ref qg, .ref qh, .ref qx, .ref qc, .ref qa, .ref qb, .ref qd, .int (iI fm), .ref qp, .ref qq])), (qu, eL t.2.1 4 (v4 x0 x1 x2 x3)), (qv, eL t.2.1 4 (v4 y0 y1 y2 y3)), (qc, eL t.2.1 4 (uZ (v4 ((x0 * y0) - (x1 * y0)) ((x0 * y1) - (x1 * y0)) ((x0 * y2) - (x1 * y0)) ((x0 * y3) - (x1 * y0))) 0 ((x0 * y0) - (x1 * y0) + (x1 * y1))))]) hC hK hP hD hS 3 rfl (by decide) rfl d_Mo_conjugate_72 (fun H locs hP hD hS => ?_)
  rw [v4_u0] at hP hD
  refine z_goto (tgt := 103) hC d_Mo_conjugate_73 (by decide) ?_
  refine lv_iinc (v := iI 2) (lv' := [(2, .int (iI 2)), (4, .long (lI ((x1 * y1)))), (3, .int (iI 0)), (6, .int (iI 4)), (1, .int (iI 1)), (0, .ref o)]) hC.1 hC.2.1 d_Mo_conjugate_103 hl (k := 2) rfl (z_inc (by omega)) (by decide) rfl (fun ls hl => ?_)
  refine z_goto (tgt := 29) hC d_Mo_conjugate_106 (by decide) ?_
  refine lv_iload_n hC.1 hC.2.1 d_Mo_conjugate_29 rfl (lv_at hl 0 rfl) ?_
  refine z_iconst hC d_Mo_conjugate_30 ?_
  refine z_icmp_ge (tgt := 109) hC d_Mo_conjugate_31 (by decide) (by decide) (by decide) (fun h => absurd h (by decide)) (fun _ => ?_)
  refine lv_iload_n hC.1 hC.2.1 d_Mo_conjugate_34 rfl (lv_at hl 0 rfl) ?_
  refine lv_iload_n hC.1 hC.2.1 d_Mo_conjugate_35 rfl (lv_at hl 4 rfl) ?_
  refine z_isub hC d_Mo_conjugate_36 ?_
  refine z_topi (z := 1) (by omega) ?_
  refine z_iconst hC d_Mo_conjugate_37 ?_
  refine z_iadd hC d_Mo_conjugate_38 ?_
  refine z_topi (z := 6) (by omega) ?_
  refine z_iconst hC d_Mo_conjugate_39 ?_
  refine z_irem hC d_Mo_conjugate_40 (by omega) (by omega) ?_
  refine z_topi (z := 1) (by decide) ?_
  refine lv_istore_n (lv' := [(3, .int (iI 1)), (2, .int (iI 2)), (4, .long (lI ((x1 * y1)))), (6, .int (iI 4)), (1, .int (iI 1)), (0, .ref o)]) hC.1 hC.2.1 d_Mo_conjugate_41 rfl hl (by decide) rfl (fun ls hl => ?_)
  refine lv_aload_n hC.1 hC.2.1 d_Mo_conjugate_42 rfl (lv_at hl 5 rfl) ?_
  refine z_get (ci := 5) (C := R_Mo) (T := F_Mo) (N := 21) (v := .ref qu) hC in_Mo hK hP 0 rfl rfl 8 (by decide) k_461 rfl d_Mo_conjugate_43 ?_
  refine lv_iload_n hC.1 hC.2.1 d_Mo_conjugate_46 rfl (lv_at hl 4 rfl) ?_
  refine z_lald hC hK hP 1 rfl (by decide) d_Mo_conjugate_47 ?_
  refine z_topl (z := x1) rfl ?_
  refine lv_aload_n hC.1 hC.2.1 d_Mo_conjugate_48 rfl (lv_at hl 5 rfl) ?_
  refine z_get (ci := 5) (C := R_Mo) (T := F_Mo) (N := 21) (v := .ref qv) hC in_Mo hK hP 0 rfl rfl 9 (by decide) k_462 rfl d_Mo_conjugate_49 ?_
  refine lv_iload_n hC.1 hC.2.1 d_Mo_conjugate_52 rfl (lv_at hl 1 rfl) ?_
  refine z_lald hC hK hP 2 rfl (by decide) d_Mo_conjugate_53 ?_
  refine z_topl (z := y2) rfl ?_
  refine z_lmul hC d_Mo_conjugate_54 ?_
  refine lv_lstore (lv' := [(4, .long (lI ((x1 * y2)))), (3, .int (iI 1)), (2, .int (iI 2)), (6, .int (iI 4)), (1, .int (iI 1)), (0, .ref o)]) hC.1 hC.2.1 d_Mo_conjugate_55 hl (by decide) rfl (fun ls hl => ?_)
  refine lv_iload_n hC.1 hC.2.1 d_Mo_conjugate_57 rfl (lv_at hl 1 rfl) ?_
  refine z_iconst hC d_Mo_conjugate_58 ?_
  refine z_icmp_ge (tgt := 76) hC d_Mo_conjugate_59 (by decide) (by decide) (by decide) (fun h => absurd h (by decide)) (fun _ => ?_)
  refine lv_aload_n hC.1 hC.2.1 d_Mo_conjugate_62 rfl (lv_at hl 5 rfl) ?_
  refine z_get (ci := 5) (C := R_Mo) (T := F_Mo) (N := 21) (v := .ref qc) hC in_Mo hK hP 0 rfl rfl 14 (by decide) k_467 rfl d_Mo_conjugate_63 ?_
  refine lv_iload_n hC.1 hC.2.1 d_Mo_conjugate_66 rfl (lv_at hl 1 rfl) ?_
  refine lv_dup2_11 hC.1 hC.2.1 d_Mo_conjugate_67 rfl rfl ?_
  refine z_lald hC hK hP 3 rfl (by decide) d_Mo_conjugate_68 ?_
  refine z_topl (z := (x0 * y1) - (x1 * y0)) rfl ?_
  refine lv_lload hC.1 hC.2.1 d_Mo_conjugate_69 (lv_at hl 0 rfl) ?_
  refine z_ladd hC d_Mo_conjugate_71 ?_
  refine z_topl (z := (x0 * y1) - (x1 * y0) + (x1 * y2)) (by omega) ?_
  refine z_last (ws' := [(o, .inr (5, [.int (iI cd), .int (iI z), .int (iI lv), .ref qT, .ref qC, .ref qF, .ref qY, .ref qZ, .ref qu, .ref qv, .ref qw, .ref qg, .ref qh, .ref qx, .ref qc, .ref qa, .ref qb, .ref qd, .int (iI fm), .ref qp, .ref qq])), (qu, eL t.2.1 4 (v4 x0 x1 x2 x3)), (qv, eL t.2.1 4 (v4 y0 y1 y2 y3)), (qc, eL t.2.1 4 (uZ (v4 ((x0 * y0) - (x1 * y0) + (x1 * y1)) ((x0 * y1) - (x1 * y0)) ((x0 * y2) - (x1 * y0)) ((x0 * y3) - (x1 * y0))) 1 ((x0 * y1) - (x1 * y0) + (x1 * y2))))]) hC hK hP hD hS 3 rfl (by decide) rfl d_Mo_conjugate_72 (fun H locs hP hD hS => ?_)
  rw [v4_u1] at hP hD
  refine z_goto (tgt := 103) hC d_Mo_conjugate_73 (by decide) ?_
  refine lv_iinc (v := iI 3) (lv' := [(2, .int (iI 3)), (4, .long (lI ((x1 * y2)))), (3, .int (iI 1)), (6, .int (iI 4)), (1, .int (iI 1)), (0, .ref o)]) hC.1 hC.2.1 d_Mo_conjugate_103 hl (k := 2) rfl (z_inc (by omega)) (by decide) rfl (fun ls hl => ?_)
  refine z_goto (tgt := 29) hC d_Mo_conjugate_106 (by decide) ?_
  refine lv_iload_n hC.1 hC.2.1 d_Mo_conjugate_29 rfl (lv_at hl 0 rfl) ?_
  refine z_iconst hC d_Mo_conjugate_30 ?_
  refine z_icmp_ge (tgt := 109) hC d_Mo_conjugate_31 (by decide) (by decide) (by decide) (fun h => absurd h (by decide)) (fun _ => ?_)
  refine lv_iload_n hC.1 hC.2.1 d_Mo_conjugate_34 rfl (lv_at hl 0 rfl) ?_
  refine lv_iload_n hC.1 hC.2.1 d_Mo_conjugate_35 rfl (lv_at hl 4 rfl) ?_
  refine z_isub hC d_Mo_conjugate_36 ?_
  refine z_topi (z := 2) (by omega) ?_
  refine z_iconst hC d_Mo_conjugate_37 ?_
  refine z_iadd hC d_Mo_conjugate_38 ?_
  refine z_topi (z := 7) (by omega) ?_
  refine z_iconst hC d_Mo_conjugate_39 ?_
  refine z_irem hC d_Mo_conjugate_40 (by omega) (by omega) ?_
  refine z_topi (z := 2) (by decide) ?_
  refine lv_istore_n (lv' := [(3, .int (iI 2)), (2, .int (iI 3)), (4, .long (lI ((x1 * y2)))), (6, .int (iI 4)), (1, .int (iI 1)), (0, .ref o)]) hC.1 hC.2.1 d_Mo_conjugate_41 rfl hl (by decide) rfl (fun ls hl => ?_)
  refine lv_aload_n hC.1 hC.2.1 d_Mo_conjugate_42 rfl (lv_at hl 5 rfl) ?_
  refine z_get (ci := 5) (C := R_Mo) (T := F_Mo) (N := 21) (v := .ref qu) hC in_Mo hK hP 0 rfl rfl 8 (by decide) k_461 rfl d_Mo_conjugate_43 ?_
  refine lv_iload_n hC.1 hC.2.1 d_Mo_conjugate_46 rfl (lv_at hl 4 rfl) ?_
  refine z_lald hC hK hP 1 rfl (by decide) d_Mo_conjugate_47 ?_
  refine z_topl (z := x1) rfl ?_
  refine lv_aload_n hC.1 hC.2.1 d_Mo_conjugate_48 rfl (lv_at hl 5 rfl) ?_
  refine z_get (ci := 5) (C := R_Mo) (T := F_Mo) (N := 21) (v := .ref qv) hC in_Mo hK hP 0 rfl rfl 9 (by decide) k_462 rfl d_Mo_conjugate_49 ?_
  refine lv_iload_n hC.1 hC.2.1 d_Mo_conjugate_52 rfl (lv_at hl 1 rfl) ?_
  refine z_lald hC hK hP 2 rfl (by decide) d_Mo_conjugate_53 ?_
  refine z_topl (z := y3) rfl ?_
  refine z_lmul hC d_Mo_conjugate_54 ?_
  refine lv_lstore (lv' := [(4, .long (lI ((x1 * y3)))), (3, .int (iI 2)), (2, .int (iI 3)), (6, .int (iI 4)), (1, .int (iI 1)), (0, .ref o)]) hC.1 hC.2.1 d_Mo_conjugate_55 hl (by decide) rfl (fun ls hl => ?_)
  refine lv_iload_n hC.1 hC.2.1 d_Mo_conjugate_57 rfl (lv_at hl 1 rfl) ?_
  refine z_iconst hC d_Mo_conjugate_58 ?_
  refine z_icmp_ge (tgt := 76) hC d_Mo_conjugate_59 (by decide) (by decide) (by decide) (fun h => absurd h (by decide)) (fun _ => ?_)
  refine lv_aload_n hC.1 hC.2.1 d_Mo_conjugate_62 rfl (lv_at hl 5 rfl) ?_
  refine z_get (ci := 5) (C := R_Mo) (T := F_Mo) (N := 21) (v := .ref qc) hC in_Mo hK hP 0 rfl rfl 14 (by decide) k_467 rfl d_Mo_conjugate_63 ?_
  refine lv_iload_n hC.1 hC.2.1 d_Mo_conjugate_66 rfl (lv_at hl 1 rfl) ?_
  refine lv_dup2_11 hC.1 hC.2.1 d_Mo_conjugate_67 rfl rfl ?_
  refine z_lald hC hK hP 3 rfl (by decide) d_Mo_conjugate_68 ?_
  refine z_topl (z := (x0 * y2) - (x1 * y0)) rfl ?_
  refine lv_lload hC.1 hC.2.1 d_Mo_conjugate_69 (lv_at hl 0 rfl) ?_
  refine z_ladd hC d_Mo_conjugate_71 ?_
  refine z_topl (z := (x0 * y2) - (x1 * y0) + (x1 * y3)) (by omega) ?_
  refine z_last (ws' := [(o, .inr (5, [.int (iI cd), .int (iI z), .int (iI lv), .ref qT, .ref qC, .ref qF, .ref qY, .ref qZ, .ref qu, .ref qv, .ref qw, .ref qg, .ref qh, .ref qx, .ref qc, .ref qa, .ref qb, .ref qd, .int (iI fm), .ref qp, .ref qq])), (qu, eL t.2.1 4 (v4 x0 x1 x2 x3)), (qv, eL t.2.1 4 (v4 y0 y1 y2 y3)), (qc, eL t.2.1 4 (uZ (v4 ((x0 * y0) - (x1 * y0) + (x1 * y1)) ((x0 * y1) - (x1 * y0) + (x1 * y2)) ((x0 * y2) - (x1 * y0)) ((x0 * y3) - (x1 * y0))) 2 ((x0 * y2) - (x1 * y0) + (x1 * y3))))]) hC hK hP hD hS 3 rfl (by decide) rfl d_Mo_conjugate_72 (fun H locs hP hD hS => ?_)
  rw [v4_u2] at hP hD
  refine z_goto (tgt := 103) hC d_Mo_conjugate_73 (by decide) ?_
  refine lv_iinc (v := iI 4) (lv' := [(2, .int (iI 4)), (4, .long (lI ((x1 * y3)))), (3, .int (iI 2)), (6, .int (iI 4)), (1, .int (iI 1)), (0, .ref o)]) hC.1 hC.2.1 d_Mo_conjugate_103 hl (k := 2) rfl (z_inc (by omega)) (by decide) rfl (fun ls hl => ?_)
  refine z_goto (tgt := 29) hC d_Mo_conjugate_106 (by decide) ?_
  refine lv_iload_n hC.1 hC.2.1 d_Mo_conjugate_29 rfl (lv_at hl 0 rfl) ?_
  refine z_iconst hC d_Mo_conjugate_30 ?_
  refine z_icmp_ge (tgt := 109) hC d_Mo_conjugate_31 (by decide) (by decide) (by decide) (fun _ => ?_) (fun h => absurd h (by decide))
  refine lv_iinc (v := iI 2) (lv' := [(1, .int (iI 2)), (2, .int (iI 4)), (4, .long (lI ((x1 * y3)))), (3, .int (iI 2)), (6, .int (iI 4)), (0, .ref o)]) hC.1 hC.2.1 d_Mo_conjugate_109 hl (k := 4) rfl (z_inc (by omega)) (by decide) rfl (fun ls hl => ?_)
  refine z_goto (tgt := 22) hC d_Mo_conjugate_112 (by decide) ?_
  refine lv_iload_n hC.1 hC.2.1 d_Mo_conjugate_22 rfl (lv_at hl 0 rfl) ?_
  refine z_iconst hC d_Mo_conjugate_23 ?_
  refine z_icmp_ge (tgt := 115) hC d_Mo_conjugate_24 (by decide) (by decide) (by decide) (fun h => absurd h (by decide)) (fun _ => ?_)
  refine z_iconst hC d_Mo_conjugate_27 ?_
  refine lv_istore_n (lv' := [(2, .int (iI 0)), (1, .int (iI 2)), (4, .long (lI ((x1 * y3)))), (3, .int (iI 2)), (6, .int (iI 4)), (0, .ref o)]) hC.1 hC.2.1 d_Mo_conjugate_28 rfl hl (by decide) rfl (fun ls hl => ?_)
  refine lv_iload_n hC.1 hC.2.1 d_Mo_conjugate_29 rfl (lv_at hl 0 rfl) ?_
  refine z_iconst hC d_Mo_conjugate_30 ?_
  refine z_icmp_ge (tgt := 109) hC d_Mo_conjugate_31 (by decide) (by decide) (by decide) (fun h => absurd h (by decide)) (fun _ => ?_)
  refine lv_iload_n hC.1 hC.2.1 d_Mo_conjugate_34 rfl (lv_at hl 0 rfl) ?_
  refine lv_iload_n hC.1 hC.2.1 d_Mo_conjugate_35 rfl (lv_at hl 1 rfl) ?_
  refine z_isub hC d_Mo_conjugate_36 ?_
  refine z_topi (z := -2) (by omega) ?_
  refine z_iconst hC d_Mo_conjugate_37 ?_
  refine z_iadd hC d_Mo_conjugate_38 ?_
  refine z_topi (z := 3) (by omega) ?_
  refine z_iconst hC d_Mo_conjugate_39 ?_
  refine z_irem hC d_Mo_conjugate_40 (by omega) (by omega) ?_
  refine z_topi (z := 3) (by decide) ?_
  refine lv_istore_n (lv' := [(3, .int (iI 3)), (2, .int (iI 0)), (1, .int (iI 2)), (4, .long (lI ((x1 * y3)))), (6, .int (iI 4)), (0, .ref o)]) hC.1 hC.2.1 d_Mo_conjugate_41 rfl hl (by decide) rfl (fun ls hl => ?_)
  refine lv_aload_n hC.1 hC.2.1 d_Mo_conjugate_42 rfl (lv_at hl 5 rfl) ?_
  refine z_get (ci := 5) (C := R_Mo) (T := F_Mo) (N := 21) (v := .ref qu) hC in_Mo hK hP 0 rfl rfl 8 (by decide) k_461 rfl d_Mo_conjugate_43 ?_
  refine lv_iload_n hC.1 hC.2.1 d_Mo_conjugate_46 rfl (lv_at hl 2 rfl) ?_
  refine z_lald hC hK hP 1 rfl (by decide) d_Mo_conjugate_47 ?_
  refine z_topl (z := x2) rfl ?_
  refine lv_aload_n hC.1 hC.2.1 d_Mo_conjugate_48 rfl (lv_at hl 5 rfl) ?_
  refine z_get (ci := 5) (C := R_Mo) (T := F_Mo) (N := 21) (v := .ref qv) hC in_Mo hK hP 0 rfl rfl 9 (by decide) k_462 rfl d_Mo_conjugate_49 ?_
  refine lv_iload_n hC.1 hC.2.1 d_Mo_conjugate_52 rfl (lv_at hl 1 rfl) ?_
  refine z_lald hC hK hP 2 rfl (by decide) d_Mo_conjugate_53 ?_
  refine z_topl (z := y0) rfl ?_
  refine z_lmul hC d_Mo_conjugate_54 ?_
  refine lv_lstore (lv' := [(4, .long (lI ((x2 * y0)))), (3, .int (iI 3)), (2, .int (iI 0)), (1, .int (iI 2)), (6, .int (iI 4)), (0, .ref o)]) hC.1 hC.2.1 d_Mo_conjugate_55 hl (by decide) rfl (fun ls hl => ?_)
  refine lv_iload_n hC.1 hC.2.1 d_Mo_conjugate_57 rfl (lv_at hl 1 rfl) ?_
  refine z_iconst hC d_Mo_conjugate_58 ?_
  refine z_icmp_ge (tgt := 76) hC d_Mo_conjugate_59 (by decide) (by decide) (by decide) (fun h => absurd h (by decide)) (fun _ => ?_)
  refine lv_aload_n hC.1 hC.2.1 d_Mo_conjugate_62 rfl (lv_at hl 5 rfl) ?_
  refine z_get (ci := 5) (C := R_Mo) (T := F_Mo) (N := 21) (v := .ref qc) hC in_Mo hK hP 0 rfl rfl 14 (by decide) k_467 rfl d_Mo_conjugate_63 ?_
  refine lv_iload_n hC.1 hC.2.1 d_Mo_conjugate_66 rfl (lv_at hl 1 rfl) ?_
  refine lv_dup2_11 hC.1 hC.2.1 d_Mo_conjugate_67 rfl rfl ?_
  refine z_lald hC hK hP 3 rfl (by decide) d_Mo_conjugate_68 ?_
  refine z_topl (z := (x0 * y3) - (x1 * y0)) rfl ?_
  refine lv_lload hC.1 hC.2.1 d_Mo_conjugate_69 (lv_at hl 0 rfl) ?_
  refine z_ladd hC d_Mo_conjugate_71 ?_
  refine z_topl (z := (x0 * y3) - (x1 * y0) + (x2 * y0)) (by omega) ?_
  refine z_last (ws' := [(o, .inr (5, [.int (iI cd), .int (iI z), .int (iI lv), .ref qT, .ref qC, .ref qF, .ref qY, .ref qZ, .ref qu, .ref qv, .ref qw, .ref qg, .ref qh, .ref qx, .ref qc, .ref qa, .ref qb, .ref qd, .int (iI fm), .ref qp, .ref qq])), (qu, eL t.2.1 4 (v4 x0 x1 x2 x3)), (qv, eL t.2.1 4 (v4 y0 y1 y2 y3)), (qc, eL t.2.1 4 (uZ (v4 ((x0 * y0) - (x1 * y0) + (x1 * y1)) ((x0 * y1) - (x1 * y0) + (x1 * y2)) ((x0 * y2) - (x1 * y0) + (x1 * y3)) ((x0 * y3) - (x1 * y0))) 3 ((x0 * y3) - (x1 * y0) + (x2 * y0))))]) hC hK hP hD hS 3 rfl (by decide) rfl d_Mo_conjugate_72 (fun H locs hP hD hS => ?_)
  rw [v4_u3] at hP hD
  refine z_goto (tgt := 103) hC d_Mo_conjugate_73 (by decide) ?_
  refine lv_iinc (v := iI 1) (lv' := [(2, .int (iI 1)), (4, .long (lI ((x2 * y0)))), (3, .int (iI 3)), (1, .int (iI 2)), (6, .int (iI 4)), (0, .ref o)]) hC.1 hC.2.1 d_Mo_conjugate_103 hl (k := 2) rfl (z_inc (by omega)) (by decide) rfl (fun ls hl => ?_)
  refine z_goto (tgt := 29) hC d_Mo_conjugate_106 (by decide) ?_
  refine lv_iload_n hC.1 hC.2.1 d_Mo_conjugate_29 rfl (lv_at hl 0 rfl) ?_
  refine z_iconst hC d_Mo_conjugate_30 ?_
  refine z_icmp_ge (tgt := 109) hC d_Mo_conjugate_31 (by decide) (by decide) (by decide) (fun h => absurd h (by decide)) (fun _ => ?_)
  refine lv_iload_n hC.1 hC.2.1 d_Mo_conjugate_34 rfl (lv_at hl 0 rfl) ?_
  refine lv_iload_n hC.1 hC.2.1 d_Mo_conjugate_35 rfl (lv_at hl 3 rfl) ?_
  refine z_isub hC d_Mo_conjugate_36 ?_
  refine z_topi (z := -1) (by omega) ?_
  refine z_iconst hC d_Mo_conjugate_37 ?_
  refine z_iadd hC d_Mo_conjugate_38 ?_
  refine z_topi (z := 4) (by omega) ?_
  refine z_iconst hC d_Mo_conjugate_39 ?_
  refine z_irem hC d_Mo_conjugate_40 (by omega) (by omega) ?_
  refine z_topi (z := 4) (by decide) ?_
  refine lv_istore_n (lv' := [(3, .int (iI 4)), (2, .int (iI 1)), (4, .long (lI ((x2 * y0)))), (1, .int (iI 2)), (6, .int (iI 4)), (0, .ref o)]) hC.1 hC.2.1 d_Mo_conjugate_41 rfl hl (by decide) rfl (fun ls hl => ?_)
  refine lv_aload_n hC.1 hC.2.1 d_Mo_conjugate_42 rfl (lv_at hl 5 rfl) ?_
  refine z_get (ci := 5) (C := R_Mo) (T := F_Mo) (N := 21) (v := .ref qu) hC in_Mo hK hP 0 rfl rfl 8 (by decide) k_461 rfl d_Mo_conjugate_43 ?_
  refine lv_iload_n hC.1 hC.2.1 d_Mo_conjugate_46 rfl (lv_at hl 3 rfl) ?_
  refine z_lald hC hK hP 1 rfl (by decide) d_Mo_conjugate_47 ?_
  refine z_topl (z := x2) rfl ?_
  refine lv_aload_n hC.1 hC.2.1 d_Mo_conjugate_48 rfl (lv_at hl 5 rfl) ?_
  refine z_get (ci := 5) (C := R_Mo) (T := F_Mo) (N := 21) (v := .ref qv) hC in_Mo hK hP 0 rfl rfl 9 (by decide) k_462 rfl d_Mo_conjugate_49 ?_
  refine lv_iload_n hC.1 hC.2.1 d_Mo_conjugate_52 rfl (lv_at hl 1 rfl) ?_
  refine z_lald hC hK hP 2 rfl (by decide) d_Mo_conjugate_53 ?_
  refine z_topl (z := y1) rfl ?_
  refine z_lmul hC d_Mo_conjugate_54 ?_
  refine lv_lstore (lv' := [(4, .long (lI ((x2 * y1)))), (3, .int (iI 4)), (2, .int (iI 1)), (1, .int (iI 2)), (6, .int (iI 4)), (0, .ref o)]) hC.1 hC.2.1 d_Mo_conjugate_55 hl (by decide) rfl (fun ls hl => ?_)
  refine lv_iload_n hC.1 hC.2.1 d_Mo_conjugate_57 rfl (lv_at hl 1 rfl) ?_
  refine z_iconst hC d_Mo_conjugate_58 ?_
  refine z_icmp_ge (tgt := 76) hC d_Mo_conjugate_59 (by decide) (by decide) (by decide) (fun _ => ?_) (fun h => absurd h (by decide))
  refine z_iconst hC d_Mo_conjugate_76 ?_
  refine lv_istore (lv' := [(6, .int (iI 0)), (4, .long (lI ((x2 * y1)))), (3, .int (iI 4)), (2, .int (iI 1)), (1, .int (iI 2)), (0, .ref o)]) hC.1 hC.2.1 d_Mo_conjugate_77 hl (by decide) rfl (fun ls hl => ?_)
  refine lv_iload hC.1 hC.2.1 d_Mo_conjugate_79 (lv_at hl 0 rfl) ?_
  refine z_iconst hC d_Mo_conjugate_81 ?_
  refine z_icmp_ge (tgt := 103) hC d_Mo_conjugate_82 (by decide) (by decide) (by decide) (fun h => absurd h (by decide)) (fun _ => ?_)
  refine lv_aload_n hC.1 hC.2.1 d_Mo_conjugate_85 rfl (lv_at hl 5 rfl) ?_
  refine z_get (ci := 5) (C := R_Mo) (T := F_Mo) (N := 21) (v := .ref qc) hC in_Mo hK hP 0 rfl rfl 14 (by decide) k_467 rfl d_Mo_conjugate_86 ?_
  refine lv_iload hC.1 hC.2.1 d_Mo_conjugate_89 (lv_at hl 0 rfl) ?_
  refine lv_dup2_11 hC.1 hC.2.1 d_Mo_conjugate_91 rfl rfl ?_
  refine z_lald hC hK hP 3 rfl (by decide) d_Mo_conjugate_92 ?_
  refine z_topl (z := (x0 * y0) - (x1 * y0) + (x1 * y1)) rfl ?_
  refine lv_lload hC.1 hC.2.1 d_Mo_conjugate_93 (lv_at hl 1 rfl) ?_
  refine z_lsub hC d_Mo_conjugate_95 ?_
  refine z_topl (z := (x0 * y0) - (x1 * y0) + (x1 * y1) - (x2 * y1)) (by omega) ?_
  refine z_last (ws' := [(o, .inr (5, [.int (iI cd), .int (iI z), .int (iI lv), .ref qT, .ref qC, .ref qF, .ref qY, .ref qZ, .ref qu, .ref qv, .ref qw, .ref qg, .ref qh, .ref qx, .ref qc, .ref qa, .ref qb, .ref qd, .int (iI fm), .ref qp, .ref qq])), (qu, eL t.2.1 4 (v4 x0 x1 x2 x3)), (qv, eL t.2.1 4 (v4 y0 y1 y2 y3)), (qc, eL t.2.1 4 (uZ (v4 ((x0 * y0) - (x1 * y0) + (x1 * y1)) ((x0 * y1) - (x1 * y0) + (x1 * y2)) ((x0 * y2) - (x1 * y0) + (x1 * y3)) ((x0 * y3) - (x1 * y0) + (x2 * y0))) 0 ((x0 * y0) - (x1 * y0) + (x1 * y1) - (x2 * y1))))]) hC hK hP hD hS 3 rfl (by decide) rfl d_Mo_conjugate_96 (fun H locs hP hD hS => ?_)
  rw [v4_u0] at hP hD
  refine lv_iinc (v := iI 1) (lv' := [(6, .int (iI 1)), (4, .long (lI ((x2 * y1)))), (3, .int (iI 4)), (2, .int (iI 1)), (1, .int (iI 2)), (0, .ref o)]) hC.1 hC.2.1 d_Mo_conjugate_97 hl (k := 0) rfl (z_inc (by omega)) (by decide) rfl (fun ls hl => ?_)
  refine z_goto (tgt := 79) hC d_Mo_conjugate_100 (by decide) ?_
  refine lv_iload hC.1 hC.2.1 d_Mo_conjugate_79 (lv_at hl 0 rfl) ?_
  refine z_iconst hC d_Mo_conjugate_81 ?_
  refine z_icmp_ge (tgt := 103) hC d_Mo_conjugate_82 (by decide) (by decide) (by decide) (fun h => absurd h (by decide)) (fun _ => ?_)
  refine lv_aload_n hC.1 hC.2.1 d_Mo_conjugate_85 rfl (lv_at hl 5 rfl) ?_
  refine z_get (ci := 5) (C := R_Mo) (T := F_Mo) (N := 21) (v := .ref qc) hC in_Mo hK hP 0 rfl rfl 14 (by decide) k_467 rfl d_Mo_conjugate_86 ?_
  refine lv_iload hC.1 hC.2.1 d_Mo_conjugate_89 (lv_at hl 0 rfl) ?_
  refine lv_dup2_11 hC.1 hC.2.1 d_Mo_conjugate_91 rfl rfl ?_
  refine z_lald hC hK hP 3 rfl (by decide) d_Mo_conjugate_92 ?_
  refine z_topl (z := (x0 * y1) - (x1 * y0) + (x1 * y2)) rfl ?_
  refine lv_lload hC.1 hC.2.1 d_Mo_conjugate_93 (lv_at hl 1 rfl) ?_
  refine z_lsub hC d_Mo_conjugate_95 ?_
  refine z_topl (z := (x0 * y1) - (x1 * y0) + (x1 * y2) - (x2 * y1)) (by omega) ?_
  refine z_last (ws' := [(o, .inr (5, [.int (iI cd), .int (iI z), .int (iI lv), .ref qT, .ref qC, .ref qF, .ref qY, .ref qZ, .ref qu, .ref qv, .ref qw, .ref qg, .ref qh, .ref qx, .ref qc, .ref qa, .ref qb, .ref qd, .int (iI fm), .ref qp, .ref qq])), (qu, eL t.2.1 4 (v4 x0 x1 x2 x3)), (qv, eL t.2.1 4 (v4 y0 y1 y2 y3)), (qc, eL t.2.1 4 (uZ (v4 ((x0 * y0) - (x1 * y0) + (x1 * y1) - (x2 * y1)) ((x0 * y1) - (x1 * y0) + (x1 * y2)) ((x0 * y2) - (x1 * y0) + (x1 * y3)) ((x0 * y3) - (x1 * y0) + (x2 * y0))) 1 ((x0 * y1) - (x1 * y0) + (x1 * y2) - (x2 * y1))))]) hC hK hP hD hS 3 rfl (by decide) rfl d_Mo_conjugate_96 (fun H locs hP hD hS => ?_)
  rw [v4_u1] at hP hD
  refine lv_iinc (v := iI 2) (lv' := [(6, .int (iI 2)), (4, .long (lI ((x2 * y1)))), (3, .int (iI 4)), (2, .int (iI 1)), (1, .int (iI 2)), (0, .ref o)]) hC.1 hC.2.1 d_Mo_conjugate_97 hl (k := 0) rfl (z_inc (by omega)) (by decide) rfl (fun ls hl => ?_)
  refine z_goto (tgt := 79) hC d_Mo_conjugate_100 (by decide) ?_
  refine lv_iload hC.1 hC.2.1 d_Mo_conjugate_79 (lv_at hl 0 rfl) ?_
  refine z_iconst hC d_Mo_conjugate_81 ?_
  refine z_icmp_ge (tgt := 103) hC d_Mo_conjugate_82 (by decide) (by decide) (by decide) (fun h => absurd h (by decide)) (fun _ => ?_)
  refine lv_aload_n hC.1 hC.2.1 d_Mo_conjugate_85 rfl (lv_at hl 5 rfl) ?_
  refine z_get (ci := 5) (C := R_Mo) (T := F_Mo) (N := 21) (v := .ref qc) hC in_Mo hK hP 0 rfl rfl 14 (by decide) k_467 rfl d_Mo_conjugate_86 ?_
  refine lv_iload hC.1 hC.2.1 d_Mo_conjugate_89 (lv_at hl 0 rfl) ?_
  refine lv_dup2_11 hC.1 hC.2.1 d_Mo_conjugate_91 rfl rfl ?_
  refine z_lald hC hK hP 3 rfl (by decide) d_Mo_conjugate_92 ?_
  refine z_topl (z := (x0 * y2) - (x1 * y0) + (x1 * y3)) rfl ?_
  refine lv_lload hC.1 hC.2.1 d_Mo_conjugate_93 (lv_at hl 1 rfl) ?_
  refine z_lsub hC d_Mo_conjugate_95 ?_
  refine z_topl (z := (x0 * y2) - (x1 * y0) + (x1 * y3) - (x2 * y1)) (by omega) ?_
  refine z_last (ws' := [(o, .inr (5, [.int (iI cd), .int (iI z), .int (iI lv), .ref qT, .ref qC, .ref qF, .ref qY, .ref qZ, .ref qu, .ref qv, .ref qw, .ref qg, .ref qh, .ref qx, .ref qc, .ref qa, .ref qb, .ref qd, .int (iI fm), .ref qp, .ref qq])), (qu, eL t.2.1 4 (v4 x0 x1 x2 x3)), (qv, eL t.2.1 4 (v4 y0 y1 y2 y3)), (qc, eL t.2.1 4 (uZ (v4 ((x0 * y0) - (x1 * y0) + (x1 * y1) - (x2 * y1)) ((x0 * y1) - (x1 * y0) + (x1 * y2) - (x2 * y1)) ((x0 * y2) - (x1 * y0) + (x1 * y3)) ((x0 * y3) - (x1 * y0) + (x2 * y0))) 2 ((x0 * y2) - (x1 * y0) + (x1 * y3) - (x2 * y1))))]) hC hK hP hD hS 3 rfl (by decide) rfl d_Mo_conjugate_96 (fun H locs hP hD hS => ?_)
  rw [v4_u2] at hP hD
  refine lv_iinc (v := iI 3) (lv' := [(6, .int (iI 3)), (4, .long (lI ((x2 * y1)))), (3, .int (iI 4)), (2, .int (iI 1)), (1, .int (iI 2)), (0, .ref o)]) hC.1 hC.2.1 d_Mo_conjugate_97 hl (k := 0) rfl (z_inc (by omega)) (by decide) rfl (fun ls hl => ?_)
  refine z_goto (tgt := 79) hC d_Mo_conjugate_100 (by decide) ?_
  refine lv_iload hC.1 hC.2.1 d_Mo_conjugate_79 (lv_at hl 0 rfl) ?_
  refine z_iconst hC d_Mo_conjugate_81 ?_
  refine z_icmp_ge (tgt := 103) hC d_Mo_conjugate_82 (by decide) (by decide) (by decide) (fun h => absurd h (by decide)) (fun _ => ?_)
  refine lv_aload_n hC.1 hC.2.1 d_Mo_conjugate_85 rfl (lv_at hl 5 rfl) ?_
  refine z_get (ci := 5) (C := R_Mo) (T := F_Mo) (N := 21) (v := .ref qc) hC in_Mo hK hP 0 rfl rfl 14 (by decide) k_467 rfl d_Mo_conjugate_86 ?_
  refine lv_iload hC.1 hC.2.1 d_Mo_conjugate_89 (lv_at hl 0 rfl) ?_
  refine lv_dup2_11 hC.1 hC.2.1 d_Mo_conjugate_91 rfl rfl ?_
  refine z_lald hC hK hP 3 rfl (by decide) d_Mo_conjugate_92 ?_
  refine z_topl (z := (x0 * y3) - (x1 * y0) + (x2 * y0)) rfl ?_
  refine lv_lload hC.1 hC.2.1 d_Mo_conjugate_93 (lv_at hl 1 rfl) ?_
  refine z_lsub hC d_Mo_conjugate_95 ?_
  refine z_topl (z := (x0 * y3) - (x1 * y0) + (x2 * y0) - (x2 * y1)) (by omega) ?_
  refine z_last (ws' := [(o, .inr (5, [.int (iI cd), .int (iI z), .int (iI lv), .ref qT, .ref qC, .ref qF, .ref qY, .ref qZ, .ref qu, .ref qv, .ref qw, .ref qg, .ref qh, .ref qx, .ref qc, .ref qa, .ref qb, .ref qd, .int (iI fm), .ref qp, .ref qq])), (qu, eL t.2.1 4 (v4 x0 x1 x2 x3)), (qv, eL t.2.1 4 (v4 y0 y1 y2 y3)), (qc, eL t.2.1 4 (uZ (v4 ((x0 * y0) - (x1 * y0) + (x1 * y1) - (x2 * y1)) ((x0 * y1) - (x1 * y0) + (x1 * y2) - (x2 * y1)) ((x0 * y2) - (x1 * y0) + (x1 * y3) - (x2 * y1)) ((x0 * y3) - (x1 * y0) + (x2 * y0))) 3 ((x0 * y3) - (x1 * y0) + (x2 * y0) - (x2 * y1))))]) hC hK hP hD hS 3 rfl (by decide) rfl d_Mo_conjugate_96 (fun H locs hP hD hS => ?_)
  rw [v4_u3] at hP hD
  refine lv_iinc (v := iI 4) (lv' := [(6, .int (iI 4)), (4, .long (lI ((x2 * y1)))), (3, .int (iI 4)), (2, .int (iI 1)), (1, .int (iI 2)), (0, .ref o)]) hC.1 hC.2.1 d_Mo_conjugate_97 hl (k := 0) rfl (z_inc (by omega)) (by decide) rfl (fun ls hl => ?_)
  refine z_goto (tgt := 79) hC d_Mo_conjugate_100 (by decide) ?_
  refine lv_iload hC.1 hC.2.1 d_Mo_conjugate_79 (lv_at hl 0 rfl) ?_
  refine z_iconst hC d_Mo_conjugate_81 ?_
  refine z_icmp_ge (tgt := 103) hC d_Mo_conjugate_82 (by decide) (by decide) (by decide) (fun _ => ?_) (fun h => absurd h (by decide))
  refine lv_iinc (v := iI 2) (lv' := [(2, .int (iI 2)), (6, .int (iI 4)), (4, .long (lI ((x2 * y1)))), (3, .int (iI 4)), (1, .int (iI 2)), (0, .ref o)]) hC.1 hC.2.1 d_Mo_conjugate_103 hl (k := 3) rfl (z_inc (by omega)) (by decide) rfl (fun ls hl => ?_)
  refine z_goto (tgt := 29) hC d_Mo_conjugate_106 (by decide) ?_
  refine lv_iload_n hC.1 hC.2.1 d_Mo_conjugate_29 rfl (lv_at hl 0 rfl) ?_
  refine z_iconst hC d_Mo_conjugate_30 ?_
  refine z_icmp_ge (tgt := 109) hC d_Mo_conjugate_31 (by decide) (by decide) (by decide) (fun h => absurd h (by decide)) (fun _ => ?_)
  refine lv_iload_n hC.1 hC.2.1 d_Mo_conjugate_34 rfl (lv_at hl 0 rfl) ?_
  refine lv_iload_n hC.1 hC.2.1 d_Mo_conjugate_35 rfl (lv_at hl 4 rfl) ?_
  refine z_isub hC d_Mo_conjugate_36 ?_
  refine z_topi (z := 0) (by omega) ?_
  refine z_iconst hC d_Mo_conjugate_37 ?_
  refine z_iadd hC d_Mo_conjugate_38 ?_
  refine z_topi (z := 5) (by omega) ?_
  refine z_iconst hC d_Mo_conjugate_39 ?_
  refine z_irem hC d_Mo_conjugate_40 (by omega) (by omega) ?_
  refine z_topi (z := 0) (by decide) ?_
  refine lv_istore_n (lv' := [(3, .int (iI 0)), (2, .int (iI 2)), (6, .int (iI 4)), (4, .long (lI ((x2 * y1)))), (1, .int (iI 2)), (0, .ref o)]) hC.1 hC.2.1 d_Mo_conjugate_41 rfl hl (by decide) rfl (fun ls hl => ?_)
  refine lv_aload_n hC.1 hC.2.1 d_Mo_conjugate_42 rfl (lv_at hl 5 rfl) ?_
  refine z_get (ci := 5) (C := R_Mo) (T := F_Mo) (N := 21) (v := .ref qu) hC in_Mo hK hP 0 rfl rfl 8 (by decide) k_461 rfl d_Mo_conjugate_43 ?_
  refine lv_iload_n hC.1 hC.2.1 d_Mo_conjugate_46 rfl (lv_at hl 4 rfl) ?_
  refine z_lald hC hK hP 1 rfl (by decide) d_Mo_conjugate_47 ?_
  refine z_topl (z := x2) rfl ?_
  refine lv_aload_n hC.1 hC.2.1 d_Mo_conjugate_48 rfl (lv_at hl 5 rfl) ?_
  refine z_get (ci := 5) (C := R_Mo) (T := F_Mo) (N := 21) (v := .ref qv) hC in_Mo hK hP 0 rfl rfl 9 (by decide) k_462 rfl d_Mo_conjugate_49 ?_
  refine lv_iload_n hC.1 hC.2.1 d_Mo_conjugate_52 rfl (lv_at hl 1 rfl) ?_
  refine z_lald hC hK hP 2 rfl (by decide) d_Mo_conjugate_53 ?_
  refine z_topl (z := y2) rfl ?_
  refine z_lmul hC d_Mo_conjugate_54 ?_
  refine lv_lstore (lv' := [(4, .long (lI ((x2 * y2)))), (3, .int (iI 0)), (2, .int (iI 2)), (6, .int (iI 4)), (1, .int (iI 2)), (0, .ref o)]) hC.1 hC.2.1 d_Mo_conjugate_55 hl (by decide) rfl (fun ls hl => ?_)
  refine lv_iload_n hC.1 hC.2.1 d_Mo_conjugate_57 rfl (lv_at hl 1 rfl) ?_
  refine z_iconst hC d_Mo_conjugate_58 ?_
  refine z_icmp_ge (tgt := 76) hC d_Mo_conjugate_59 (by decide) (by decide) (by decide) (fun h => absurd h (by decide)) (fun _ => ?_)
  refine lv_aload_n hC.1 hC.2.1 d_Mo_conjugate_62 rfl (lv_at hl 5 rfl) ?_
  refine z_get (ci := 5) (C := R_Mo) (T := F_Mo) (N := 21) (v := .ref qc) hC in_Mo hK hP 0 rfl rfl 14 (by decide) k_467 rfl d_Mo_conjugate_63 ?_
  refine lv_iload_n hC.1 hC.2.1 d_Mo_conjugate_66 rfl (lv_at hl 1 rfl) ?_
  refine lv_dup2_11 hC.1 hC.2.1 d_Mo_conjugate_67 rfl rfl ?_
  refine z_lald hC hK hP 3 rfl (by decide) d_Mo_conjugate_68 ?_
  refine z_topl (z := (x0 * y0) - (x1 * y0) + (x1 * y1) - (x2 * y1)) rfl ?_
  refine lv_lload hC.1 hC.2.1 d_Mo_conjugate_69 (lv_at hl 0 rfl) ?_
  refine z_ladd hC d_Mo_conjugate_71 ?_
  refine z_topl (z := (x0 * y0) - (x1 * y0) + (x1 * y1) - (x2 * y1) + (x2 * y2)) (by omega) ?_
  refine z_last (ws' := [(o, .inr (5, [.int (iI cd), .int (iI z), .int (iI lv), .ref qT, .ref qC, .ref qF, .ref qY, .ref qZ, .ref qu, .ref qv, .ref qw, .ref qg, .ref qh, .ref qx, .ref qc, .ref qa, .ref qb, .ref qd, .int (iI fm), .ref qp, .ref qq])), (qu, eL t.2.1 4 (v4 x0 x1 x2 x3)), (qv, eL t.2.1 4 (v4 y0 y1 y2 y3)), (qc, eL t.2.1 4 (uZ (v4 ((x0 * y0) - (x1 * y0) + (x1 * y1) - (x2 * y1)) ((x0 * y1) - (x1 * y0) + (x1 * y2) - (x2 * y1)) ((x0 * y2) - (x1 * y0) + (x1 * y3) - (x2 * y1)) ((x0 * y3) - (x1 * y0) + (x2 * y0) - (x2 * y1))) 0 ((x0 * y0) - (x1 * y0) + (x1 * y1) - (x2 * y1) + (x2 * y2))))]) hC hK hP hD hS 3 rfl (by decide) rfl d_Mo_conjugate_72 (fun H locs hP hD hS => ?_)
  rw [v4_u0] at hP hD
  refine z_goto (tgt := 103) hC d_Mo_conjugate_73 (by decide) ?_
  refine lv_iinc (v := iI 3) (lv' := [(2, .int (iI 3)), (4, .long (lI ((x2 * y2)))), (3, .int (iI 0)), (6, .int (iI 4)), (1, .int (iI 2)), (0, .ref o)]) hC.1 hC.2.1 d_Mo_conjugate_103 hl (k := 2) rfl (z_inc (by omega)) (by decide) rfl (fun ls hl => ?_)
  refine z_goto (tgt := 29) hC d_Mo_conjugate_106 (by decide) ?_
  refine lv_iload_n hC.1 hC.2.1 d_Mo_conjugate_29 rfl (lv_at hl 0 rfl) ?_
  refine z_iconst hC d_Mo_conjugate_30 ?_
  refine z_icmp_ge (tgt := 109) hC d_Mo_conjugate_31 (by decide) (by decide) (by decide) (fun h => absurd h (by decide)) (fun _ => ?_)
  refine lv_iload_n hC.1 hC.2.1 d_Mo_conjugate_34 rfl (lv_at hl 0 rfl) ?_
  refine lv_iload_n hC.1 hC.2.1 d_Mo_conjugate_35 rfl (lv_at hl 4 rfl) ?_
  refine z_isub hC d_Mo_conjugate_36 ?_
  refine z_topi (z := 1) (by omega) ?_
  refine z_iconst hC d_Mo_conjugate_37 ?_
  refine z_iadd hC d_Mo_conjugate_38 ?_
  refine z_topi (z := 6) (by omega) ?_
  refine z_iconst hC d_Mo_conjugate_39 ?_
  refine z_irem hC d_Mo_conjugate_40 (by omega) (by omega) ?_
  refine z_topi (z := 1) (by decide) ?_
  refine lv_istore_n (lv' := [(3, .int (iI 1)), (2, .int (iI 3)), (4, .long (lI ((x2 * y2)))), (6, .int (iI 4)), (1, .int (iI 2)), (0, .ref o)]) hC.1 hC.2.1 d_Mo_conjugate_41 rfl hl (by decide) rfl (fun ls hl => ?_)
  refine lv_aload_n hC.1 hC.2.1 d_Mo_conjugate_42 rfl (lv_at hl 5 rfl) ?_
  refine z_get (ci := 5) (C := R_Mo) (T := F_Mo) (N := 21) (v := .ref qu) hC in_Mo hK hP 0 rfl rfl 8 (by decide) k_461 rfl d_Mo_conjugate_43 ?_
  refine lv_iload_n hC.1 hC.2.1 d_Mo_conjugate_46 rfl (lv_at hl 4 rfl) ?_
  refine z_lald hC hK hP 1 rfl (by decide) d_Mo_conjugate_47 ?_
  refine z_topl (z := x2) rfl ?_
  refine lv_aload_n hC.1 hC.2.1 d_Mo_conjugate_48 rfl (lv_at hl 5 rfl) ?_
  refine z_get (ci := 5) (C := R_Mo) (T := F_Mo) (N := 21) (v := .ref qv) hC in_Mo hK hP 0 rfl rfl 9 (by decide) k_462 rfl d_Mo_conjugate_49 ?_
  refine lv_iload_n hC.1 hC.2.1 d_Mo_conjugate_52 rfl (lv_at hl 1 rfl) ?_
  refine z_lald hC hK hP 2 rfl (by decide) d_Mo_conjugate_53 ?_
  refine z_topl (z := y3) rfl ?_
  refine z_lmul hC d_Mo_conjugate_54 ?_
  refine lv_lstore (lv' := [(4, .long (lI ((x2 * y3)))), (3, .int (iI 1)), (2, .int (iI 3)), (6, .int (iI 4)), (1, .int (iI 2)), (0, .ref o)]) hC.1 hC.2.1 d_Mo_conjugate_55 hl (by decide) rfl (fun ls hl => ?_)
  refine lv_iload_n hC.1 hC.2.1 d_Mo_conjugate_57 rfl (lv_at hl 1 rfl) ?_
  refine z_iconst hC d_Mo_conjugate_58 ?_
  refine z_icmp_ge (tgt := 76) hC d_Mo_conjugate_59 (by decide) (by decide) (by decide) (fun h => absurd h (by decide)) (fun _ => ?_)
  refine lv_aload_n hC.1 hC.2.1 d_Mo_conjugate_62 rfl (lv_at hl 5 rfl) ?_
  refine z_get (ci := 5) (C := R_Mo) (T := F_Mo) (N := 21) (v := .ref qc) hC in_Mo hK hP 0 rfl rfl 14 (by decide) k_467 rfl d_Mo_conjugate_63 ?_
  refine lv_iload_n hC.1 hC.2.1 d_Mo_conjugate_66 rfl (lv_at hl 1 rfl) ?_
  refine lv_dup2_11 hC.1 hC.2.1 d_Mo_conjugate_67 rfl rfl ?_
  refine z_lald hC hK hP 3 rfl (by decide) d_Mo_conjugate_68 ?_
  refine z_topl (z := (x0 * y1) - (x1 * y0) + (x1 * y2) - (x2 * y1)) rfl ?_
  refine lv_lload hC.1 hC.2.1 d_Mo_conjugate_69 (lv_at hl 0 rfl) ?_
  refine z_ladd hC d_Mo_conjugate_71 ?_
  refine z_topl (z := (x0 * y1) - (x1 * y0) + (x1 * y2) - (x2 * y1) + (x2 * y3)) (by omega) ?_
  refine z_last (ws' := [(o, .inr (5, [.int (iI cd), .int (iI z), .int (iI lv), .ref qT, .ref qC, .ref qF, .ref qY, .ref qZ, .ref qu, .ref qv, .ref qw, .ref qg, .ref qh, .ref qx, .ref qc, .ref qa, .ref qb, .ref qd, .int (iI fm), .ref qp, .ref qq])), (qu, eL t.2.1 4 (v4 x0 x1 x2 x3)), (qv, eL t.2.1 4 (v4 y0 y1 y2 y3)), (qc, eL t.2.1 4 (uZ (v4 ((x0 * y0) - (x1 * y0) + (x1 * y1) - (x2 * y1) + (x2 * y2)) ((x0 * y1) - (x1 * y0) + (x1 * y2) - (x2 * y1)) ((x0 * y2) - (x1 * y0) + (x1 * y3) - (x2 * y1)) ((x0 * y3) - (x1 * y0) + (x2 * y0) - (x2 * y1))) 1 ((x0 * y1) - (x1 * y0) + (x1 * y2) - (x2 * y1) + (x2 * y3))))]) hC hK hP hD hS 3 rfl (by decide) rfl d_Mo_conjugate_72 (fun H locs hP hD hS => ?_)
  rw [v4_u1] at hP hD
  refine z_goto (tgt := 103) hC d_Mo_conjugate_73 (by decide) ?_
  refine lv_iinc (v := iI 4) (lv' := [(2, .int (iI 4)), (4, .long (lI ((x2 * y3)))), (3, .int (iI 1)), (6, .int (iI 4)), (1, .int (iI 2)), (0, .ref o)]) hC.1 hC.2.1 d_Mo_conjugate_103 hl (k := 2) rfl (z_inc (by omega)) (by decide) rfl (fun ls hl => ?_)
  refine z_goto (tgt := 29) hC d_Mo_conjugate_106 (by decide) ?_
  refine lv_iload_n hC.1 hC.2.1 d_Mo_conjugate_29 rfl (lv_at hl 0 rfl) ?_
  refine z_iconst hC d_Mo_conjugate_30 ?_
  refine z_icmp_ge (tgt := 109) hC d_Mo_conjugate_31 (by decide) (by decide) (by decide) (fun _ => ?_) (fun h => absurd h (by decide))
  refine lv_iinc (v := iI 3) (lv' := [(1, .int (iI 3)), (2, .int (iI 4)), (4, .long (lI ((x2 * y3)))), (3, .int (iI 1)), (6, .int (iI 4)), (0, .ref o)]) hC.1 hC.2.1 d_Mo_conjugate_109 hl (k := 4) rfl (z_inc (by omega)) (by decide) rfl (fun ls hl => ?_)
  refine z_goto (tgt := 22) hC d_Mo_conjugate_112 (by decide) ?_
  refine lv_iload_n hC.1 hC.2.1 d_Mo_conjugate_22 rfl (lv_at hl 0 rfl) ?_
  refine z_iconst hC d_Mo_conjugate_23 ?_
  refine z_icmp_ge (tgt := 115) hC d_Mo_conjugate_24 (by decide) (by decide) (by decide) (fun h => absurd h (by decide)) (fun _ => ?_)
  refine z_iconst hC d_Mo_conjugate_27 ?_
  refine lv_istore_n (lv' := [(2, .int (iI 0)), (1, .int (iI 3)), (4, .long (lI ((x2 * y3)))), (3, .int (iI 1)), (6, .int (iI 4)), (0, .ref o)]) hC.1 hC.2.1 d_Mo_conjugate_28 rfl hl (by decide) rfl (fun ls hl => ?_)
  refine lv_iload_n hC.1 hC.2.1 d_Mo_conjugate_29 rfl (lv_at hl 0 rfl) ?_
  refine z_iconst hC d_Mo_conjugate_30 ?_
  refine z_icmp_ge (tgt := 109) hC d_Mo_conjugate_31 (by decide) (by decide) (by decide) (fun h => absurd h (by decide)) (fun _ => ?_)
  refine lv_iload_n hC.1 hC.2.1 d_Mo_conjugate_34 rfl (lv_at hl 0 rfl) ?_
  refine lv_iload_n hC.1 hC.2.1 d_Mo_conjugate_35 rfl (lv_at hl 1 rfl) ?_
  refine z_isub hC d_Mo_conjugate_36 ?_
  refine z_topi (z := -3) (by omega) ?_
  refine z_iconst hC d_Mo_conjugate_37 ?_
  refine z_iadd hC d_Mo_conjugate_38 ?_
  refine z_topi (z := 2) (by omega) ?_
  refine z_iconst hC d_Mo_conjugate_39 ?_
  refine z_irem hC d_Mo_conjugate_40 (by omega) (by omega) ?_
  refine z_topi (z := 2) (by decide) ?_
  refine lv_istore_n (lv' := [(3, .int (iI 2)), (2, .int (iI 0)), (1, .int (iI 3)), (4, .long (lI ((x2 * y3)))), (6, .int (iI 4)), (0, .ref o)]) hC.1 hC.2.1 d_Mo_conjugate_41 rfl hl (by decide) rfl (fun ls hl => ?_)
  refine lv_aload_n hC.1 hC.2.1 d_Mo_conjugate_42 rfl (lv_at hl 5 rfl) ?_
  refine z_get (ci := 5) (C := R_Mo) (T := F_Mo) (N := 21) (v := .ref qu) hC in_Mo hK hP 0 rfl rfl 8 (by decide) k_461 rfl d_Mo_conjugate_43 ?_
  refine lv_iload_n hC.1 hC.2.1 d_Mo_conjugate_46 rfl (lv_at hl 2 rfl) ?_
  refine z_lald hC hK hP 1 rfl (by decide) d_Mo_conjugate_47 ?_
  refine z_topl (z := x3) rfl ?_
  refine lv_aload_n hC.1 hC.2.1 d_Mo_conjugate_48 rfl (lv_at hl 5 rfl) ?_
  refine z_get (ci := 5) (C := R_Mo) (T := F_Mo) (N := 21) (v := .ref qv) hC in_Mo hK hP 0 rfl rfl 9 (by decide) k_462 rfl d_Mo_conjugate_49 ?_
  refine lv_iload_n hC.1 hC.2.1 d_Mo_conjugate_52 rfl (lv_at hl 1 rfl) ?_
  refine z_lald hC hK hP 2 rfl (by decide) d_Mo_conjugate_53 ?_
  refine z_topl (z := y0) rfl ?_
  refine z_lmul hC d_Mo_conjugate_54 ?_
  refine lv_lstore (lv' := [(4, .long (lI ((x3 * y0)))), (3, .int (iI 2)), (2, .int (iI 0)), (1, .int (iI 3)), (6, .int (iI 4)), (0, .ref o)]) hC.1 hC.2.1 d_Mo_conjugate_55 hl (by decide) rfl (fun ls hl => ?_)
  refine lv_iload_n hC.1 hC.2.1 d_Mo_conjugate_57 rfl (lv_at hl 1 rfl) ?_
  refine z_iconst hC d_Mo_conjugate_58 ?_
  refine z_icmp_ge (tgt := 76) hC d_Mo_conjugate_59 (by decide) (by decide) (by decide) (fun h => absurd h (by decide)) (fun _ => ?_)
  refine lv_aload_n hC.1 hC.2.1 d_Mo_conjugate_62 rfl (lv_at hl 5 rfl) ?_
  refine z_get (ci := 5) (C := R_Mo) (T := F_Mo) (N := 21) (v := .ref qc) hC in_Mo hK hP 0 rfl rfl 14 (by decide) k_467 rfl d_Mo_conjugate_63 ?_
  refine lv_iload_n hC.1 hC.2.1 d_Mo_conjugate_66 rfl (lv_at hl 1 rfl) ?_
  refine lv_dup2_11 hC.1 hC.2.1 d_Mo_conjugate_67 rfl rfl ?_
  refine z_lald hC hK hP 3 rfl (by decide) d_Mo_conjugate_68 ?_
  refine z_topl (z := (x0 * y2) - (x1 * y0) + (x1 * y3) - (x2 * y1)) rfl ?_
  refine lv_lload hC.1 hC.2.1 d_Mo_conjugate_69 (lv_at hl 0 rfl) ?_
  refine z_ladd hC d_Mo_conjugate_71 ?_
  refine z_topl (z := (x0 * y2) - (x1 * y0) + (x1 * y3) - (x2 * y1) + (x3 * y0)) (by omega) ?_
  refine z_last (ws' := [(o, .inr (5, [.int (iI cd), .int (iI z), .int (iI lv), .ref qT, .ref qC, .ref qF, .ref qY, .ref qZ, .ref qu, .ref qv, .ref qw, .ref qg, .ref qh, .ref qx, .ref qc, .ref qa, .ref qb, .ref qd, .int (iI fm), .ref qp, .ref qq])), (qu, eL t.2.1 4 (v4 x0 x1 x2 x3)), (qv, eL t.2.1 4 (v4 y0 y1 y2 y3)), (qc, eL t.2.1 4 (uZ (v4 ((x0 * y0) - (x1 * y0) + (x1 * y1) - (x2 * y1) + (x2 * y2)) ((x0 * y1) - (x1 * y0) + (x1 * y2) - (x2 * y1) + (x2 * y3)) ((x0 * y2) - (x1 * y0) + (x1 * y3) - (x2 * y1)) ((x0 * y3) - (x1 * y0) + (x2 * y0) - (x2 * y1))) 2 ((x0 * y2) - (x1 * y0) + (x1 * y3) - (x2 * y1) + (x3 * y0))))]) hC hK hP hD hS 3 rfl (by decide) rfl d_Mo_conjugate_72 (fun H locs hP hD hS => ?_)
  rw [v4_u2] at hP hD
  refine z_goto (tgt := 103) hC d_Mo_conjugate_73 (by decide) ?_
  refine lv_iinc (v := iI 1) (lv' := [(2, .int (iI 1)), (4, .long (lI ((x3 * y0)))), (3, .int (iI 2)), (1, .int (iI 3)), (6, .int (iI 4)), (0, .ref o)]) hC.1 hC.2.1 d_Mo_conjugate_103 hl (k := 2) rfl (z_inc (by omega)) (by decide) rfl (fun ls hl => ?_)
  refine z_goto (tgt := 29) hC d_Mo_conjugate_106 (by decide) ?_
  refine lv_iload_n hC.1 hC.2.1 d_Mo_conjugate_29 rfl (lv_at hl 0 rfl) ?_
  refine z_iconst hC d_Mo_conjugate_30 ?_
  refine z_icmp_ge (tgt := 109) hC d_Mo_conjugate_31 (by decide) (by decide) (by decide) (fun h => absurd h (by decide)) (fun _ => ?_)
  refine lv_iload_n hC.1 hC.2.1 d_Mo_conjugate_34 rfl (lv_at hl 0 rfl) ?_
  refine lv_iload_n hC.1 hC.2.1 d_Mo_conjugate_35 rfl (lv_at hl 3 rfl) ?_
  refine z_isub hC d_Mo_conjugate_36 ?_
  refine z_topi (z := -2) (by omega) ?_
  refine z_iconst hC d_Mo_conjugate_37 ?_
  refine z_iadd hC d_Mo_conjugate_38 ?_
  refine z_topi (z := 3) (by omega) ?_
  refine z_iconst hC d_Mo_conjugate_39 ?_
  refine z_irem hC d_Mo_conjugate_40 (by omega) (by omega) ?_
  refine z_topi (z := 3) (by decide) ?_
  refine lv_istore_n (lv' := [(3, .int (iI 3)), (2, .int (iI 1)), (4, .long (lI ((x3 * y0)))), (1, .int (iI 3)), (6, .int (iI 4)), (0, .ref o)]) hC.1 hC.2.1 d_Mo_conjugate_41 rfl hl (by decide) rfl (fun ls hl => ?_)
  refine lv_aload_n hC.1 hC.2.1 d_Mo_conjugate_42 rfl (lv_at hl 5 rfl) ?_
  refine z_get (ci := 5) (C := R_Mo) (T := F_Mo) (N := 21) (v := .ref qu) hC in_Mo hK hP 0 rfl rfl 8 (by decide) k_461 rfl d_Mo_conjugate_43 ?_
  refine lv_iload_n hC.1 hC.2.1 d_Mo_conjugate_46 rfl (lv_at hl 3 rfl) ?_
  refine z_lald hC hK hP 1 rfl (by decide) d_Mo_conjugate_47 ?_
  refine z_topl (z := x3) rfl ?_
  refine lv_aload_n hC.1 hC.2.1 d_Mo_conjugate_48 rfl (lv_at hl 5 rfl) ?_
  refine z_get (ci := 5) (C := R_Mo) (T := F_Mo) (N := 21) (v := .ref qv) hC in_Mo hK hP 0 rfl rfl 9 (by decide) k_462 rfl d_Mo_conjugate_49 ?_
  refine lv_iload_n hC.1 hC.2.1 d_Mo_conjugate_52 rfl (lv_at hl 1 rfl) ?_
  refine z_lald hC hK hP 2 rfl (by decide) d_Mo_conjugate_53 ?_
  refine z_topl (z := y1) rfl ?_
  refine z_lmul hC d_Mo_conjugate_54 ?_
  refine lv_lstore (lv' := [(4, .long (lI ((x3 * y1)))), (3, .int (iI 3)), (2, .int (iI 1)), (1, .int (iI 3)), (6, .int (iI 4)), (0, .ref o)]) hC.1 hC.2.1 d_Mo_conjugate_55 hl (by decide) rfl (fun ls hl => ?_)
  refine lv_iload_n hC.1 hC.2.1 d_Mo_conjugate_57 rfl (lv_at hl 1 rfl) ?_
  refine z_iconst hC d_Mo_conjugate_58 ?_
  refine z_icmp_ge (tgt := 76) hC d_Mo_conjugate_59 (by decide) (by decide) (by decide) (fun h => absurd h (by decide)) (fun _ => ?_)
  refine lv_aload_n hC.1 hC.2.1 d_Mo_conjugate_62 rfl (lv_at hl 5 rfl) ?_
  refine z_get (ci := 5) (C := R_Mo) (T := F_Mo) (N := 21) (v := .ref qc) hC in_Mo hK hP 0 rfl rfl 14 (by decide) k_467 rfl d_Mo_conjugate_63 ?_
  refine lv_iload_n hC.1 hC.2.1 d_Mo_conjugate_66 rfl (lv_at hl 1 rfl) ?_
  refine lv_dup2_11 hC.1 hC.2.1 d_Mo_conjugate_67 rfl rfl ?_
  refine z_lald hC hK hP 3 rfl (by decide) d_Mo_conjugate_68 ?_
  refine z_topl (z := (x0 * y3) - (x1 * y0) + (x2 * y0) - (x2 * y1)) rfl ?_
  refine lv_lload hC.1 hC.2.1 d_Mo_conjugate_69 (lv_at hl 0 rfl) ?_
  refine z_ladd hC d_Mo_conjugate_71 ?_
  refine z_topl (z := (x0 * y3) - (x1 * y0) + (x2 * y0) - (x2 * y1) + (x3 * y1)) (by omega) ?_
  refine z_last (ws' := [(o, .inr (5, [.int (iI cd), .int (iI z), .int (iI lv), .ref qT, .ref qC, .ref qF, .ref qY, .ref qZ, .ref qu, .ref qv, .ref qw, .ref qg, .ref qh, .ref qx, .ref qc, .ref qa, .ref qb, .ref qd, .int (iI fm), .ref qp, .ref qq])), (qu, eL t.2.1 4 (v4 x0 x1 x2 x3)), (qv, eL t.2.1 4 (v4 y0 y1 y2 y3)), (qc, eL t.2.1 4 (uZ (v4 ((x0 * y0) - (x1 * y0) + (x1 * y1) - (x2 * y1) + (x2 * y2)) ((x0 * y1) - (x1 * y0) + (x1 * y2) - (x2 * y1) + (x2 * y3)) ((x0 * y2) - (x1 * y0) + (x1 * y3) - (x2 * y1) + (x3 * y0)) ((x0 * y3) - (x1 * y0) + (x2 * y0) - (x2 * y1))) 3 ((x0 * y3) - (x1 * y0) + (x2 * y0) - (x2 * y1) + (x3 * y1))))]) hC hK hP hD hS 3 rfl (by decide) rfl d_Mo_conjugate_72 (fun H locs hP hD hS => ?_)
  rw [v4_u3] at hP hD
  refine z_goto (tgt := 103) hC d_Mo_conjugate_73 (by decide) ?_
  refine lv_iinc (v := iI 2) (lv' := [(2, .int (iI 2)), (4, .long (lI ((x3 * y1)))), (3, .int (iI 3)), (1, .int (iI 3)), (6, .int (iI 4)), (0, .ref o)]) hC.1 hC.2.1 d_Mo_conjugate_103 hl (k := 2) rfl (z_inc (by omega)) (by decide) rfl (fun ls hl => ?_)
  refine z_goto (tgt := 29) hC d_Mo_conjugate_106 (by decide) ?_
  refine lv_iload_n hC.1 hC.2.1 d_Mo_conjugate_29 rfl (lv_at hl 0 rfl) ?_
  refine z_iconst hC d_Mo_conjugate_30 ?_
  refine z_icmp_ge (tgt := 109) hC d_Mo_conjugate_31 (by decide) (by decide) (by decide) (fun h => absurd h (by decide)) (fun _ => ?_)
  refine lv_iload_n hC.1 hC.2.1 d_Mo_conjugate_34 rfl (lv_at hl 0 rfl) ?_
  refine lv_iload_n hC.1 hC.2.1 d_Mo_conjugate_35 rfl (lv_at hl 3 rfl) ?_
  refine z_isub hC d_Mo_conjugate_36 ?_
  refine z_topi (z := -1) (by omega) ?_
  refine z_iconst hC d_Mo_conjugate_37 ?_
  refine z_iadd hC d_Mo_conjugate_38 ?_
  refine z_topi (z := 4) (by omega) ?_
  refine z_iconst hC d_Mo_conjugate_39 ?_
  refine z_irem hC d_Mo_conjugate_40 (by omega) (by omega) ?_
  refine z_topi (z := 4) (by decide) ?_
  refine lv_istore_n (lv' := [(3, .int (iI 4)), (2, .int (iI 2)), (4, .long (lI ((x3 * y1)))), (1, .int (iI 3)), (6, .int (iI 4)), (0, .ref o)]) hC.1 hC.2.1 d_Mo_conjugate_41 rfl hl (by decide) rfl (fun ls hl => ?_)
  refine lv_aload_n hC.1 hC.2.1 d_Mo_conjugate_42 rfl (lv_at hl 5 rfl) ?_
  refine z_get (ci := 5) (C := R_Mo) (T := F_Mo) (N := 21) (v := .ref qu) hC in_Mo hK hP 0 rfl rfl 8 (by decide) k_461 rfl d_Mo_conjugate_43 ?_
  refine lv_iload_n hC.1 hC.2.1 d_Mo_conjugate_46 rfl (lv_at hl 3 rfl) ?_
  refine z_lald hC hK hP 1 rfl (by decide) d_Mo_conjugate_47 ?_
  refine z_topl (z := x3) rfl ?_
  refine lv_aload_n hC.1 hC.2.1 d_Mo_conjugate_48 rfl (lv_at hl 5 rfl) ?_
  refine z_get (ci := 5) (C := R_Mo) (T := F_Mo) (N := 21) (v := .ref qv) hC in_Mo hK hP 0 rfl rfl 9 (by decide) k_462 rfl d_Mo_conjugate_49 ?_
  refine lv_iload_n hC.1 hC.2.1 d_Mo_conjugate_52 rfl (lv_at hl 1 rfl) ?_
  refine z_lald hC hK hP 2 rfl (by decide) d_Mo_conjugate_53 ?_
  refine z_topl (z := y2) rfl ?_
  refine z_lmul hC d_Mo_conjugate_54 ?_
  refine lv_lstore (lv' := [(4, .long (lI ((x3 * y2)))), (3, .int (iI 4)), (2, .int (iI 2)), (1, .int (iI 3)), (6, .int (iI 4)), (0, .ref o)]) hC.1 hC.2.1 d_Mo_conjugate_55 hl (by decide) rfl (fun ls hl => ?_)
  refine lv_iload_n hC.1 hC.2.1 d_Mo_conjugate_57 rfl (lv_at hl 1 rfl) ?_
  refine z_iconst hC d_Mo_conjugate_58 ?_
  refine z_icmp_ge (tgt := 76) hC d_Mo_conjugate_59 (by decide) (by decide) (by decide) (fun _ => ?_) (fun h => absurd h (by decide))
  refine z_iconst hC d_Mo_conjugate_76 ?_
  refine lv_istore (lv' := [(6, .int (iI 0)), (4, .long (lI ((x3 * y2)))), (3, .int (iI 4)), (2, .int (iI 2)), (1, .int (iI 3)), (0, .ref o)]) hC.1 hC.2.1 d_Mo_conjugate_77 hl (by decide) rfl (fun ls hl => ?_)
  refine lv_iload hC.1 hC.2.1 d_Mo_conjugate_79 (lv_at hl 0 rfl) ?_
  refine z_iconst hC d_Mo_conjugate_81 ?_
  refine z_icmp_ge (tgt := 103) hC d_Mo_conjugate_82 (by decide) (by decide) (by decide) (fun h => absurd h (by decide)) (fun _ => ?_)
  refine lv_aload_n hC.1 hC.2.1 d_Mo_conjugate_85 rfl (lv_at hl 5 rfl) ?_
  refine z_get (ci := 5) (C := R_Mo) (T := F_Mo) (N := 21) (v := .ref qc) hC in_Mo hK hP 0 rfl rfl 14 (by decide) k_467 rfl d_Mo_conjugate_86 ?_
  refine lv_iload hC.1 hC.2.1 d_Mo_conjugate_89 (lv_at hl 0 rfl) ?_
  refine lv_dup2_11 hC.1 hC.2.1 d_Mo_conjugate_91 rfl rfl ?_
  refine z_lald hC hK hP 3 rfl (by decide) d_Mo_conjugate_92 ?_
  refine z_topl (z := (x0 * y0) - (x1 * y0) + (x1 * y1) - (x2 * y1) + (x2 * y2)) rfl ?_
  refine lv_lload hC.1 hC.2.1 d_Mo_conjugate_93 (lv_at hl 1 rfl) ?_
  refine z_lsub hC d_Mo_conjugate_95 ?_
  refine z_topl (z := (x0 * y0) - (x1 * y0) + (x1 * y1) - (x2 * y1) + (x2 * y2) - (x3 * y2)) (by omega) ?_
  refine z_last (ws' := [(o, .inr (5, [.int (iI cd), .int (iI z), .int (iI lv), .ref qT, .ref qC, .ref qF, .ref qY, .ref qZ, .ref qu, .ref qv, .ref qw, .ref qg, .ref qh, .ref qx, .ref qc, .ref qa, .ref qb, .ref qd, .int (iI fm), .ref qp, .ref qq])), (qu, eL t.2.1 4 (v4 x0 x1 x2 x3)), (qv, eL t.2.1 4 (v4 y0 y1 y2 y3)), (qc, eL t.2.1 4 (uZ (v4 ((x0 * y0) - (x1 * y0) + (x1 * y1) - (x2 * y1) + (x2 * y2)) ((x0 * y1) - (x1 * y0) + (x1 * y2) - (x2 * y1) + (x2 * y3)) ((x0 * y2) - (x1 * y0) + (x1 * y3) - (x2 * y1) + (x3 * y0)) ((x0 * y3) - (x1 * y0) + (x2 * y0) - (x2 * y1) + (x3 * y1))) 0 ((x0 * y0) - (x1 * y0) + (x1 * y1) - (x2 * y1) + (x2 * y2) - (x3 * y2))))]) hC hK hP hD hS 3 rfl (by decide) rfl d_Mo_conjugate_96 (fun H locs hP hD hS => ?_)
  rw [v4_u0] at hP hD
  refine lv_iinc (v := iI 1) (lv' := [(6, .int (iI 1)), (4, .long (lI ((x3 * y2)))), (3, .int (iI 4)), (2, .int (iI 2)), (1, .int (iI 3)), (0, .ref o)]) hC.1 hC.2.1 d_Mo_conjugate_97 hl (k := 0) rfl (z_inc (by omega)) (by decide) rfl (fun ls hl => ?_)
  refine z_goto (tgt := 79) hC d_Mo_conjugate_100 (by decide) ?_
  refine lv_iload hC.1 hC.2.1 d_Mo_conjugate_79 (lv_at hl 0 rfl) ?_
  refine z_iconst hC d_Mo_conjugate_81 ?_
  refine z_icmp_ge (tgt := 103) hC d_Mo_conjugate_82 (by decide) (by decide) (by decide) (fun h => absurd h (by decide)) (fun _ => ?_)
  refine lv_aload_n hC.1 hC.2.1 d_Mo_conjugate_85 rfl (lv_at hl 5 rfl) ?_
  refine z_get (ci := 5) (C := R_Mo) (T := F_Mo) (N := 21) (v := .ref qc) hC in_Mo hK hP 0 rfl rfl 14 (by decide) k_467 rfl d_Mo_conjugate_86 ?_
  refine lv_iload hC.1 hC.2.1 d_Mo_conjugate_89 (lv_at hl 0 rfl) ?_
  refine lv_dup2_11 hC.1 hC.2.1 d_Mo_conjugate_91 rfl rfl ?_
  refine z_lald hC hK hP 3 rfl (by decide) d_Mo_conjugate_92 ?_
  refine z_topl (z := (x0 * y1) - (x1 * y0) + (x1 * y2) - (x2 * y1) + (x2 * y3)) rfl ?_
  refine lv_lload hC.1 hC.2.1 d_Mo_conjugate_93 (lv_at hl 1 rfl) ?_
  refine z_lsub hC d_Mo_conjugate_95 ?_
  refine z_topl (z := (x0 * y1) - (x1 * y0) + (x1 * y2) - (x2 * y1) + (x2 * y3) - (x3 * y2)) (by omega) ?_
  refine z_last (ws' := [(o, .inr (5, [.int (iI cd), .int (iI z), .int (iI lv), .ref qT, .ref qC, .ref qF, .ref qY, .ref qZ, .ref qu, .ref qv, .ref qw, .ref qg, .ref qh, .ref qx, .ref qc, .ref qa, .ref qb, .ref qd, .int (iI fm), .ref qp, .ref qq])), (qu, eL t.2.1 4 (v4 x0 x1 x2 x3)), (qv, eL t.2.1 4 (v4 y0 y1 y2 y3)), (qc, eL t.2.1 4 (uZ (v4 ((x0 * y0) - (x1 * y0) + (x1 * y1) - (x2 * y1) + (x2 * y2) - (x3 * y2)) ((x0 * y1) - (x1 * y0) + (x1 * y2) - (x2 * y1) + (x2 * y3)) ((x0 * y2) - (x1 * y0) + (x1 * y3) - (x2 * y1) + (x3 * y0)) ((x0 * y3) - (x1 * y0) + (x2 * y0) - (x2 * y1) + (x3 * y1))) 1 ((x0 * y1) - (x1 * y0) + (x1 * y2) - (x2 * y1) + (x2 * y3) - (x3 * y2))))]) hC hK hP hD hS 3 rfl (by decide) rfl d_Mo_conjugate_96 (fun H locs hP hD hS => ?_)
  rw [v4_u1] at hP hD
  refine lv_iinc (v := iI 2) (lv' := [(6, .int (iI 2)), (4, .long (lI ((x3 * y2)))), (3, .int (iI 4)), (2, .int (iI 2)), (1, .int (iI 3)), (0, .ref o)]) hC.1 hC.2.1 d_Mo_conjugate_97 hl (k := 0) rfl (z_inc (by omega)) (by decide) rfl (fun ls hl => ?_)
  refine z_goto (tgt := 79) hC d_Mo_conjugate_100 (by decide) ?_
  refine lv_iload hC.1 hC.2.1 d_Mo_conjugate_79 (lv_at hl 0 rfl) ?_
  refine z_iconst hC d_Mo_conjugate_81 ?_
  refine z_icmp_ge (tgt := 103) hC d_Mo_conjugate_82 (by decide) (by decide) (by decide) (fun h => absurd h (by decide)) (fun _ => ?_)
  refine lv_aload_n hC.1 hC.2.1 d_Mo_conjugate_85 rfl (lv_at hl 5 rfl) ?_
  refine z_get (ci := 5) (C := R_Mo) (T := F_Mo) (N := 21) (v := .ref qc) hC in_Mo hK hP 0 rfl rfl 14 (by decide) k_467 rfl d_Mo_conjugate_86 ?_
  refine lv_iload hC.1 hC.2.1 d_Mo_conjugate_89 (lv_at hl 0 rfl) ?_
  refine lv_dup2_11 hC.1 hC.2.1 d_Mo_conjugate_91 rfl rfl ?_
  refine z_lald hC hK hP 3 rfl (by decide) d_Mo_conjugate_92 ?_
  refine z_topl (z := (x0 * y2) - (x1 * y0) + (x1 * y3) - (x2 * y1) + (x3 * y0)) rfl ?_
  refine lv_lload hC.1 hC.2.1 d_Mo_conjugate_93 (lv_at hl 1 rfl) ?_
  refine z_lsub hC d_Mo_conjugate_95 ?_
  refine z_topl (z := (x0 * y2) - (x1 * y0) + (x1 * y3) - (x2 * y1) + (x3 * y0) - (x3 * y2)) (by omega) ?_
  refine z_last (ws' := [(o, .inr (5, [.int (iI cd), .int (iI z), .int (iI lv), .ref qT, .ref qC, .ref qF, .ref qY, .ref qZ, .ref qu, .ref qv, .ref qw, .ref qg, .ref qh, .ref qx, .ref qc, .ref qa, .ref qb, .ref qd, .int (iI fm), .ref qp, .ref qq])), (qu, eL t.2.1 4 (v4 x0 x1 x2 x3)), (qv, eL t.2.1 4 (v4 y0 y1 y2 y3)), (qc, eL t.2.1 4 (uZ (v4 ((x0 * y0) - (x1 * y0) + (x1 * y1) - (x2 * y1) + (x2 * y2) - (x3 * y2)) ((x0 * y1) - (x1 * y0) + (x1 * y2) - (x2 * y1) + (x2 * y3) - (x3 * y2)) ((x0 * y2) - (x1 * y0) + (x1 * y3) - (x2 * y1) + (x3 * y0)) ((x0 * y3) - (x1 * y0) + (x2 * y0) - (x2 * y1) + (x3 * y1))) 2 ((x0 * y2) - (x1 * y0) + (x1 * y3) - (x2 * y1) + (x3 * y0) - (x3 * y2))))]) hC hK hP hD hS 3 rfl (by decide) rfl d_Mo_conjugate_96 (fun H locs hP hD hS => ?_)
  rw [v4_u2] at hP hD
  refine lv_iinc (v := iI 3) (lv' := [(6, .int (iI 3)), (4, .long (lI ((x3 * y2)))), (3, .int (iI 4)), (2, .int (iI 2)), (1, .int (iI 3)), (0, .ref o)]) hC.1 hC.2.1 d_Mo_conjugate_97 hl (k := 0) rfl (z_inc (by omega)) (by decide) rfl (fun ls hl => ?_)
  refine z_goto (tgt := 79) hC d_Mo_conjugate_100 (by decide) ?_
  refine lv_iload hC.1 hC.2.1 d_Mo_conjugate_79 (lv_at hl 0 rfl) ?_
  refine z_iconst hC d_Mo_conjugate_81 ?_
  refine z_icmp_ge (tgt := 103) hC d_Mo_conjugate_82 (by decide) (by decide) (by decide) (fun h => absurd h (by decide)) (fun _ => ?_)
  refine lv_aload_n hC.1 hC.2.1 d_Mo_conjugate_85 rfl (lv_at hl 5 rfl) ?_
  refine z_get (ci := 5) (C := R_Mo) (T := F_Mo) (N := 21) (v := .ref qc) hC in_Mo hK hP 0 rfl rfl 14 (by decide) k_467 rfl d_Mo_conjugate_86 ?_
  refine lv_iload hC.1 hC.2.1 d_Mo_conjugate_89 (lv_at hl 0 rfl) ?_
  refine lv_dup2_11 hC.1 hC.2.1 d_Mo_conjugate_91 rfl rfl ?_
  refine z_lald hC hK hP 3 rfl (by decide) d_Mo_conjugate_92 ?_
  refine z_topl (z := (x0 * y3) - (x1 * y0) + (x2 * y0) - (x2 * y1) + (x3 * y1)) rfl ?_
  refine lv_lload hC.1 hC.2.1 d_Mo_conjugate_93 (lv_at hl 1 rfl) ?_
  refine z_lsub hC d_Mo_conjugate_95 ?_
  refine z_topl (z := (x0 * y3) - (x1 * y0) + (x2 * y0) - (x2 * y1) + (x3 * y1) - (x3 * y2)) (by omega) ?_
  refine z_last (ws' := [(o, .inr (5, [.int (iI cd), .int (iI z), .int (iI lv), .ref qT, .ref qC, .ref qF, .ref qY, .ref qZ, .ref qu, .ref qv, .ref qw, .ref qg, .ref qh, .ref qx, .ref qc, .ref qa, .ref qb, .ref qd, .int (iI fm), .ref qp, .ref qq])), (qu, eL t.2.1 4 (v4 x0 x1 x2 x3)), (qv, eL t.2.1 4 (v4 y0 y1 y2 y3)), (qc, eL t.2.1 4 (uZ (v4 ((x0 * y0) - (x1 * y0) + (x1 * y1) - (x2 * y1) + (x2 * y2) - (x3 * y2)) ((x0 * y1) - (x1 * y0) + (x1 * y2) - (x2 * y1) + (x2 * y3) - (x3 * y2)) ((x0 * y2) - (x1 * y0) + (x1 * y3) - (x2 * y1) + (x3 * y0) - (x3 * y2)) ((x0 * y3) - (x1 * y0) + (x2 * y0) - (x2 * y1) + (x3 * y1))) 3 ((x0 * y3) - (x1 * y0) + (x2 * y0) - (x2 * y1) + (x3 * y1) - (x3 * y2))))]) hC hK hP hD hS 3 rfl (by decide) rfl d_Mo_conjugate_96 (fun H locs hP hD hS => ?_)
  rw [v4_u3] at hP hD
  refine lv_iinc (v := iI 4) (lv' := [(6, .int (iI 4)), (4, .long (lI ((x3 * y2)))), (3, .int (iI 4)), (2, .int (iI 2)), (1, .int (iI 3)), (0, .ref o)]) hC.1 hC.2.1 d_Mo_conjugate_97 hl (k := 0) rfl (z_inc (by omega)) (by decide) rfl (fun ls hl => ?_)
  refine z_goto (tgt := 79) hC d_Mo_conjugate_100 (by decide) ?_
  refine lv_iload hC.1 hC.2.1 d_Mo_conjugate_79 (lv_at hl 0 rfl) ?_
  refine z_iconst hC d_Mo_conjugate_81 ?_
  refine z_icmp_ge (tgt := 103) hC d_Mo_conjugate_82 (by decide) (by decide) (by decide) (fun _ => ?_) (fun h => absurd h (by decide))
  refine lv_iinc (v := iI 3) (lv' := [(2, .int (iI 3)), (6, .int (iI 4)), (4, .long (lI ((x3 * y2)))), (3, .int (iI 4)), (1, .int (iI 3)), (0, .ref o)]) hC.1 hC.2.1 d_Mo_conjugate_103 hl (k := 3) rfl (z_inc (by omega)) (by decide) rfl (fun ls hl => ?_)
  refine z_goto (tgt := 29) hC d_Mo_conjugate_106 (by decide) ?_
  refine lv_iload_n hC.1 hC.2.1 d_Mo_conjugate_29 rfl (lv_at hl 0 rfl) ?_
  refine z_iconst hC d_Mo_conjugate_30 ?_
  refine z_icmp_ge (tgt := 109) hC d_Mo_conjugate_31 (by decide) (by decide) (by decide) (fun h => absurd h (by decide)) (fun _ => ?_)
  refine lv_iload_n hC.1 hC.2.1 d_Mo_conjugate_34 rfl (lv_at hl 0 rfl) ?_
  refine lv_iload_n hC.1 hC.2.1 d_Mo_conjugate_35 rfl (lv_at hl 4 rfl) ?_
  refine z_isub hC d_Mo_conjugate_36 ?_
  refine z_topi (z := 0) (by omega) ?_
  refine z_iconst hC d_Mo_conjugate_37 ?_
  refine z_iadd hC d_Mo_conjugate_38 ?_
  refine z_topi (z := 5) (by omega) ?_
  refine z_iconst hC d_Mo_conjugate_39 ?_
  refine z_irem hC d_Mo_conjugate_40 (by omega) (by omega) ?_
  refine z_topi (z := 0) (by decide) ?_
  refine lv_istore_n (lv' := [(3, .int (iI 0)), (2, .int (iI 3)), (6, .int (iI 4)), (4, .long (lI ((x3 * y2)))), (1, .int (iI 3)), (0, .ref o)]) hC.1 hC.2.1 d_Mo_conjugate_41 rfl hl (by decide) rfl (fun ls hl => ?_)
  refine lv_aload_n hC.1 hC.2.1 d_Mo_conjugate_42 rfl (lv_at hl 5 rfl) ?_
  refine z_get (ci := 5) (C := R_Mo) (T := F_Mo) (N := 21) (v := .ref qu) hC in_Mo hK hP 0 rfl rfl 8 (by decide) k_461 rfl d_Mo_conjugate_43 ?_
  refine lv_iload_n hC.1 hC.2.1 d_Mo_conjugate_46 rfl (lv_at hl 4 rfl) ?_
  refine z_lald hC hK hP 1 rfl (by decide) d_Mo_conjugate_47 ?_
  refine z_topl (z := x3) rfl ?_
  refine lv_aload_n hC.1 hC.2.1 d_Mo_conjugate_48 rfl (lv_at hl 5 rfl) ?_
  refine z_get (ci := 5) (C := R_Mo) (T := F_Mo) (N := 21) (v := .ref qv) hC in_Mo hK hP 0 rfl rfl 9 (by decide) k_462 rfl d_Mo_conjugate_49 ?_
  refine lv_iload_n hC.1 hC.2.1 d_Mo_conjugate_52 rfl (lv_at hl 1 rfl) ?_
  refine z_lald hC hK hP 2 rfl (by decide) d_Mo_conjugate_53 ?_
  refine z_topl (z := y3) rfl ?_
  refine z_lmul hC d_Mo_conjugate_54 ?_
  refine lv_lstore (lv' := [(4, .long (lI ((x3 * y3)))), (3, .int (iI 0)), (2, .int (iI 3)), (6, .int (iI 4)), (1, .int (iI 3)), (0, .ref o)]) hC.1 hC.2.1 d_Mo_conjugate_55 hl (by decide) rfl (fun ls hl => ?_)
  refine lv_iload_n hC.1 hC.2.1 d_Mo_conjugate_57 rfl (lv_at hl 1 rfl) ?_
  refine z_iconst hC d_Mo_conjugate_58 ?_
  refine z_icmp_ge (tgt := 76) hC d_Mo_conjugate_59 (by decide) (by decide) (by decide) (fun h => absurd h (by decide)) (fun _ => ?_)
  refine lv_aload_n hC.1 hC.2.1 d_Mo_conjugate_62 rfl (lv_at hl 5 rfl) ?_
  refine z_get (ci := 5) (C := R_Mo) (T := F_Mo) (N := 21) (v := .ref qc) hC in_Mo hK hP 0 rfl rfl 14 (by decide) k_467 rfl d_Mo_conjugate_63 ?_
  refine lv_iload_n hC.1 hC.2.1 d_Mo_conjugate_66 rfl (lv_at hl 1 rfl) ?_
  refine lv_dup2_11 hC.1 hC.2.1 d_Mo_conjugate_67 rfl rfl ?_
  refine z_lald hC hK hP 3 rfl (by decide) d_Mo_conjugate_68 ?_
  refine z_topl (z := (x0 * y0) - (x1 * y0) + (x1 * y1) - (x2 * y1) + (x2 * y2) - (x3 * y2)) rfl ?_
  refine lv_lload hC.1 hC.2.1 d_Mo_conjugate_69 (lv_at hl 0 rfl) ?_
  refine z_ladd hC d_Mo_conjugate_71 ?_
  refine z_topl (z := (x0 * y0) - (x1 * y0) + (x1 * y1) - (x2 * y1) + (x2 * y2) - (x3 * y2) + (x3 * y3)) (by omega) ?_
  refine z_last (ws' := [(o, .inr (5, [.int (iI cd), .int (iI z), .int (iI lv), .ref qT, .ref qC, .ref qF, .ref qY, .ref qZ, .ref qu, .ref qv, .ref qw, .ref qg, .ref qh, .ref qx, .ref qc, .ref qa, .ref qb, .ref qd, .int (iI fm), .ref qp, .ref qq])), (qu, eL t.2.1 4 (v4 x0 x1 x2 x3)), (qv, eL t.2.1 4 (v4 y0 y1 y2 y3)), (qc, eL t.2.1 4 (uZ (v4 ((x0 * y0) - (x1 * y0) + (x1 * y1) - (x2 * y1) + (x2 * y2) - (x3 * y2)) ((x0 * y1) - (x1 * y0) + (x1 * y2) - (x2 * y1) + (x2 * y3) - (x3 * y2)) ((x0 * y2) - (x1 * y0) + (x1 * y3) - (x2 * y1) + (x3 * y0) - (x3 * y2)) ((x0 * y3) - (x1 * y0) + (x2 * y0) - (x2 * y1) + (x3 * y1) - (x3 * y2))) 0 ((x0 * y0) - (x1 * y0) + (x1 * y1) - (x2 * y1) + (x2 * y2) - (x3 * y2) + (x3 * y3))))]) hC hK hP hD hS 3 rfl (by decide) rfl d_Mo_conjugate_72 (fun H locs hP hD hS => ?_)
  rw [v4_u0] at hP hD
  refine z_goto (tgt := 103) hC d_Mo_conjugate_73 (by decide) ?_
  refine lv_iinc (v := iI 4) (lv' := [(2, .int (iI 4)), (4, .long (lI ((x3 * y3)))), (3, .int (iI 0)), (6, .int (iI 4)), (1, .int (iI 3)), (0, .ref o)]) hC.1 hC.2.1 d_Mo_conjugate_103 hl (k := 2) rfl (z_inc (by omega)) (by decide) rfl (fun ls hl => ?_)
  refine z_goto (tgt := 29) hC d_Mo_conjugate_106 (by decide) ?_
  refine lv_iload_n hC.1 hC.2.1 d_Mo_conjugate_29 rfl (lv_at hl 0 rfl) ?_
  refine z_iconst hC d_Mo_conjugate_30 ?_
  refine z_icmp_ge (tgt := 109) hC d_Mo_conjugate_31 (by decide) (by decide) (by decide) (fun _ => ?_) (fun h => absurd h (by decide))
  refine lv_iinc (v := iI 4) (lv' := [(1, .int (iI 4)), (2, .int (iI 4)), (4, .long (lI ((x3 * y3)))), (3, .int (iI 0)), (6, .int (iI 4)), (0, .ref o)]) hC.1 hC.2.1 d_Mo_conjugate_109 hl (k := 4) rfl (z_inc (by omega)) (by decide) rfl (fun ls hl => ?_)
  refine z_goto (tgt := 22) hC d_Mo_conjugate_112 (by decide) ?_
  refine lv_iload_n hC.1 hC.2.1 d_Mo_conjugate_22 rfl (lv_at hl 0 rfl) ?_
  refine z_iconst hC d_Mo_conjugate_23 ?_
  refine z_icmp_ge (tgt := 115) hC d_Mo_conjugate_24 (by decide) (by decide) (by decide) (fun _ => ?_) (fun h => absurd h (by decide))
  have ev_qc : (v4 ((x0 * y0) - (x1 * y0) + (x1 * y1) - (x2 * y1) + (x2 * y2) - (x3 * y2) + (x3 * y3)) ((x0 * y1) - (x1 * y0) + (x1 * y2) - (x2 * y1) + (x2 * y3) - (x3 * y2)) ((x0 * y2) - (x1 * y0) + (x1 * y3) - (x2 * y1) + (x3 * y0) - (x3 * y2)) ((x0 * y3) - (x1 * y0) + (x2 * y0) - (x2 * y1) + (x3 * y1) - (x3 * y2))) = (v4 r0 r1 r2 r3) := by rw [show r0 = (x0 * y0) - (x1 * y0) + (x1 * y1) - (x2 * y1) + (x2 * y2) - (x3 * y2) + (x3 * y3) by omega, show r1 = (x0 * y1) - (x1 * y0) + (x1 * y2) - (x2 * y1) + (x2 * y3) - (x3 * y2) by omega, show r2 = (x0 * y2) - (x1 * y0) + (x1 * y3) - (x2 * y1) + (x3 * y0) - (x3 * y2) by omega, show r3 = (x0 * y3) - (x1 * y0) + (x2 * y0) - (x2 * y1) + (x3 * y1) - (x3 * y2) by omega]
  rw [ev_qc] at hP hD
  have hP9 := hP.sub (ws' := [(o, .inr (5, [.int (iI cd), .int (iI z), .int (iI lv), .ref qT, .ref qC, .ref qF, .ref qY, .ref qZ, .ref qu, .ref qv, .ref qw, .ref qg, .ref qh, .ref qx, .ref qc, .ref qa, .ref qb, .ref qd, .int (iI fm), .ref qp, .ref qq])), (qu, eL t.2.1 4 (v4 x0 x1 x2 x3)), (qv, eL t.2.1 4 (v4 y0 y1 y2 y3)), (qc, eL t.2.1 4 (v4 r0 r1 r2 r3))]) [0, 1, 2, 3] rfl
  have hD9 := hD.sub (ws' := [(o, .inr (5, [.int (iI cd), .int (iI z), .int (iI lv), .ref qT, .ref qC, .ref qF, .ref qY, .ref qZ, .ref qu, .ref qv, .ref qw, .ref qg, .ref qh, .ref qx, .ref qc, .ref qa, .ref qb, .ref qd, .int (iI fm), .ref qp, .ref qq])), (qu, eL t.2.1 4 (v4 x0 x1 x2 x3)), (qv, eL t.2.1 4 (v4 y0 y1 y2 y3)), (qc, eL t.2.1 4 (v4 r0 r1 r2 r3))]) [0, 1, 2, 3] (by decide) rfl
  exact ret () _ _ 115 _ d_Mo_conjugate_115 trivial hP9 hD9 hS
theorem ye_Mo_turn : ye y_Mo_turn R_Mo 0 := by unfold ye; decide +kernel
abbrev rm_Mo_turn : Room := { frames := 3, cells := 0, slots := 0, locals := 77 }
set_option maxHeartbeats 4000000 in
set_option maxRecDepth 100000 in
theorem c_Mo_turn (l : Launch) (D : va_G) (t : vt) (ts : Nat → Nat) (o qT qC qF qY qZ qu qv qw qg qh qx qc qa qb qd qp qq : Nat) (cd z lv fm : Int) (Wd : Int → Int) (x0 x1 x2 x3 : Int) (y0 y1 y2 y3 : Int) (c0 c1 c2 c3 : Int) (bx0 : b6 x0) (bx1 : b6 x1) (bx2 : b6 x2) (bx3 : b6 x3) (by0 : b6 y0) (by1 : b6 y1) (by2 : b6 y2) (by3 : b6 y3) (sz : Nat) : Met l y_Mo_turn (.code y_Mo_turn b_Mo_turn 1 (some .int) :: tb_ws) rm_Mo_turn (MP D t ts [.ref o] [(o, .inr (5, [.int (iI cd), .int (iI z), .int (iI lv), .ref qT, .ref qC, .ref qF, .ref qY, .ref qZ, .ref qu, .ref qv, .ref qw, .ref qg, .ref qh, .ref qx, .ref qc, .ref qa, .ref qb, .ref qd, .int (iI fm), .ref qp, .ref qq])), (qu, eL t.2.1 4 (v4 x0 x1 x2 x3)), (qv, eL t.2.1 4 (v4 y0 y1 y2 y3)), (qc, eL t.2.1 4 (v4 c0 c1 c2 c3)), (qx, eL t.2.1 54 Wd)] sz) (va_Qi (fun zr u => zr = iI ((fun u : Int × (Int → Int) => u.1) u) ∧ ((fun u : Int × (Int → Int) => u.1 = trZ x0 x1 x2 x3 y0 y1 y2 y3)) u) (MB D (va_A [(o, .inr (5, [.int (iI cd), .int (iI z), .int (iI lv), .ref qT, .ref qC, .ref qF, .ref qY, .ref qZ, .ref qu, .ref qv, .ref qw, .ref qg, .ref qh, .ref qx, .ref qc, .ref qa, .ref qb, .ref qd, .int (iI fm), .ref qp, .ref qq])), (qu, eL t.2.1 4 (v4 x0 x1 x2 x3)), (qv, eL t.2.1 4 (v4 y0 y1 y2 y3)), (qc, eL t.2.1 4 (v4 c0 c1 c2 c3)), (qx, eL t.2.1 54 Wd)] sz) (fun u : Int × (Int → Int) => [(o, .inr (5, [.int (iI cd), .int (iI z), .int (iI lv), .ref qT, .ref qC, .ref qF, .ref qY, .ref qZ, .ref qu, .ref qv, .ref qw, .ref qg, .ref qh, .ref qx, .ref qc, .ref qa, .ref qb, .ref qd, .int (iI fm), .ref qp, .ref qq])), (qu, eL t.2.1 4 (v4 x0 x1 x2 x3)), (qv, eL t.2.1 4 (v4 y0 y1 y2 y3)), (qc, eL t.2.1 4 (v4 (cj0 x0 x1 x2 x3 y0 y1 y2 y3) (cj1 x0 x1 x2 x3 y0 y1 y2 y3) (cj2 x0 x1 x2 x3 y0 y1 y2 y3) (cj3 x0 x1 x2 x3 y0 y1 y2 y3))), (qx, eL t.2.1 54 u.2)])) (va_A [(o, .inr (5, [.int (iI cd), .int (iI z), .int (iI lv), .ref qT, .ref qC, .ref qF, .ref qY, .ref qZ, .ref qu, .ref qv, .ref qw, .ref qg, .ref qh, .ref qx, .ref qc, .ref qa, .ref qb, .ref qd, .int (iI fm), .ref qp, .ref qq])), (qu, eL t.2.1 4 (v4 x0 x1 x2 x3)), (qv, eL t.2.1 4 (v4 y0 y1 y2 y3)), (qc, eL t.2.1 4 (v4 c0 c1 c2 c3)), (qx, eL t.2.1 54 Wd)] sz)) 0 0 (va_A [(o, .inr (5, [.int (iI cd), .int (iI z), .int (iI lv), .ref qT, .ref qC, .ref qF, .ref qY, .ref qZ, .ref qu, .ref qv, .ref qw, .ref qg, .ref qh, .ref qx, .ref qc, .ref qa, .ref qb, .ref qd, .int (iI fm), .ref qp, .ref qq])), (qu, eL t.2.1 4 (v4 x0 x1 x2 x3)), (qv, eL t.2.1 4 (v4 y0 y1 y2 y3)), (qc, eL t.2.1 4 (v4 c0 c1 c2 c3)), (qx, eL t.2.1 54 Wd)] sz) := by
  refine m_i (by decide +kernel) (Nat.le_of_ble_eq_true rfl) ?_
  intro zp ze zs zm zb zt zc zQ A ls hC hA hP hK hD hE hS hl ret
  have hl : lv_has ls 1 [(0, .ref o)] := hl
  have retv : ∀ (u : Int × (Int → Int)) (H : Heap) (locs : List Loc) (pc : Nat) (ls : Array Slot) (zv : Int), decode b_Mo_turn pc = .ok (.ireturn, 1) → (zv = u.1 ∧ (u.1 = trZ x0 x1 x2 x3 y0 y1 y2 y3)) → va_P D classes ([(o, .inr (5, [.int (iI cd), .int (iI z), .int (iI lv), .ref qT, .ref qC, .ref qF, .ref qY, .ref qZ, .ref qu, .ref qv, .ref qw, .ref qg, .ref qh, .ref qx, .ref qc, .ref qa, .ref qb, .ref qd, .int (iI fm), .ref qp, .ref qq])), (qu, eL t.2.1 4 (v4 x0 x1 x2 x3)), (qv, eL t.2.1 4 (v4 y0 y1 y2 y3)), (qc, eL t.2.1 4 (v4 (cj0 x0 x1 x2 x3 y0 y1 y2 y3) (cj1 x0 x1 x2 x3 y0 y1 y2 y3) (cj2 x0 x1 x2 x3 y0 y1 y2 y3) (cj3 x0 x1 x2 x3 y0 y1 y2 y3))), (qx, eL t.2.1 54 u.2)]) H → va_D A ([(o, .inr (5, [.int (iI cd), .int (iI z), .int (iI lv), .ref qT, .ref qC, .ref qF, .ref qY, .ref qZ, .ref qu, .ref qv, .ref qw, .ref qg, .ref qh, .ref qx, .ref qc, .ref qa, .ref qb, .ref qd, .int (iI fm), .ref qp, .ref qq])), (qu, eL t.2.1 4 (v4 x0 x1 x2 x3)), (qv, eL t.2.1 4 (v4 y0 y1 y2 y3)), (qc, eL t.2.1 4 (v4 (cj0 x0 x1 x2 x3 y0 y1 y2 y3) (cj1 x0 x1 x2 x3 y0 y1 y2 y3) (cj2 x0 x1 x2 x3 y0 y1 y2 y3) (cj3 x0 x1 x2 x3 y0 y1 y2 y3))), (qx, eL t.2.1 54 u.2)]) → va_S A zs.heap H locs → W zp l ze rm_Mo_turn zs zm [.ref o].toArray zb zt zc H locs 0 0 zQ (F0 zm pc ls [.int (iI zv)]) := fun u H locs pc ls v d h hP hD hS => by rw [h.1]; exact ret u H locs pc ls d h.2 hP hD hS
  have ci := cj_in bx0 bx1 bx2 bx3 by0 by1 by2 by3
  refine lv_aload_n hC.1 hC.2.1 d_Mo_turn_0 rfl (lv_at hl 0 rfl) ?_
  refine z_mVv (As := []) (rest := []) (wr := [(qx, eL t.2.1 54 Wd)]) hC (c_Mo_conjugate l D t ts o qT qC qF qY qZ qu qv qw qg qh qx qc qa qb qd qp qq cd z lv fm x0 x1 x2 x3 y0 y1 y2 y3 c0 c1 c2 c3 (cj0 x0 x1 x2 x3 y0 y1 y2 y3) (cj1 x0 x1 x2 x3 y0 y1 y2 y3) (cj2 x0 x1 x2 x3 y0 y1 y2 y3) (cj3 x0 x1 x2 x3 y0 y1 y2 y3) rfl rfl rfl rfl _) (cw_V hC k_571 k_573 kp_31 k_6 k_574 ye_Mo_conjugate (by decide)) hP hD hK hE hS hA [0, 1, 2, 3] [4] (by decide) rfl rfl (by decide) (by decide) 0 (ci := 5) rfl rfl rfl rfl hl.1 rfl (Nat.le_of_ble_eq_true rfl) ⟨Nat.le_of_ble_eq_true rfl, Nat.le_of_ble_eq_true rfl⟩ d_Mo_turn_1 (fun u1 H locs eu1 hP hD hS => ?_)
  have hP : va_P D classes [(qx, eL t.2.1 54 Wd), (o, .inr (5, [.int (iI cd), .int (iI z), .int (iI lv), .ref qT, .ref qC, .ref qF, .ref qY, .ref qZ, .ref qu, .ref qv, .ref qw, .ref qg, .ref qh, .ref qx, .ref qc, .ref qa, .ref qb, .ref qd, .int (iI fm), .ref qp, .ref qq])), (qu, eL t.2.1 4 (v4 x0 x1 x2 x3)), (qv, eL t.2.1 4 (v4 y0 y1 y2 y3)), (qc, eL t.2.1 4 (v4 (cj0 x0 x1 x2 x3 y0 y1 y2 y3) (cj1 x0 x1 x2 x3 y0 y1 y2 y3) (cj2 x0 x1 x2 x3 y0 y1 y2 y3) (cj3 x0 x1 x2 x3 y0 y1 y2 y3)))] H := hP
  have hD : va_D A [(qx, eL t.2.1 54 Wd), (o, .inr (5, [.int (iI cd), .int (iI z), .int (iI lv), .ref qT, .ref qC, .ref qF, .ref qY, .ref qZ, .ref qu, .ref qv, .ref qw, .ref qg, .ref qh, .ref qx, .ref qc, .ref qa, .ref qb, .ref qd, .int (iI fm), .ref qp, .ref qq])), (qu, eL t.2.1 4 (v4 x0 x1 x2 x3)), (qv, eL t.2.1 4 (v4 y0 y1 y2 y3)), (qc, eL t.2.1 4 (v4 (cj0 x0 x1 x2 x3 y0 y1 y2 y3) (cj1 x0 x1 x2 x3 y0 y1 y2 y3) (cj2 x0 x1 x2 x3 y0 y1 y2 y3) (cj3 x0 x1 x2 x3 y0 y1 y2 y3)))] := hD
  refine lv_aload_n hC.1 hC.2.1 d_Mo_turn_4 rfl (lv_at hl 0 rfl) ?_
  refine lv_aload_n hC.1 hC.2.1 d_Mo_turn_5 rfl (lv_at hl 0 rfl) ?_
  refine z_get (ci := 5) (C := R_Mo) (T := F_Mo) (N := 21) (v := .ref qc) hC in_Mo hK hP 1 rfl rfl 14 (by decide) k_467 rfl d_Mo_turn_6 ?_
  refine z_iconst hC d_Mo_turn_9 ?_
  refine z_lald hC hK hP 4 rfl (by decide) d_Mo_turn_10 ?_
  refine z_topl (z := cj2 x0 x1 x2 x3 y0 y1 y2 y3) rfl ?_
  refine lv_aload_n hC.1 hC.2.1 d_Mo_turn_11 rfl (lv_at hl 0 rfl) ?_
  refine z_get (ci := 5) (C := R_Mo) (T := F_Mo) (N := 21) (v := .ref qc) hC in_Mo hK hP 1 rfl rfl 14 (by decide) k_467 rfl d_Mo_turn_12 ?_
  refine z_iconst hC d_Mo_turn_15 ?_
  refine z_lald hC hK hP 4 rfl (by decide) d_Mo_turn_16 ?_
  refine z_topl (z := cj3 x0 x1 x2 x3 y0 y1 y2 y3) rfl ?_
  refine z_lsub hC d_Mo_turn_17 ?_
  refine z_topl (z := cj2 x0 x1 x2 x3 y0 y1 y2 y3 - cj3 x0 x1 x2 x3 y0 y1 y2 y3) (by omega) ?_
  refine lv_aload_n hC.1 hC.2.1 d_Mo_turn_18 rfl (lv_at hl 0 rfl) ?_
  refine z_get (ci := 5) (C := R_Mo) (T := F_Mo) (N := 21) (v := .ref qc) hC in_Mo hK hP 1 rfl rfl 14 (by decide) k_467 rfl d_Mo_turn_19 ?_
  refine z_iconst hC d_Mo_turn_22 ?_
  refine z_lald hC hK hP 4 rfl (by decide) d_Mo_turn_23 ?_
  refine z_topl (z := cj1 x0 x1 x2 x3 y0 y1 y2 y3) rfl ?_
  refine z_mVi (As := [.long (lI (cj2 x0 x1 x2 x3 y0 y1 y2 y3 - cj3 x0 x1 x2 x3 y0 y1 y2 y3)), .long (lI (cj1 x0 x1 x2 x3 y0 y1 y2 y3))]) (rest := []) (wr := [(qu, eL t.2.1 4 (v4 x0 x1 x2 x3)), (qv, eL t.2.1 4 (v4 y0 y1 y2 y3)), (qc, eL t.2.1 4 (v4 (cj0 x0 x1 x2 x3 y0 y1 y2 y3) (cj1 x0 x1 x2 x3 y0 y1 y2 y3) (cj2 x0 x1 x2 x3 y0 y1 y2 y3) (cj3 x0 x1 x2 x3 y0 y1 y2 y3)))]) hC (c_Mo_sign l D t ts o qT qC qF qY qZ qu qv qw qg qh qx qc qa qb qd qp qq cd z lv fm Wd (cj2 x0 x1 x2 x3 y0 y1 y2 y3 - cj3 x0 x1 x2 x3 y0 y1 y2 y3) (cj1 x0 x1 x2 x3 y0 y1 y2 y3) (by omega) (by omega) _) (cw_V hC k_577 k_579 kp_32 k_6 k_580 ye_Mo_sign (by decide)) hP hD hK hE hS hA [1, 0] [2, 3, 4] (by decide) rfl rfl (by decide) (by decide) 1 (ci := 5) rfl rfl rfl rfl hl.1 rfl (Nat.le_of_ble_eq_true rfl) ⟨Nat.le_of_ble_eq_true rfl, Nat.le_of_ble_eq_true rfl⟩ d_Mo_turn_24 (fun u2 H locs eu2 hP hD hS => ?_)
  obtain ⟨u2r, u2X⟩ := u2
  dsimp only at eu2 hP hD ⊢
  have hP : va_P D classes [(qu, eL t.2.1 4 (v4 x0 x1 x2 x3)), (qv, eL t.2.1 4 (v4 y0 y1 y2 y3)), (qc, eL t.2.1 4 (v4 (cj0 x0 x1 x2 x3 y0 y1 y2 y3) (cj1 x0 x1 x2 x3 y0 y1 y2 y3) (cj2 x0 x1 x2 x3 y0 y1 y2 y3) (cj3 x0 x1 x2 x3 y0 y1 y2 y3))), (o, .inr (5, [.int (iI cd), .int (iI z), .int (iI lv), .ref qT, .ref qC, .ref qF, .ref qY, .ref qZ, .ref qu, .ref qv, .ref qw, .ref qg, .ref qh, .ref qx, .ref qc, .ref qa, .ref qb, .ref qd, .int (iI fm), .ref qp, .ref qq])), (qx, eL t.2.1 54 u2X)] H := hP
  have hD : va_D A [(qu, eL t.2.1 4 (v4 x0 x1 x2 x3)), (qv, eL t.2.1 4 (v4 y0 y1 y2 y3)), (qc, eL t.2.1 4 (v4 (cj0 x0 x1 x2 x3 y0 y1 y2 y3) (cj1 x0 x1 x2 x3 y0 y1 y2 y3) (cj2 x0 x1 x2 x3 y0 y1 y2 y3) (cj3 x0 x1 x2 x3 y0 y1 y2 y3))), (o, .inr (5, [.int (iI cd), .int (iI z), .int (iI lv), .ref qT, .ref qC, .ref qF, .ref qY, .ref qZ, .ref qu, .ref qv, .ref qw, .ref qg, .ref qh, .ref qx, .ref qc, .ref qa, .ref qb, .ref qd, .int (iI fm), .ref qp, .ref qq])), (qx, eL t.2.1 54 u2X)] := hD
  have hP9 := hP.sub (ws' := [(o, .inr (5, [.int (iI cd), .int (iI z), .int (iI lv), .ref qT, .ref qC, .ref qF, .ref qY, .ref qZ, .ref qu, .ref qv, .ref qw, .ref qg, .ref qh, .ref qx, .ref qc, .ref qa, .ref qb, .ref qd, .int (iI fm), .ref qp, .ref qq])), (qu, eL t.2.1 4 (v4 x0 x1 x2 x3)), (qv, eL t.2.1 4 (v4 y0 y1 y2 y3)), (qc, eL t.2.1 4 (v4 (cj0 x0 x1 x2 x3 y0 y1 y2 y3) (cj1 x0 x1 x2 x3 y0 y1 y2 y3) (cj2 x0 x1 x2 x3 y0 y1 y2 y3) (cj3 x0 x1 x2 x3 y0 y1 y2 y3))), (qx, eL t.2.1 54 u2X)]) [3, 0, 1, 2, 4] rfl
  have hD9 := hD.sub (ws' := [(o, .inr (5, [.int (iI cd), .int (iI z), .int (iI lv), .ref qT, .ref qC, .ref qF, .ref qY, .ref qZ, .ref qu, .ref qv, .ref qw, .ref qg, .ref qh, .ref qx, .ref qc, .ref qa, .ref qb, .ref qd, .int (iI fm), .ref qp, .ref qq])), (qu, eL t.2.1 4 (v4 x0 x1 x2 x3)), (qv, eL t.2.1 4 (v4 y0 y1 y2 y3)), (qc, eL t.2.1 4 (v4 (cj0 x0 x1 x2 x3 y0 y1 y2 y3) (cj1 x0 x1 x2 x3 y0 y1 y2 y3) (cj2 x0 x1 x2 x3 y0 y1 y2 y3) (cj3 x0 x1 x2 x3 y0 y1 y2 y3))), (qx, eL t.2.1 54 u2X)]) [3, 0, 1, 2, 4] (by decide) rfl
  exact retv (u2r, u2X) _ _ 27 _ _ d_Mo_turn_27 ⟨rfl, (by rw [eu2]; unfold trZ; congr 1 <;> omega)⟩ hP9 hD9 hS
theorem ye_Mo_along : ye y_Mo_along R_Mo 0 := by unfold ye; decide +kernel
abbrev rm_Mo_along : Room := { frames := 3, cells := 0, slots := 0, locals := 77 }
set_option maxHeartbeats 4000000 in
set_option maxRecDepth 100000 in
theorem c_Mo_along (l : Launch) (D : va_G) (t : vt) (ts : Nat → Nat) (o qT qC qF qY qZ qu qv qw qg qh qx qc qa qb qd qp qq : Nat) (cd z lv fm : Int) (Wd : Int → Int) (x0 x1 x2 x3 : Int) (y0 y1 y2 y3 : Int) (c0 c1 c2 c3 : Int) (bx0 : b6 x0) (bx1 : b6 x1) (bx2 : b6 x2) (bx3 : b6 x3) (by0 : b6 y0) (by1 : b6 y1) (by2 : b6 y2) (by3 : b6 y3) (sz : Nat) : Met l y_Mo_along (.code y_Mo_along b_Mo_along 1 (some .int) :: tb_ws) rm_Mo_along (MP D t ts [.ref o] [(o, .inr (5, [.int (iI cd), .int (iI z), .int (iI lv), .ref qT, .ref qC, .ref qF, .ref qY, .ref qZ, .ref qu, .ref qv, .ref qw, .ref qg, .ref qh, .ref qx, .ref qc, .ref qa, .ref qb, .ref qd, .int (iI fm), .ref qp, .ref qq])), (qu, eL t.2.1 4 (v4 x0 x1 x2 x3)), (qv, eL t.2.1 4 (v4 y0 y1 y2 y3)), (qc, eL t.2.1 4 (v4 c0 c1 c2 c3)), (qx, eL t.2.1 54 Wd)] sz) (va_Qi (fun zr u => zr = iI ((fun u : Int × (Int → Int) => u.1) u) ∧ ((fun u : Int × (Int → Int) => u.1 = alZ x0 x1 x2 x3 y0 y1 y2 y3)) u) (MB D (va_A [(o, .inr (5, [.int (iI cd), .int (iI z), .int (iI lv), .ref qT, .ref qC, .ref qF, .ref qY, .ref qZ, .ref qu, .ref qv, .ref qw, .ref qg, .ref qh, .ref qx, .ref qc, .ref qa, .ref qb, .ref qd, .int (iI fm), .ref qp, .ref qq])), (qu, eL t.2.1 4 (v4 x0 x1 x2 x3)), (qv, eL t.2.1 4 (v4 y0 y1 y2 y3)), (qc, eL t.2.1 4 (v4 c0 c1 c2 c3)), (qx, eL t.2.1 54 Wd)] sz) (fun u : Int × (Int → Int) => [(o, .inr (5, [.int (iI cd), .int (iI z), .int (iI lv), .ref qT, .ref qC, .ref qF, .ref qY, .ref qZ, .ref qu, .ref qv, .ref qw, .ref qg, .ref qh, .ref qx, .ref qc, .ref qa, .ref qb, .ref qd, .int (iI fm), .ref qp, .ref qq])), (qu, eL t.2.1 4 (v4 x0 x1 x2 x3)), (qv, eL t.2.1 4 (v4 y0 y1 y2 y3)), (qc, eL t.2.1 4 (v4 (cj0 x0 x1 x2 x3 y0 y1 y2 y3) (cj1 x0 x1 x2 x3 y0 y1 y2 y3) (cj2 x0 x1 x2 x3 y0 y1 y2 y3) (cj3 x0 x1 x2 x3 y0 y1 y2 y3))), (qx, eL t.2.1 54 u.2)])) (va_A [(o, .inr (5, [.int (iI cd), .int (iI z), .int (iI lv), .ref qT, .ref qC, .ref qF, .ref qY, .ref qZ, .ref qu, .ref qv, .ref qw, .ref qg, .ref qh, .ref qx, .ref qc, .ref qa, .ref qb, .ref qd, .int (iI fm), .ref qp, .ref qq])), (qu, eL t.2.1 4 (v4 x0 x1 x2 x3)), (qv, eL t.2.1 4 (v4 y0 y1 y2 y3)), (qc, eL t.2.1 4 (v4 c0 c1 c2 c3)), (qx, eL t.2.1 54 Wd)] sz)) 0 0 (va_A [(o, .inr (5, [.int (iI cd), .int (iI z), .int (iI lv), .ref qT, .ref qC, .ref qF, .ref qY, .ref qZ, .ref qu, .ref qv, .ref qw, .ref qg, .ref qh, .ref qx, .ref qc, .ref qa, .ref qb, .ref qd, .int (iI fm), .ref qp, .ref qq])), (qu, eL t.2.1 4 (v4 x0 x1 x2 x3)), (qv, eL t.2.1 4 (v4 y0 y1 y2 y3)), (qc, eL t.2.1 4 (v4 c0 c1 c2 c3)), (qx, eL t.2.1 54 Wd)] sz) := by
  refine m_i (by decide +kernel) (Nat.le_of_ble_eq_true rfl) ?_
  intro zp ze zs zm zb zt zc zQ A ls hC hA hP hK hD hE hS hl ret
  have hl : lv_has ls 1 [(0, .ref o)] := hl
  have retv : ∀ (u : Int × (Int → Int)) (H : Heap) (locs : List Loc) (pc : Nat) (ls : Array Slot) (zv : Int), decode b_Mo_along pc = .ok (.ireturn, 1) → (zv = u.1 ∧ (u.1 = alZ x0 x1 x2 x3 y0 y1 y2 y3)) → va_P D classes ([(o, .inr (5, [.int (iI cd), .int (iI z), .int (iI lv), .ref qT, .ref qC, .ref qF, .ref qY, .ref qZ, .ref qu, .ref qv, .ref qw, .ref qg, .ref qh, .ref qx, .ref qc, .ref qa, .ref qb, .ref qd, .int (iI fm), .ref qp, .ref qq])), (qu, eL t.2.1 4 (v4 x0 x1 x2 x3)), (qv, eL t.2.1 4 (v4 y0 y1 y2 y3)), (qc, eL t.2.1 4 (v4 (cj0 x0 x1 x2 x3 y0 y1 y2 y3) (cj1 x0 x1 x2 x3 y0 y1 y2 y3) (cj2 x0 x1 x2 x3 y0 y1 y2 y3) (cj3 x0 x1 x2 x3 y0 y1 y2 y3))), (qx, eL t.2.1 54 u.2)]) H → va_D A ([(o, .inr (5, [.int (iI cd), .int (iI z), .int (iI lv), .ref qT, .ref qC, .ref qF, .ref qY, .ref qZ, .ref qu, .ref qv, .ref qw, .ref qg, .ref qh, .ref qx, .ref qc, .ref qa, .ref qb, .ref qd, .int (iI fm), .ref qp, .ref qq])), (qu, eL t.2.1 4 (v4 x0 x1 x2 x3)), (qv, eL t.2.1 4 (v4 y0 y1 y2 y3)), (qc, eL t.2.1 4 (v4 (cj0 x0 x1 x2 x3 y0 y1 y2 y3) (cj1 x0 x1 x2 x3 y0 y1 y2 y3) (cj2 x0 x1 x2 x3 y0 y1 y2 y3) (cj3 x0 x1 x2 x3 y0 y1 y2 y3))), (qx, eL t.2.1 54 u.2)]) → va_S A zs.heap H locs → W zp l ze rm_Mo_along zs zm [.ref o].toArray zb zt zc H locs 0 0 zQ (F0 zm pc ls [.int (iI zv)]) := fun u H locs pc ls v d h hP hD hS => by rw [h.1]; exact ret u H locs pc ls d h.2 hP hD hS
  have ci := cj_in bx0 bx1 bx2 bx3 by0 by1 by2 by3
  refine lv_aload_n hC.1 hC.2.1 d_Mo_along_0 rfl (lv_at hl 0 rfl) ?_
  refine z_mVv (As := []) (rest := []) (wr := [(qx, eL t.2.1 54 Wd)]) hC (c_Mo_conjugate l D t ts o qT qC qF qY qZ qu qv qw qg qh qx qc qa qb qd qp qq cd z lv fm x0 x1 x2 x3 y0 y1 y2 y3 c0 c1 c2 c3 (cj0 x0 x1 x2 x3 y0 y1 y2 y3) (cj1 x0 x1 x2 x3 y0 y1 y2 y3) (cj2 x0 x1 x2 x3 y0 y1 y2 y3) (cj3 x0 x1 x2 x3 y0 y1 y2 y3) rfl rfl rfl rfl _) (cw_V hC k_571 k_573 kp_31 k_6 k_574 ye_Mo_conjugate (by decide)) hP hD hK hE hS hA [0, 1, 2, 3] [4] (by decide) rfl rfl (by decide) (by decide) 0 (ci := 5) rfl rfl rfl rfl hl.1 rfl (Nat.le_of_ble_eq_true rfl) ⟨Nat.le_of_ble_eq_true rfl, Nat.le_of_ble_eq_true rfl⟩ d_Mo_along_1 (fun u1 H locs eu1 hP hD hS => ?_)
  have hP : va_P D classes [(qx, eL t.2.1 54 Wd), (o, .inr (5, [.int (iI cd), .int (iI z), .int (iI lv), .ref qT, .ref qC, .ref qF, .ref qY, .ref qZ, .ref qu, .ref qv, .ref qw, .ref qg, .ref qh, .ref qx, .ref qc, .ref qa, .ref qb, .ref qd, .int (iI fm), .ref qp, .ref qq])), (qu, eL t.2.1 4 (v4 x0 x1 x2 x3)), (qv, eL t.2.1 4 (v4 y0 y1 y2 y3)), (qc, eL t.2.1 4 (v4 (cj0 x0 x1 x2 x3 y0 y1 y2 y3) (cj1 x0 x1 x2 x3 y0 y1 y2 y3) (cj2 x0 x1 x2 x3 y0 y1 y2 y3) (cj3 x0 x1 x2 x3 y0 y1 y2 y3)))] H := hP
  have hD : va_D A [(qx, eL t.2.1 54 Wd), (o, .inr (5, [.int (iI cd), .int (iI z), .int (iI lv), .ref qT, .ref qC, .ref qF, .ref qY, .ref qZ, .ref qu, .ref qv, .ref qw, .ref qg, .ref qh, .ref qx, .ref qc, .ref qa, .ref qb, .ref qd, .int (iI fm), .ref qp, .ref qq])), (qu, eL t.2.1 4 (v4 x0 x1 x2 x3)), (qv, eL t.2.1 4 (v4 y0 y1 y2 y3)), (qc, eL t.2.1 4 (v4 (cj0 x0 x1 x2 x3 y0 y1 y2 y3) (cj1 x0 x1 x2 x3 y0 y1 y2 y3) (cj2 x0 x1 x2 x3 y0 y1 y2 y3) (cj3 x0 x1 x2 x3 y0 y1 y2 y3)))] := hD
  refine lv_aload_n hC.1 hC.2.1 d_Mo_along_4 rfl (lv_at hl 0 rfl) ?_
  refine z_ldc2 hC k_575 d_Mo_along_5 ?_
  refine lv_aload_n hC.1 hC.2.1 d_Mo_along_8 rfl (lv_at hl 0 rfl) ?_
  refine z_get (ci := 5) (C := R_Mo) (T := F_Mo) (N := 21) (v := .ref qc) hC in_Mo hK hP 1 rfl rfl 14 (by decide) k_467 rfl d_Mo_along_9 ?_
  refine z_iconst hC d_Mo_along_12 ?_
  refine z_lald hC hK hP 4 rfl (by decide) d_Mo_along_13 ?_
  refine z_topl (z := cj0 x0 x1 x2 x3 y0 y1 y2 y3) rfl ?_
  refine z_lmul hC d_Mo_along_14 ?_
  refine z_topl (z := 2 * cj0 x0 x1 x2 x3 y0 y1 y2 y3) (by omega) ?_
  refine lv_aload_n hC.1 hC.2.1 d_Mo_along_15 rfl (lv_at hl 0 rfl) ?_
  refine z_get (ci := 5) (C := R_Mo) (T := F_Mo) (N := 21) (v := .ref qc) hC in_Mo hK hP 1 rfl rfl 14 (by decide) k_467 rfl d_Mo_along_16 ?_
  refine z_iconst hC d_Mo_along_19 ?_
  refine z_lald hC hK hP 4 rfl (by decide) d_Mo_along_20 ?_
  refine z_topl (z := cj1 x0 x1 x2 x3 y0 y1 y2 y3) rfl ?_
  refine z_lsub hC d_Mo_along_21 ?_
  refine z_topl (z := 2 * cj0 x0 x1 x2 x3 y0 y1 y2 y3 - cj1 x0 x1 x2 x3 y0 y1 y2 y3) (by omega) ?_
  refine lv_aload_n hC.1 hC.2.1 d_Mo_along_22 rfl (lv_at hl 0 rfl) ?_
  refine z_get (ci := 5) (C := R_Mo) (T := F_Mo) (N := 21) (v := .ref qc) hC in_Mo hK hP 1 rfl rfl 14 (by decide) k_467 rfl d_Mo_along_23 ?_
  refine z_iconst hC d_Mo_along_26 ?_
  refine z_lald hC hK hP 4 rfl (by decide) d_Mo_along_27 ?_
  refine z_topl (z := cj1 x0 x1 x2 x3 y0 y1 y2 y3) rfl ?_
  refine lv_aload_n hC.1 hC.2.1 d_Mo_along_28 rfl (lv_at hl 0 rfl) ?_
  refine z_get (ci := 5) (C := R_Mo) (T := F_Mo) (N := 21) (v := .ref qc) hC in_Mo hK hP 1 rfl rfl 14 (by decide) k_467 rfl d_Mo_along_29 ?_
  refine z_iconst hC d_Mo_along_32 ?_
  refine z_lald hC hK hP 4 rfl (by decide) d_Mo_along_33 ?_
  refine z_topl (z := cj2 x0 x1 x2 x3 y0 y1 y2 y3) rfl ?_
  refine z_lsub hC d_Mo_along_34 ?_
  refine z_topl (z := cj1 x0 x1 x2 x3 y0 y1 y2 y3 - cj2 x0 x1 x2 x3 y0 y1 y2 y3) (by omega) ?_
  refine lv_aload_n hC.1 hC.2.1 d_Mo_along_35 rfl (lv_at hl 0 rfl) ?_
  refine z_get (ci := 5) (C := R_Mo) (T := F_Mo) (N := 21) (v := .ref qc) hC in_Mo hK hP 1 rfl rfl 14 (by decide) k_467 rfl d_Mo_along_36 ?_
  refine z_iconst hC d_Mo_along_39 ?_
  refine z_lald hC hK hP 4 rfl (by decide) d_Mo_along_40 ?_
  refine z_topl (z := cj3 x0 x1 x2 x3 y0 y1 y2 y3) rfl ?_
  refine z_lsub hC d_Mo_along_41 ?_
  refine z_topl (z := cj1 x0 x1 x2 x3 y0 y1 y2 y3 - cj2 x0 x1 x2 x3 y0 y1 y2 y3 - cj3 x0 x1 x2 x3 y0 y1 y2 y3) (by omega) ?_
  refine z_mVi (As := [.long (lI (2 * cj0 x0 x1 x2 x3 y0 y1 y2 y3 - cj1 x0 x1 x2 x3 y0 y1 y2 y3)), .long (lI (cj1 x0 x1 x2 x3 y0 y1 y2 y3 - cj2 x0 x1 x2 x3 y0 y1 y2 y3 - cj3 x0 x1 x2 x3 y0 y1 y2 y3))]) (rest := []) (wr := [(qu, eL t.2.1 4 (v4 x0 x1 x2 x3)), (qv, eL t.2.1 4 (v4 y0 y1 y2 y3)), (qc, eL t.2.1 4 (v4 (cj0 x0 x1 x2 x3 y0 y1 y2 y3) (cj1 x0 x1 x2 x3 y0 y1 y2 y3) (cj2 x0 x1 x2 x3 y0 y1 y2 y3) (cj3 x0 x1 x2 x3 y0 y1 y2 y3)))]) hC (c_Mo_sign l D t ts o qT qC qF qY qZ qu qv qw qg qh qx qc qa qb qd qp qq cd z lv fm Wd (2 * cj0 x0 x1 x2 x3 y0 y1 y2 y3 - cj1 x0 x1 x2 x3 y0 y1 y2 y3) (cj1 x0 x1 x2 x3 y0 y1 y2 y3 - cj2 x0 x1 x2 x3 y0 y1 y2 y3 - cj3 x0 x1 x2 x3 y0 y1 y2 y3) (by omega) (by omega) _) (cw_V hC k_577 k_579 kp_32 k_6 k_580 ye_Mo_sign (by decide)) hP hD hK hE hS hA [1, 0] [2, 3, 4] (by decide) rfl rfl (by decide) (by decide) 1 (ci := 5) rfl rfl rfl rfl hl.1 rfl (Nat.le_of_ble_eq_true rfl) ⟨Nat.le_of_ble_eq_true rfl, Nat.le_of_ble_eq_true rfl⟩ d_Mo_along_42 (fun u2 H locs eu2 hP hD hS => ?_)
  obtain ⟨u2r, u2X⟩ := u2
  dsimp only at eu2 hP hD ⊢
  have hP : va_P D classes [(qu, eL t.2.1 4 (v4 x0 x1 x2 x3)), (qv, eL t.2.1 4 (v4 y0 y1 y2 y3)), (qc, eL t.2.1 4 (v4 (cj0 x0 x1 x2 x3 y0 y1 y2 y3) (cj1 x0 x1 x2 x3 y0 y1 y2 y3) (cj2 x0 x1 x2 x3 y0 y1 y2 y3) (cj3 x0 x1 x2 x3 y0 y1 y2 y3))), (o, .inr (5, [.int (iI cd), .int (iI z), .int (iI lv), .ref qT, .ref qC, .ref qF, .ref qY, .ref qZ, .ref qu, .ref qv, .ref qw, .ref qg, .ref qh, .ref qx, .ref qc, .ref qa, .ref qb, .ref qd, .int (iI fm), .ref qp, .ref qq])), (qx, eL t.2.1 54 u2X)] H := hP
  have hD : va_D A [(qu, eL t.2.1 4 (v4 x0 x1 x2 x3)), (qv, eL t.2.1 4 (v4 y0 y1 y2 y3)), (qc, eL t.2.1 4 (v4 (cj0 x0 x1 x2 x3 y0 y1 y2 y3) (cj1 x0 x1 x2 x3 y0 y1 y2 y3) (cj2 x0 x1 x2 x3 y0 y1 y2 y3) (cj3 x0 x1 x2 x3 y0 y1 y2 y3))), (o, .inr (5, [.int (iI cd), .int (iI z), .int (iI lv), .ref qT, .ref qC, .ref qF, .ref qY, .ref qZ, .ref qu, .ref qv, .ref qw, .ref qg, .ref qh, .ref qx, .ref qc, .ref qa, .ref qb, .ref qd, .int (iI fm), .ref qp, .ref qq])), (qx, eL t.2.1 54 u2X)] := hD
  have hP9 := hP.sub (ws' := [(o, .inr (5, [.int (iI cd), .int (iI z), .int (iI lv), .ref qT, .ref qC, .ref qF, .ref qY, .ref qZ, .ref qu, .ref qv, .ref qw, .ref qg, .ref qh, .ref qx, .ref qc, .ref qa, .ref qb, .ref qd, .int (iI fm), .ref qp, .ref qq])), (qu, eL t.2.1 4 (v4 x0 x1 x2 x3)), (qv, eL t.2.1 4 (v4 y0 y1 y2 y3)), (qc, eL t.2.1 4 (v4 (cj0 x0 x1 x2 x3 y0 y1 y2 y3) (cj1 x0 x1 x2 x3 y0 y1 y2 y3) (cj2 x0 x1 x2 x3 y0 y1 y2 y3) (cj3 x0 x1 x2 x3 y0 y1 y2 y3))), (qx, eL t.2.1 54 u2X)]) [3, 0, 1, 2, 4] rfl
  have hD9 := hD.sub (ws' := [(o, .inr (5, [.int (iI cd), .int (iI z), .int (iI lv), .ref qT, .ref qC, .ref qF, .ref qY, .ref qZ, .ref qu, .ref qv, .ref qw, .ref qg, .ref qh, .ref qx, .ref qc, .ref qa, .ref qb, .ref qd, .int (iI fm), .ref qp, .ref qq])), (qu, eL t.2.1 4 (v4 x0 x1 x2 x3)), (qv, eL t.2.1 4 (v4 y0 y1 y2 y3)), (qc, eL t.2.1 4 (v4 (cj0 x0 x1 x2 x3 y0 y1 y2 y3) (cj1 x0 x1 x2 x3 y0 y1 y2 y3) (cj2 x0 x1 x2 x3 y0 y1 y2 y3) (cj3 x0 x1 x2 x3 y0 y1 y2 y3))), (qx, eL t.2.1 54 u2X)]) [3, 0, 1, 2, 4] (by decide) rfl
  exact retv (u2r, u2X) _ _ 45 _ _ d_Mo_along_45 ⟨rfl, (by rw [eu2]; unfold alZ; congr 1 <;> omega)⟩ hP9 hD9 hS
