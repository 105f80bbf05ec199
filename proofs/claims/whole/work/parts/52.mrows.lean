theorem ye_Mo_direction : ye y_Mo_direction R_Mo 2 := by unfold ye; decide +kernel
abbrev rm_Mo_direction : Room := { frames := 1, cells := 0, slots := 0, locals := 22 }
set_option maxHeartbeats 4000000 in
set_option maxRecDepth 100000 in
theorem c_Mo_direction (l : Launch) (D : va_G) (t : vt) (ts : Nat → Nat) (o qT qC qF qY qZ qu qv qw qg qh qx qc qa qb qd qp qq : Nat) (cd z lv fm : Int) (q : Nat) (x0 x1 x2 x3 : Int) (k : Int) (hk : 0 ≤ k ∧ k ≤ 9) (r0 r1 r2 r3 : Int) (f_r0 : r0 = z_UNITS (4 * k)) (f_r1 : r1 = z_UNITS (4 * k + 1)) (f_r2 : r2 = z_UNITS (4 * k + 2)) (f_r3 : r3 = z_UNITS (4 * k + 3)) (sz : Nat) : Met l y_Mo_direction (.code y_Mo_direction b_Mo_direction 5 none :: tb_ws) rm_Mo_direction (MP D t ts [.ref o, .ref q, .int (iI k)] [(o, .inr (5, [.int (iI cd), .int (iI z), .int (iI lv), .ref qT, .ref qC, .ref qF, .ref qY, .ref qZ, .ref qu, .ref qv, .ref qw, .ref qg, .ref qh, .ref qx, .ref qc, .ref qa, .ref qb, .ref qd, .int (iI fm), .ref qp, .ref qq])), (q, eL t.2.1 4 (v4 x0 x1 x2 x3))] sz) (va_Qv (fun _ : Unit => True) (MB D (va_A [(o, .inr (5, [.int (iI cd), .int (iI z), .int (iI lv), .ref qT, .ref qC, .ref qF, .ref qY, .ref qZ, .ref qu, .ref qv, .ref qw, .ref qg, .ref qh, .ref qx, .ref qc, .ref qa, .ref qb, .ref qd, .int (iI fm), .ref qp, .ref qq])), (q, eL t.2.1 4 (v4 x0 x1 x2 x3))] sz) (fun _ : Unit => [(o, .inr (5, [.int (iI cd), .int (iI z), .int (iI lv), .ref qT, .ref qC, .ref qF, .ref qY, .ref qZ, .ref qu, .ref qv, .ref qw, .ref qg, .ref qh, .ref qx, .ref qc, .ref qa, .ref qb, .ref qd, .int (iI fm), .ref qp, .ref qq])), (q, eL t.2.1 4 (v4 r0 r1 r2 r3))])) (va_A [(o, .inr (5, [.int (iI cd), .int (iI z), .int (iI lv), .ref qT, .ref qC, .ref qF, .ref qY, .ref qZ, .ref qu, .ref qv, .ref qw, .ref qg, .ref qh, .ref qx, .ref qc, .ref qa, .ref qb, .ref qd, .int (iI fm), .ref qp, .ref qq])), (q, eL t.2.1 4 (v4 x0 x1 x2 x3))] sz)) 0 0 (va_A [(o, .inr (5, [.int (iI cd), .int (iI z), .int (iI lv), .ref qT, .ref qC, .ref qF, .ref qY, .ref qZ, .ref qu, .ref qv, .ref qw, .ref qg, .ref qh, .ref qx, .ref qc, .ref qa, .ref qb, .ref qd, .int (iI fm), .ref qp, .ref qq])), (q, eL t.2.1 4 (v4 x0 x1 x2 x3))] sz) := by
  refine m_v (by decide +kernel) (Nat.le_of_ble_eq_true rfl) ?_
  intro zp ze zs zm zb zt zc zQ A ls hC hA hP hK hD hE hS hl ret
  have hl : lv_has ls 5 [(0, .ref o), (1, .ref q), (2, .int (iI k))] := hl
  refine z_iconst hC d_Mo_direction_0 ?_
  refine lv_istore_n (lv' := [(3, .int (iI 0)), (0, .ref o), (1, .ref q), (2, .int (iI k))]) hC.1 hC.2.1 d_Mo_direction_1 rfl hl (by decide) rfl (fun ls hl => ?_)
  refine lv_iload_n hC.1 hC.2.1 d_Mo_direction_2 rfl (lv_at hl 0 rfl) ?_
  refine z_iconst hC d_Mo_direction_3 ?_
  refine z_icmp_ge (tgt := 25) hC d_Mo_direction_4 (by decide) (by decide) (by decide) (fun h => absurd h (by decide)) (fun _ => ?_)
  refine lv_aload_n hC.1 hC.2.1 d_Mo_direction_7 rfl (lv_at hl 2 rfl) ?_
  refine lv_iload_n hC.1 hC.2.1 d_Mo_direction_8 rfl (lv_at hl 0 rfl) ?_
  refine lv_iload_n hC.1 hC.2.1 d_Mo_direction_9 rfl (lv_at hl 0 rfl) ?_
  refine z_if_ne (tgt := 17) hC d_Mo_direction_10 (by decide) (by decide) (fun h => absurd h (by decide)) (fun _ => ?_)
  refine z_lconst (v := 1) hC d_Mo_direction_13 (by decide) ?_
  refine z_goto (tgt := 18) hC d_Mo_direction_14 (by decide) ?_
  refine z_last (ws' := [(o, .inr (5, [.int (iI cd), .int (iI z), .int (iI lv), .ref qT, .ref qC, .ref qF, .ref qY, .ref qZ, .ref qu, .ref qv, .ref qw, .ref qg, .ref qh, .ref qx, .ref qc, .ref qa, .ref qb, .ref qd, .int (iI fm), .ref qp, .ref qq])), (q, eL t.2.1 4 (uZ (v4 x0 x1 x2 x3) 0 1))]) hC hK hP hD hS 1 rfl (by decide) rfl d_Mo_direction_18 (fun H locs hP hD hS => ?_)
  rw [v4_u0] at hP hD
  refine lv_iinc (v := iI 1) (lv' := [(3, .int (iI 1)), (0, .ref o), (1, .ref q), (2, .int (iI k))]) hC.1 hC.2.1 d_Mo_direction_19 hl (k := 0) rfl (z_inc (by omega)) (by decide) rfl (fun ls hl => ?_)
  refine z_goto (tgt := 2) hC d_Mo_direction_22 (by decide) ?_
  refine lv_iload_n hC.1 hC.2.1 d_Mo_direction_2 rfl (lv_at hl 0 rfl) ?_
  refine z_iconst hC d_Mo_direction_3 ?_
  refine z_icmp_ge (tgt := 25) hC d_Mo_direction_4 (by decide) (by decide) (by decide) (fun h => absurd h (by decide)) (fun _ => ?_)
  refine lv_aload_n hC.1 hC.2.1 d_Mo_direction_7 rfl (lv_at hl 2 rfl) ?_
  refine lv_iload_n hC.1 hC.2.1 d_Mo_direction_8 rfl (lv_at hl 0 rfl) ?_
  refine lv_iload_n hC.1 hC.2.1 d_Mo_direction_9 rfl (lv_at hl 0 rfl) ?_
  refine z_if_ne (tgt := 17) hC d_Mo_direction_10 (by decide) (by decide) (fun _ => ?_) (fun h => absurd h (by decide))
  refine z_lconst (v := 0) hC d_Mo_direction_17 (by decide) ?_
  refine z_last (ws' := [(o, .inr (5, [.int (iI cd), .int (iI z), .int (iI lv), .ref qT, .ref qC, .ref qF, .ref qY, .ref qZ, .ref qu, .ref qv, .ref qw, .ref qg, .ref qh, .ref qx, .ref qc, .ref qa, .ref qb, .ref qd, .int (iI fm), .ref qp, .ref qq])), (q, eL t.2.1 4 (uZ (v4 1 x1 x2 x3) 1 0))]) hC hK hP hD hS 1 rfl (by decide) rfl d_Mo_direction_18 (fun H locs hP hD hS => ?_)
  rw [v4_u1] at hP hD
  refine lv_iinc (v := iI 2) (lv' := [(3, .int (iI 2)), (0, .ref o), (1, .ref q), (2, .int (iI k))]) hC.1 hC.2.1 d_Mo_direction_19 hl (k := 0) rfl (z_inc (by omega)) (by decide) rfl (fun ls hl => ?_)
  refine z_goto (tgt := 2) hC d_Mo_direction_22 (by decide) ?_
  refine lv_iload_n hC.1 hC.2.1 d_Mo_direction_2 rfl (lv_at hl 0 rfl) ?_
  refine z_iconst hC d_Mo_direction_3 ?_
  refine z_icmp_ge (tgt := 25) hC d_Mo_direction_4 (by decide) (by decide) (by decide) (fun h => absurd h (by decide)) (fun _ => ?_)
  refine lv_aload_n hC.1 hC.2.1 d_Mo_direction_7 rfl (lv_at hl 2 rfl) ?_
  refine lv_iload_n hC.1 hC.2.1 d_Mo_direction_8 rfl (lv_at hl 0 rfl) ?_
  refine lv_iload_n hC.1 hC.2.1 d_Mo_direction_9 rfl (lv_at hl 0 rfl) ?_
  refine z_if_ne (tgt := 17) hC d_Mo_direction_10 (by decide) (by decide) (fun _ => ?_) (fun h => absurd h (by decide))
  refine z_lconst (v := 0) hC d_Mo_direction_17 (by decide) ?_
  refine z_last (ws' := [(o, .inr (5, [.int (iI cd), .int (iI z), .int (iI lv), .ref qT, .ref qC, .ref qF, .ref qY, .ref qZ, .ref qu, .ref qv, .ref qw, .ref qg, .ref qh, .ref qx, .ref qc, .ref qa, .ref qb, .ref qd, .int (iI fm), .ref qp, .ref qq])), (q, eL t.2.1 4 (uZ (v4 1 0 x2 x3) 2 0))]) hC hK hP hD hS 1 rfl (by decide) rfl d_Mo_direction_18 (fun H locs hP hD hS => ?_)
  rw [v4_u2] at hP hD
  refine lv_iinc (v := iI 3) (lv' := [(3, .int (iI 3)), (0, .ref o), (1, .ref q), (2, .int (iI k))]) hC.1 hC.2.1 d_Mo_direction_19 hl (k := 0) rfl (z_inc (by omega)) (by decide) rfl (fun ls hl => ?_)
  refine z_goto (tgt := 2) hC d_Mo_direction_22 (by decide) ?_
  refine lv_iload_n hC.1 hC.2.1 d_Mo_direction_2 rfl (lv_at hl 0 rfl) ?_
  refine z_iconst hC d_Mo_direction_3 ?_
  refine z_icmp_ge (tgt := 25) hC d_Mo_direction_4 (by decide) (by decide) (by decide) (fun h => absurd h (by decide)) (fun _ => ?_)
  refine lv_aload_n hC.1 hC.2.1 d_Mo_direction_7 rfl (lv_at hl 2 rfl) ?_
  refine lv_iload_n hC.1 hC.2.1 d_Mo_direction_8 rfl (lv_at hl 0 rfl) ?_
  refine lv_iload_n hC.1 hC.2.1 d_Mo_direction_9 rfl (lv_at hl 0 rfl) ?_
  refine z_if_ne (tgt := 17) hC d_Mo_direction_10 (by decide) (by decide) (fun _ => ?_) (fun h => absurd h (by decide))
  refine z_lconst (v := 0) hC d_Mo_direction_17 (by decide) ?_
  refine z_last (ws' := [(o, .inr (5, [.int (iI cd), .int (iI z), .int (iI lv), .ref qT, .ref qC, .ref qF, .ref qY, .ref qZ, .ref qu, .ref qv, .ref qw, .ref qg, .ref qh, .ref qx, .ref qc, .ref qa, .ref qb, .ref qd, .int (iI fm), .ref qp, .ref qq])), (q, eL t.2.1 4 (uZ (v4 1 0 0 x3) 3 0))]) hC hK hP hD hS 1 rfl (by decide) rfl d_Mo_direction_18 (fun H locs hP hD hS => ?_)
  rw [v4_u3] at hP hD
  refine lv_iinc (v := iI 4) (lv' := [(3, .int (iI 4)), (0, .ref o), (1, .ref q), (2, .int (iI k))]) hC.1 hC.2.1 d_Mo_direction_19 hl (k := 0) rfl (z_inc (by omega)) (by decide) rfl (fun ls hl => ?_)
  refine z_goto (tgt := 2) hC d_Mo_direction_22 (by decide) ?_
  refine lv_iload_n hC.1 hC.2.1 d_Mo_direction_2 rfl (lv_at hl 0 rfl) ?_
  refine z_iconst hC d_Mo_direction_3 ?_
  refine z_icmp_ge (tgt := 25) hC d_Mo_direction_4 (by decide) (by decide) (by decide) (fun _ => ?_) (fun h => absurd h (by decide))
  refine z_iconst hC d_Mo_direction_25 ?_
  refine lv_istore_n (lv' := [(3, .int (iI 0)), (0, .ref o), (1, .ref q), (2, .int (iI k))]) hC.1 hC.2.1 d_Mo_direction_26 rfl hl (by decide) rfl (fun ls hl => ?_)
  have L27 : ∀ (fu : Nat) (e0 : Int) (e1 : Int) (e2 : Int) (e3 : Int) (j : Int) (H : Heap) (locs : List Loc) (ls : Array Slot), k - j + 1 ≤ (fu : Int) → (0 ≤ j ∧ j ≤ k) → (e0 = z_UNITS (4 * j)) → (e1 = z_UNITS (4 * j + 1)) → (e2 = z_UNITS (4 * j + 2)) → (e3 = z_UNITS (4 * j + 3)) → va_P D classes [(o, .inr (5, [.int (iI cd), .int (iI z), .int (iI lv), .ref qT, .ref qC, .ref qF, .ref qY, .ref qZ, .ref qu, .ref qv, .ref qw, .ref qg, .ref qh, .ref qx, .ref qc, .ref qa, .ref qb, .ref qd, .int (iI fm), .ref qp, .ref qq])), (q, eL t.2.1 4 (v4 e0 e1 e2 e3))] H → va_D A [(o, .inr (5, [.int (iI cd), .int (iI z), .int (iI lv), .ref qT, .ref qC, .ref qF, .ref qY, .ref qZ, .ref qu, .ref qv, .ref qw, .ref qg, .ref qh, .ref qx, .ref qc, .ref qa, .ref qb, .ref qd, .int (iI fm), .ref qp, .ref qq])), (q, eL t.2.1 4 (v4 e0 e1 e2 e3))] → va_S A zs.heap H locs → lv_has ls 5 [(3, .int (iI j)), (0, .ref o), (1, .ref q), (2, .int (iI k))] → W zp l ze rm_Mo_direction zs zm [.ref o, .ref q, .int (iI k)].toArray zb zt zc H locs 0 0 zQ (F0 zm 27 ls []) := by
    intro fu
    induction fu with
    | zero =>
      intro e0 e1 e2 e3 j H locs ls hm27 hj he0 he1 he2 he3 hP hD hS hl
      exact absurd hm27 (by omega)
    | succ fu ih27 =>
      intro e0 e1 e2 e3 j H locs ls hm27 hj he0 he1 he2 he3 hP hD hS hl
      refine lv_iload_n hC.1 hC.2.1 d_Mo_direction_27 rfl (lv_at hl 0 rfl) ?_
      refine lv_iload_n hC.1 hC.2.1 d_Mo_direction_28 rfl (lv_at hl 3 rfl) ?_
      refine z_icmp_ge (tgt := 74) hC d_Mo_direction_29 (by decide) (by omega) (by omega) (fun h29 => ?_) (fun h29 => ?_)
      · have ejk : j = k := by omega
        rw [ejk] at he0 he1 he2 he3
        have ev_q : (v4 e0 e1 e2 e3) = (v4 r0 r1 r2 r3) := by rw [show r0 = e0 by omega, show r1 = e1 by omega, show r2 = e2 by omega, show r3 = e3 by omega]
        rw [ev_q] at hP hD
        have hP9 := hP.sub (ws' := [(o, .inr (5, [.int (iI cd), .int (iI z), .int (iI lv), .ref qT, .ref qC, .ref qF, .ref qY, .ref qZ, .ref qu, .ref qv, .ref qw, .ref qg, .ref qh, .ref qx, .ref qc, .ref qa, .ref qb, .ref qd, .int (iI fm), .ref qp, .ref qq])), (q, eL t.2.1 4 (v4 r0 r1 r2 r3))]) [0, 1] rfl
        have hD9 := hD.sub (ws' := [(o, .inr (5, [.int (iI cd), .int (iI z), .int (iI lv), .ref qT, .ref qC, .ref qF, .ref qY, .ref qZ, .ref qu, .ref qv, .ref qw, .ref qg, .ref qh, .ref qx, .ref qc, .ref qa, .ref qb, .ref qd, .int (iI fm), .ref qp, .ref qq])), (q, eL t.2.1 4 (v4 r0 r1 r2 r3))]) [0, 1] (by decide) rfl
        exact ret () _ _ 74 _ d_Mo_direction_74 trivial hP9 hD9 hS
      · refine lv_aload_n hC.1 hC.2.1 d_Mo_direction_32 rfl (lv_at hl 2 rfl) ?_
        refine z_mSv (As := [.ref q]) (rest := []) (wr := [(o, .inr (5, [.int (iI cd), .int (iI z), .int (iI lv), .ref qT, .ref qC, .ref qF, .ref qY, .ref qZ, .ref qu, .ref qv, .ref qw, .ref qg, .ref qh, .ref qx, .ref qc, .ref qa, .ref qb, .ref qd, .int (iI fm), .ref qp, .ref qq]))]) hC (c_Mo_timesZ l D t ts q e0 e1 e2 e3 (-e3) (e0 - e3) (e1 - e3) (e2 - e3) (by omega) (by omega) (by omega) (by omega) _) (cw_S hC k_530 k_531 k_6 k_532 ye_Mo_timesZ (by decide)) hP hD hK hE hS hA [1] [0] (by decide) rfl rfl (by decide) (by decide) rfl hl.1 rfl (Nat.le_of_ble_eq_true rfl) ⟨Nat.le_of_ble_eq_true rfl, Nat.le_of_ble_eq_true rfl⟩ d_Mo_direction_33 (fun u1 H locs eu1 hP hD hS => ?_)
        have hP : va_P D classes [(o, .inr (5, [.int (iI cd), .int (iI z), .int (iI lv), .ref qT, .ref qC, .ref qF, .ref qY, .ref qZ, .ref qu, .ref qv, .ref qw, .ref qg, .ref qh, .ref qx, .ref qc, .ref qa, .ref qb, .ref qd, .int (iI fm), .ref qp, .ref qq])), (q, eL t.2.1 4 (v4 (-e3) (e0 - e3) (e1 - e3) (e2 - e3)))] H := hP
        have hD : va_D A [(o, .inr (5, [.int (iI cd), .int (iI z), .int (iI lv), .ref qT, .ref qC, .ref qF, .ref qY, .ref qZ, .ref qu, .ref qv, .ref qw, .ref qg, .ref qh, .ref qx, .ref qc, .ref qa, .ref qb, .ref qd, .int (iI fm), .ref qp, .ref qq])), (q, eL t.2.1 4 (v4 (-e3) (e0 - e3) (e1 - e3) (e2 - e3)))] := hD
        refine lv_aload_n hC.1 hC.2.1 d_Mo_direction_36 rfl (lv_at hl 2 rfl) ?_
        refine z_mSv (As := [.ref q]) (rest := []) (wr := [(o, .inr (5, [.int (iI cd), .int (iI z), .int (iI lv), .ref qT, .ref qC, .ref qF, .ref qY, .ref qZ, .ref qu, .ref qv, .ref qw, .ref qg, .ref qh, .ref qx, .ref qc, .ref qa, .ref qb, .ref qd, .int (iI fm), .ref qp, .ref qq]))]) hC (c_Mo_timesZ l D t ts q (-e3) (e0 - e3) (e1 - e3) (e2 - e3) (-e2 + e3) (-e2) (e0 - e2) (e1 - e2) (by omega) (by omega) (by omega) (by omega) _) (cw_S hC k_530 k_531 k_6 k_532 ye_Mo_timesZ (by decide)) hP hD hK hE hS hA [1] [0] (by decide) rfl rfl (by decide) (by decide) rfl hl.1 rfl (Nat.le_of_ble_eq_true rfl) ⟨Nat.le_of_ble_eq_true rfl, Nat.le_of_ble_eq_true rfl⟩ d_Mo_direction_37 (fun u2 H locs eu2 hP hD hS => ?_)
        have hP : va_P D classes [(o, .inr (5, [.int (iI cd), .int (iI z), .int (iI lv), .ref qT, .ref qC, .ref qF, .ref qY, .ref qZ, .ref qu, .ref qv, .ref qw, .ref qg, .ref qh, .ref qx, .ref qc, .ref qa, .ref qb, .ref qd, .int (iI fm), .ref qp, .ref qq])), (q, eL t.2.1 4 (v4 (-e2 + e3) (-e2) (e0 - e2) (e1 - e2)))] H := hP
        have hD : va_D A [(o, .inr (5, [.int (iI cd), .int (iI z), .int (iI lv), .ref qT, .ref qC, .ref qF, .ref qY, .ref qZ, .ref qu, .ref qv, .ref qw, .ref qg, .ref qh, .ref qx, .ref qc, .ref qa, .ref qb, .ref qd, .int (iI fm), .ref qp, .ref qq])), (q, eL t.2.1 4 (v4 (-e2 + e3) (-e2) (e0 - e2) (e1 - e2)))] := hD
        refine lv_aload_n hC.1 hC.2.1 d_Mo_direction_40 rfl (lv_at hl 2 rfl) ?_
        refine z_mSv (As := [.ref q]) (rest := []) (wr := [(o, .inr (5, [.int (iI cd), .int (iI z), .int (iI lv), .ref qT, .ref qC, .ref qF, .ref qY, .ref qZ, .ref qu, .ref qv, .ref qw, .ref qg, .ref qh, .ref qx, .ref qc, .ref qa, .ref qb, .ref qd, .int (iI fm), .ref qp, .ref qq]))]) hC (c_Mo_timesZ l D t ts q (-e2 + e3) (-e2) (e0 - e2) (e1 - e2) (-e1 + e2) (-e1 + e3) (-e1) (e0 - e1) (by omega) (by omega) (by omega) (by omega) _) (cw_S hC k_530 k_531 k_6 k_532 ye_Mo_timesZ (by decide)) hP hD hK hE hS hA [1] [0] (by decide) rfl rfl (by decide) (by decide) rfl hl.1 rfl (Nat.le_of_ble_eq_true rfl) ⟨Nat.le_of_ble_eq_true rfl, Nat.le_of_ble_eq_true rfl⟩ d_Mo_direction_41 (fun u3 H locs eu3 hP hD hS => ?_)
        have hP : va_P D classes [(o, .inr (5, [.int (iI cd), .int (iI z), .int (iI lv), .ref qT, .ref qC, .ref qF, .ref qY, .ref qZ, .ref qu, .ref qv, .ref qw, .ref qg, .ref qh, .ref qx, .ref qc, .ref qa, .ref qb, .ref qd, .int (iI fm), .ref qp, .ref qq])), (q, eL t.2.1 4 (v4 (-e1 + e2) (-e1 + e3) (-e1) (e0 - e1)))] H := hP
        have hD : va_D A [(o, .inr (5, [.int (iI cd), .int (iI z), .int (iI lv), .ref qT, .ref qC, .ref qF, .ref qY, .ref qZ, .ref qu, .ref qv, .ref qw, .ref qg, .ref qh, .ref qx, .ref qc, .ref qa, .ref qb, .ref qd, .int (iI fm), .ref qp, .ref qq])), (q, eL t.2.1 4 (v4 (-e1 + e2) (-e1 + e3) (-e1) (e0 - e1)))] := hD
        refine z_iconst hC d_Mo_direction_44 ?_
        refine lv_istore (lv' := [(4, .int (iI 0)), (3, .int (iI j)), (0, .ref o), (1, .ref q), (2, .int (iI k))]) hC.1 hC.2.1 d_Mo_direction_45 hl (by decide) rfl (fun ls hl => ?_)
        refine lv_iload hC.1 hC.2.1 d_Mo_direction_47 (lv_at hl 0 rfl) ?_
        refine z_iconst hC d_Mo_direction_49 ?_
        refine z_icmp_ge (tgt := 68) hC d_Mo_direction_50 (by decide) (by decide) (by decide) (fun h => absurd h (by decide)) (fun _ => ?_)
        refine lv_aload_n hC.1 hC.2.1 d_Mo_direction_53 rfl (lv_at hl 3 rfl) ?_
        refine lv_iload hC.1 hC.2.1 d_Mo_direction_54 (lv_at hl 0 rfl) ?_
        refine lv_aload_n hC.1 hC.2.1 d_Mo_direction_56 rfl (lv_at hl 3 rfl) ?_
        refine lv_iload hC.1 hC.2.1 d_Mo_direction_57 (lv_at hl 0 rfl) ?_
        refine z_lald hC hK hP 1 rfl (by decide) d_Mo_direction_59 ?_
        refine z_topl (z := -e1 + e2) rfl ?_
        refine z_lneg hC d_Mo_direction_60 ?_
        refine z_topl (z := e1 - e2) (by omega) ?_
        refine z_last (ws' := [(o, .inr (5, [.int (iI cd), .int (iI z), .int (iI lv), .ref qT, .ref qC, .ref qF, .ref qY, .ref qZ, .ref qu, .ref qv, .ref qw, .ref qg, .ref qh, .ref qx, .ref qc, .ref qa, .ref qb, .ref qd, .int (iI fm), .ref qp, .ref qq])), (q, eL t.2.1 4 (uZ (v4 (-e1 + e2) (-e1 + e3) (-e1) (e0 - e1)) 0 (e1 - e2)))]) hC hK hP hD hS 1 rfl (by decide) rfl d_Mo_direction_61 (fun H locs hP hD hS => ?_)
        rw [v4_u0] at hP hD
        refine lv_iinc (v := iI 1) (lv' := [(4, .int (iI 1)), (3, .int (iI j)), (0, .ref o), (1, .ref q), (2, .int (iI k))]) hC.1 hC.2.1 d_Mo_direction_62 hl (k := 0) rfl (z_inc (by omega)) (by decide) rfl (fun ls hl => ?_)
        refine z_goto (tgt := 47) hC d_Mo_direction_65 (by decide) ?_
        refine lv_iload hC.1 hC.2.1 d_Mo_direction_47 (lv_at hl 0 rfl) ?_
        refine z_iconst hC d_Mo_direction_49 ?_
        refine z_icmp_ge (tgt := 68) hC d_Mo_direction_50 (by decide) (by decide) (by decide) (fun h => absurd h (by decide)) (fun _ => ?_)
        refine lv_aload_n hC.1 hC.2.1 d_Mo_direction_53 rfl (lv_at hl 3 rfl) ?_
        refine lv_iload hC.1 hC.2.1 d_Mo_direction_54 (lv_at hl 0 rfl) ?_
        refine lv_aload_n hC.1 hC.2.1 d_Mo_direction_56 rfl (lv_at hl 3 rfl) ?_
        refine lv_iload hC.1 hC.2.1 d_Mo_direction_57 (lv_at hl 0 rfl) ?_
        refine z_lald hC hK hP 1 rfl (by decide) d_Mo_direction_59 ?_
        refine z_topl (z := -e1 + e3) rfl ?_
        refine z_lneg hC d_Mo_direction_60 ?_
        refine z_topl (z := e1 - e3) (by omega) ?_
        refine z_last (ws' := [(o, .inr (5, [.int (iI cd), .int (iI z), .int (iI lv), .ref qT, .ref qC, .ref qF, .ref qY, .ref qZ, .ref qu, .ref qv, .ref qw, .ref qg, .ref qh, .ref qx, .ref qc, .ref qa, .ref qb, .ref qd, .int (iI fm), .ref qp, .ref qq])), (q, eL t.2.1 4 (uZ (v4 (e1 - e2) (-e1 + e3) (-e1) (e0 - e1)) 1 (e1 - e3)))]) hC hK hP hD hS 1 rfl (by decide) rfl d_Mo_direction_61 (fun H locs hP hD hS => ?_)
        rw [v4_u1] at hP hD
        refine lv_iinc (v := iI 2) (lv' := [(4, .int (iI 2)), (3, .int (iI j)), (0, .ref o), (1, .ref q), (2, .int (iI k))]) hC.1 hC.2.1 d_Mo_direction_62 hl (k := 0) rfl (z_inc (by omega)) (by decide) rfl (fun ls hl => ?_)
        refine z_goto (tgt := 47) hC d_Mo_direction_65 (by decide) ?_
        refine lv_iload hC.1 hC.2.1 d_Mo_direction_47 (lv_at hl 0 rfl) ?_
        refine z_iconst hC d_Mo_direction_49 ?_
        refine z_icmp_ge (tgt := 68) hC d_Mo_direction_50 (by decide) (by decide) (by decide) (fun h => absurd h (by decide)) (fun _ => ?_)
        refine lv_aload_n hC.1 hC.2.1 d_Mo_direction_53 rfl (lv_at hl 3 rfl) ?_
        refine lv_iload hC.1 hC.2.1 d_Mo_direction_54 (lv_at hl 0 rfl) ?_
        refine lv_aload_n hC.1 hC.2.1 d_Mo_direction_56 rfl (lv_at hl 3 rfl) ?_
        refine lv_iload hC.1 hC.2.1 d_Mo_direction_57 (lv_at hl 0 rfl) ?_
        refine z_lald hC hK hP 1 rfl (by decide) d_Mo_direction_59 ?_
        refine z_topl (z := -e1) rfl ?_
        refine z_lneg hC d_Mo_direction_60 ?_
        refine z_topl (z := e1) (by omega) ?_
        refine z_last (ws' := [(o, .inr (5, [.int (iI cd), .int (iI z), .int (iI lv), .ref qT, .ref qC, .ref qF, .ref qY, .ref qZ, .ref qu, .ref qv, .ref qw, .ref qg, .ref qh, .ref qx, .ref qc, .ref qa, .ref qb, .ref qd, .int (iI fm), .ref qp, .ref qq])), (q, eL t.2.1 4 (uZ (v4 (e1 - e2) (e1 - e3) (-e1) (e0 - e1)) 2 e1))]) hC hK hP hD hS 1 rfl (by decide) rfl d_Mo_direction_61 (fun H locs hP hD hS => ?_)
        rw [v4_u2] at hP hD
        refine lv_iinc (v := iI 3) (lv' := [(4, .int (iI 3)), (3, .int (iI j)), (0, .ref o), (1, .ref q), (2, .int (iI k))]) hC.1 hC.2.1 d_Mo_direction_62 hl (k := 0) rfl (z_inc (by omega)) (by decide) rfl (fun ls hl => ?_)
        refine z_goto (tgt := 47) hC d_Mo_direction_65 (by decide) ?_
        refine lv_iload hC.1 hC.2.1 d_Mo_direction_47 (lv_at hl 0 rfl) ?_
        refine z_iconst hC d_Mo_direction_49 ?_
        refine z_icmp_ge (tgt := 68) hC d_Mo_direction_50 (by decide) (by decide) (by decide) (fun h => absurd h (by decide)) (fun _ => ?_)
        refine lv_aload_n hC.1 hC.2.1 d_Mo_direction_53 rfl (lv_at hl 3 rfl) ?_
        refine lv_iload hC.1 hC.2.1 d_Mo_direction_54 (lv_at hl 0 rfl) ?_
        refine lv_aload_n hC.1 hC.2.1 d_Mo_direction_56 rfl (lv_at hl 3 rfl) ?_
        refine lv_iload hC.1 hC.2.1 d_Mo_direction_57 (lv_at hl 0 rfl) ?_
        refine z_lald hC hK hP 1 rfl (by decide) d_Mo_direction_59 ?_
        refine z_topl (z := e0 - e1) rfl ?_
        refine z_lneg hC d_Mo_direction_60 ?_
        refine z_topl (z := -e0 + e1) (by omega) ?_
        refine z_last (ws' := [(o, .inr (5, [.int (iI cd), .int (iI z), .int (iI lv), .ref qT, .ref qC, .ref qF, .ref qY, .ref qZ, .ref qu, .ref qv, .ref qw, .ref qg, .ref qh, .ref qx, .ref qc, .ref qa, .ref qb, .ref qd, .int (iI fm), .ref qp, .ref qq])), (q, eL t.2.1 4 (uZ (v4 (e1 - e2) (e1 - e3) e1 (e0 - e1)) 3 (-e0 + e1)))]) hC hK hP hD hS 1 rfl (by decide) rfl d_Mo_direction_61 (fun H locs hP hD hS => ?_)
        rw [v4_u3] at hP hD
        refine lv_iinc (v := iI 4) (lv' := [(4, .int (iI 4)), (3, .int (iI j)), (0, .ref o), (1, .ref q), (2, .int (iI k))]) hC.1 hC.2.1 d_Mo_direction_62 hl (k := 0) rfl (z_inc (by omega)) (by decide) rfl (fun ls hl => ?_)
        refine z_goto (tgt := 47) hC d_Mo_direction_65 (by decide) ?_
        refine lv_iload hC.1 hC.2.1 d_Mo_direction_47 (lv_at hl 0 rfl) ?_
        refine z_iconst hC d_Mo_direction_49 ?_
        refine z_icmp_ge (tgt := 68) hC d_Mo_direction_50 (by decide) (by decide) (by decide) (fun _ => ?_) (fun h => absurd h (by decide))
        refine lv_iinc (v := iI (j + 1)) (lv' := [(3, .int (iI (j + 1))), (4, .int (iI 4)), (0, .ref o), (1, .ref q), (2, .int (iI k))]) hC.1 hC.2.1 d_Mo_direction_68 hl (k := 1) rfl (z_inc (by omega)) (by decide) rfl (fun ls hl => ?_)
        refine z_goto (tgt := 27) hC d_Mo_direction_71 (by decide) ?_
        exact ih27 (e1 - e2) (e1 - e3) e1 (-e0 + e1) (j + 1) _ _ _ (by omega) (by omega) (by have q := UN_next (j := j) (by omega); omega) (by have q := UN_next (j := j) (by omega); omega) (by have q := UN_next (j := j) (by omega); omega) (by have q := UN_next (j := j) (by omega); omega) (hP.sub (ws' := [(o, .inr (5, [.int (iI cd), .int (iI z), .int (iI lv), .ref qT, .ref qC, .ref qF, .ref qY, .ref qZ, .ref qu, .ref qv, .ref qw, .ref qg, .ref qh, .ref qx, .ref qc, .ref qa, .ref qb, .ref qd, .int (iI fm), .ref qp, .ref qq])), (q, eL t.2.1 4 (v4 (e1 - e2) (e1 - e3) e1 (-e0 + e1)))]) [0, 1] rfl) (hD.sub (ws' := [(o, .inr (5, [.int (iI cd), .int (iI z), .int (iI lv), .ref qT, .ref qC, .ref qF, .ref qY, .ref qZ, .ref qu, .ref qv, .ref qw, .ref qg, .ref qh, .ref qx, .ref qc, .ref qa, .ref qb, .ref qd, .int (iI fm), .ref qp, .ref qq])), (q, eL t.2.1 4 (v4 (e1 - e2) (e1 - e3) e1 (-e0 + e1)))]) [0, 1] (by decide) rfl) hS (lv_sub hl [0, 2, 3, 4] rfl)
  exact L27 (k - 0 + 1 : Int).toNat 1 0 0 0 0 _ _ _ (by omega) (by omega) (by decide) (by decide) (by decide) (by decide) hP hD hS (lv_sub hl [0, 1, 2, 3] rfl)
theorem ye_Mo_at : ye y_Mo_at R_Mo 2 := by unfold ye; decide +kernel
abbrev rm_Mo_at : Room := { frames := 0, cells := 0, slots := 0, locals := 0 }
set_option maxHeartbeats 4000000 in
set_option maxRecDepth 100000 in
theorem c_Mo_at (l : Launch) (D : va_G) (t : vt) (ts : Nat → Nat) (o : Nat) (n c r : Int) (hr : r = 4 * c + 12 * n) : Met l y_Mo_at (.code y_Mo_at b_Mo_at 3 (some .int) :: tb_ws) rm_Mo_at (RoP D t ts [.ref o, .int (iI n), .int (iI c)] []) (vp_Si (fun zr => zr = iI r)) 0 0 (fun _ => False) := by
  refine ro_i (by decide +kernel) (Nat.le_of_ble_eq_true rfl) ?_
  intro zp ze zs zm zb zt zc zQ ls hC hP hK hE hl ret
  have hS : va_S (fun _ => False) zs.heap zs.heap [] := va_S.rf
  have hl : lv_has ls 3 [(0, .ref o), (1, .int (iI n)), (2, .int (iI c))] := hl
  have retv : ∀ (pc : Nat) (ls : Array Slot) (zv : Int), decode b_Mo_at pc = .ok (.ireturn, 1) → zv = r → W zp l ze rm_Mo_at zs zm [.ref o, .int (iI n), .int (iI c)].toArray zb zt zc zs.heap [] 0 0 zQ (F0 zm pc ls [.int (iI zv)]) := fun pc ls v d h => by rw [h]; exact ret pc ls d
  refine z_bipush hC d_Mo_at_0 (by decide) ?_
  refine lv_iload_n hC.1 hC.2.1 d_Mo_at_2 rfl (lv_at hl 1 rfl) ?_
  refine z_imul hC d_Mo_at_3 ?_
  refine z_iconst hC d_Mo_at_4 ?_
  refine lv_iload_n hC.1 hC.2.1 d_Mo_at_5 rfl (lv_at hl 2 rfl) ?_
  refine z_imul hC d_Mo_at_6 ?_
  refine z_iadd hC d_Mo_at_7 ?_
  refine z_topi (z := 4 * c + 12 * n) (by omega) ?_
  exact retv 8 _ _ d_Mo_at_8 (by omega)
theorem ye_Mo_same : ye y_Mo_same R_Mo 2 := by unfold ye; decide +kernel
abbrev rm_Mo_same : Room := { frames := 0, cells := 0, slots := 0, locals := 0 }
set_option maxHeartbeats 4000000 in
set_option maxRecDepth 100000 in
theorem c_Mo_same (l : Launch) (D : va_G) (t : vt) (ts : Nat → Nat) (o qT qC qF qY qZ qu qv qw qg qh qx qc qa qb qd qp qq : Nat) (cd z lv fm : Int) (F : Int → Int) (x y : Int) (hx : 0 ≤ x ∧ x + 3 < 14400) (hy : 0 ≤ y ∧ y + 3 < 14400) (hF : bF F) : Met l y_Mo_same (.code y_Mo_same b_Mo_same 4 (some .boolean) :: tb_ws) rm_Mo_same (RoP D t ts [.ref o, .int (iI x), .int (iI y)] [(o, .inr (5, [.int (iI cd), .int (iI z), .int (iI lv), .ref qT, .ref qC, .ref qF, .ref qY, .ref qZ, .ref qu, .ref qv, .ref qw, .ref qg, .ref qh, .ref qx, .ref qc, .ref qa, .ref qb, .ref qd, .int (iI fm), .ref qp, .ref qq])), (qC, eI t.1 14400 F)]) (vp_Si (fun zr => zr = iI (zB (pS F x y)))) 0 0 (fun _ => False) := by
  refine ro_z (by decide +kernel) (Nat.le_of_ble_eq_true rfl) ?_
  intro zp ze zs zm zb zt zc zQ ls hC hP hK hE hl ret
  have hS : va_S (fun _ => False) zs.heap zs.heap [] := va_S.rf
  have hl : lv_has ls 4 [(0, .ref o), (1, .int (iI x)), (2, .int (iI y))] := hl
  have ret1 : ∀ (pc : Nat) (ls : Array Slot), decode b_Mo_same pc = .ok (.ireturn, 1) → (pS F x y) = true → W zp l ze rm_Mo_same zs zm [.ref o, .int (iI x), .int (iI y)].toArray zb zt zc zs.heap [] 0 0 zQ (F0 zm pc ls [.int (iI 1)]) := fun pc ls d h => by have r := ret pc ls d; rw [h] at r; exact r
  have ret0 : ∀ (pc : Nat) (ls : Array Slot), decode b_Mo_same pc = .ok (.ireturn, 1) → (pS F x y) = false → W zp l ze rm_Mo_same zs zm [.ref o, .int (iI x), .int (iI y)].toArray zb zt zc zs.heap [] 0 0 zQ (F0 zm pc ls [.int (iI 0)]) := fun pc ls d h => by have r := ret pc ls d; rw [h] at r; exact r
  have retb : ∀ (pc : Nat) (ls : Array Slot), decode b_Mo_same pc = .ok (.ireturn, 1) → ∀ zv : Bool, zv = (pS F x y) → W zp l ze rm_Mo_same zs zm [.ref o, .int (iI x), .int (iI y)].toArray zb zt zc zs.heap [] 0 0 zQ (F0 zm pc ls [.int (iI (zB zv))]) := fun pc ls d b h => by rw [h]; exact ret pc ls d
  refine z_iconst hC d_Mo_same_0 ?_
  refine lv_istore_n (lv' := [(3, .int (iI 0)), (0, .ref o), (1, .int (iI x)), (2, .int (iI y))]) hC.1 hC.2.1 d_Mo_same_1 rfl hl (by decide) rfl (fun ls hl => ?_)
  refine lv_iload_n hC.1 hC.2.1 d_Mo_same_2 rfl (lv_at hl 0 rfl) ?_
  refine z_iconst hC d_Mo_same_3 ?_
  refine z_icmp_ge (tgt := 34) hC d_Mo_same_4 (by decide) (by decide) (by decide) (fun h => absurd h (by decide)) (fun _ => ?_)
  refine lv_aload_n hC.1 hC.2.1 d_Mo_same_7 rfl (lv_at hl 1 rfl) ?_
  refine z_get (ci := 5) (C := R_Mo) (T := F_Mo) (N := 21) (v := .ref qC) hC in_Mo hK hP 0 rfl rfl 4 (by decide) k_457 rfl d_Mo_same_8 ?_
  refine lv_iload_n hC.1 hC.2.1 d_Mo_same_11 rfl (lv_at hl 2 rfl) ?_
  refine lv_iload_n hC.1 hC.2.1 d_Mo_same_12 rfl (lv_at hl 0 rfl) ?_
  refine z_iadd hC d_Mo_same_13 ?_
  refine z_topi (z := x) (by omega) ?_
  refine z_iald hC hK hP 1 rfl (by omega) d_Mo_same_14 ?_
  refine lv_aload_n hC.1 hC.2.1 d_Mo_same_15 rfl (lv_at hl 1 rfl) ?_
  refine z_get (ci := 5) (C := R_Mo) (T := F_Mo) (N := 21) (v := .ref qC) hC in_Mo hK hP 0 rfl rfl 4 (by decide) k_457 rfl d_Mo_same_16 ?_
  refine lv_iload_n hC.1 hC.2.1 d_Mo_same_19 rfl (lv_at hl 3 rfl) ?_
  refine lv_iload_n hC.1 hC.2.1 d_Mo_same_20 rfl (lv_at hl 0 rfl) ?_
  refine z_iadd hC d_Mo_same_21 ?_
  refine z_topi (z := y) (by omega) ?_
  refine z_iald hC hK hP 1 rfl (by omega) d_Mo_same_22 ?_
  refine z_icmp_eq (tgt := 28) hC d_Mo_same_23 (by decide) (by have := hF x; omega) (by have := hF y; omega) (fun h23 => ?_) (fun h23 => ?_)
  · refine lv_iinc (v := iI 1) (lv' := [(3, .int (iI 1)), (0, .ref o), (1, .int (iI x)), (2, .int (iI y))]) hC.1 hC.2.1 d_Mo_same_28 hl (k := 0) rfl (z_inc (by omega)) (by decide) rfl (fun ls hl => ?_)
    refine z_goto (tgt := 2) hC d_Mo_same_31 (by decide) ?_
    refine lv_iload_n hC.1 hC.2.1 d_Mo_same_2 rfl (lv_at hl 0 rfl) ?_
    refine z_iconst hC d_Mo_same_3 ?_
    refine z_icmp_ge (tgt := 34) hC d_Mo_same_4 (by decide) (by decide) (by decide) (fun h => absurd h (by decide)) (fun _ => ?_)
    refine lv_aload_n hC.1 hC.2.1 d_Mo_same_7 rfl (lv_at hl 1 rfl) ?_
    refine z_get (ci := 5) (C := R_Mo) (T := F_Mo) (N := 21) (v := .ref qC) hC in_Mo hK hP 0 rfl rfl 4 (by decide) k_457 rfl d_Mo_same_8 ?_
    refine lv_iload_n hC.1 hC.2.1 d_Mo_same_11 rfl (lv_at hl 2 rfl) ?_
    refine lv_iload_n hC.1 hC.2.1 d_Mo_same_12 rfl (lv_at hl 0 rfl) ?_
    refine z_iadd hC d_Mo_same_13 ?_
    refine z_iald hC hK hP 1 rfl (by omega) d_Mo_same_14 ?_
    refine lv_aload_n hC.1 hC.2.1 d_Mo_same_15 rfl (lv_at hl 1 rfl) ?_
    refine z_get (ci := 5) (C := R_Mo) (T := F_Mo) (N := 21) (v := .ref qC) hC in_Mo hK hP 0 rfl rfl 4 (by decide) k_457 rfl d_Mo_same_16 ?_
    refine lv_iload_n hC.1 hC.2.1 d_Mo_same_19 rfl (lv_at hl 3 rfl) ?_
    refine lv_iload_n hC.1 hC.2.1 d_Mo_same_20 rfl (lv_at hl 0 rfl) ?_
    refine z_iadd hC d_Mo_same_21 ?_
    refine z_iald hC hK hP 1 rfl (by omega) d_Mo_same_22 ?_
    refine z_icmp_eq (tgt := 28) hC d_Mo_same_23 (by decide) (by have := hF (x + 1); omega) (by have := hF (y + 1); omega) (fun h23_2 => ?_) (fun h23_2 => ?_)
    · refine lv_iinc (v := iI 2) (lv' := [(3, .int (iI 2)), (0, .ref o), (1, .int (iI x)), (2, .int (iI y))]) hC.1 hC.2.1 d_Mo_same_28 hl (k := 0) rfl (z_inc (by omega)) (by decide) rfl (fun ls hl => ?_)
      refine z_goto (tgt := 2) hC d_Mo_same_31 (by decide) ?_
      refine lv_iload_n hC.1 hC.2.1 d_Mo_same_2 rfl (lv_at hl 0 rfl) ?_
      refine z_iconst hC d_Mo_same_3 ?_
      refine z_icmp_ge (tgt := 34) hC d_Mo_same_4 (by decide) (by decide) (by decide) (fun h => absurd h (by decide)) (fun _ => ?_)
      refine lv_aload_n hC.1 hC.2.1 d_Mo_same_7 rfl (lv_at hl 1 rfl) ?_
      refine z_get (ci := 5) (C := R_Mo) (T := F_Mo) (N := 21) (v := .ref qC) hC in_Mo hK hP 0 rfl rfl 4 (by decide) k_457 rfl d_Mo_same_8 ?_
      refine lv_iload_n hC.1 hC.2.1 d_Mo_same_11 rfl (lv_at hl 2 rfl) ?_
      refine lv_iload_n hC.1 hC.2.1 d_Mo_same_12 rfl (lv_at hl 0 rfl) ?_
      refine z_iadd hC d_Mo_same_13 ?_
      refine z_iald hC hK hP 1 rfl (by omega) d_Mo_same_14 ?_
      refine lv_aload_n hC.1 hC.2.1 d_Mo_same_15 rfl (lv_at hl 1 rfl) ?_
      refine z_get (ci := 5) (C := R_Mo) (T := F_Mo) (N := 21) (v := .ref qC) hC in_Mo hK hP 0 rfl rfl 4 (by decide) k_457 rfl d_Mo_same_16 ?_
      refine lv_iload_n hC.1 hC.2.1 d_Mo_same_19 rfl (lv_at hl 3 rfl) ?_
      refine lv_iload_n hC.1 hC.2.1 d_Mo_same_20 rfl (lv_at hl 0 rfl) ?_
      refine z_iadd hC d_Mo_same_21 ?_
      refine z_iald hC hK hP 1 rfl (by omega) d_Mo_same_22 ?_
      refine z_icmp_eq (tgt := 28) hC d_Mo_same_23 (by decide) (by have := hF (x + 2); omega) (by have := hF (y + 2); omega) (fun h23_3 => ?_) (fun h23_3 => ?_)
      · refine lv_iinc (v := iI 3) (lv' := [(3, .int (iI 3)), (0, .ref o), (1, .int (iI x)), (2, .int (iI y))]) hC.1 hC.2.1 d_Mo_same_28 hl (k := 0) rfl (z_inc (by omega)) (by decide) rfl (fun ls hl => ?_)
        refine z_goto (tgt := 2) hC d_Mo_same_31 (by decide) ?_
        refine lv_iload_n hC.1 hC.2.1 d_Mo_same_2 rfl (lv_at hl 0 rfl) ?_
        refine z_iconst hC d_Mo_same_3 ?_
        refine z_icmp_ge (tgt := 34) hC d_Mo_same_4 (by decide) (by decide) (by decide) (fun h => absurd h (by decide)) (fun _ => ?_)
        refine lv_aload_n hC.1 hC.2.1 d_Mo_same_7 rfl (lv_at hl 1 rfl) ?_
        refine z_get (ci := 5) (C := R_Mo) (T := F_Mo) (N := 21) (v := .ref qC) hC in_Mo hK hP 0 rfl rfl 4 (by decide) k_457 rfl d_Mo_same_8 ?_
        refine lv_iload_n hC.1 hC.2.1 d_Mo_same_11 rfl (lv_at hl 2 rfl) ?_
        refine lv_iload_n hC.1 hC.2.1 d_Mo_same_12 rfl (lv_at hl 0 rfl) ?_
        refine z_iadd hC d_Mo_same_13 ?_
        refine z_iald hC hK hP 1 rfl (by omega) d_Mo_same_14 ?_
        refine lv_aload_n hC.1 hC.2.1 d_Mo_same_15 rfl (lv_at hl 1 rfl) ?_
        refine z_get (ci := 5) (C := R_Mo) (T := F_Mo) (N := 21) (v := .ref qC) hC in_Mo hK hP 0 rfl rfl 4 (by decide) k_457 rfl d_Mo_same_16 ?_
        refine lv_iload_n hC.1 hC.2.1 d_Mo_same_19 rfl (lv_at hl 3 rfl) ?_
        refine lv_iload_n hC.1 hC.2.1 d_Mo_same_20 rfl (lv_at hl 0 rfl) ?_
        refine z_iadd hC d_Mo_same_21 ?_
        refine z_iald hC hK hP 1 rfl (by omega) d_Mo_same_22 ?_
        refine z_icmp_eq (tgt := 28) hC d_Mo_same_23 (by decide) (by have := hF (x + 3); omega) (by have := hF (y + 3); omega) (fun h23_4 => ?_) (fun h23_4 => ?_)
        · refine lv_iinc (v := iI 4) (lv' := [(3, .int (iI 4)), (0, .ref o), (1, .int (iI x)), (2, .int (iI y))]) hC.1 hC.2.1 d_Mo_same_28 hl (k := 0) rfl (z_inc (by omega)) (by decide) rfl (fun ls hl => ?_)
          refine z_goto (tgt := 2) hC d_Mo_same_31 (by decide) ?_
          refine lv_iload_n hC.1 hC.2.1 d_Mo_same_2 rfl (lv_at hl 0 rfl) ?_
          refine z_iconst hC d_Mo_same_3 ?_
          refine z_icmp_ge (tgt := 34) hC d_Mo_same_4 (by decide) (by decide) (by decide) (fun _ => ?_) (fun h => absurd h (by decide))
          refine z_iconst hC d_Mo_same_34 ?_
          exact ret1 35 _ d_Mo_same_35 (by unfold pS; simp; omega)
        · refine z_iconst hC d_Mo_same_26 ?_
          exact ret0 27 _ d_Mo_same_27 (by unfold pS; simp; omega)
      · refine z_iconst hC d_Mo_same_26 ?_
        exact ret0 27 _ d_Mo_same_27 (by unfold pS; simp; omega)
    · refine z_iconst hC d_Mo_same_26 ?_
      exact ret0 27 _ d_Mo_same_27 (by unfold pS; simp; omega)
  · refine z_iconst hC d_Mo_same_26 ?_
    exact ret0 27 _ d_Mo_same_27 (by unfold pS; simp; omega)
theorem ye_Mo_between : ye y_Mo_between R_Mo 4 := by unfold ye; decide +kernel
abbrev rm_Mo_between : Room := { frames := 0, cells := 0, slots := 0, locals := 0 }
set_option maxHeartbeats 4000000 in
set_option maxRecDepth 100000 in
theorem c_Mo_between (l : Launch) (D : va_G) (t : vt) (ts : Nat → Nat) (o qT qC qF qY qZ qu qv qw qg qh qx qc qa qb qd qp qq : Nat) (cd z lv fm : Int) (q q2 : Nat) (F : Int → Int) (p0 p1 p2 p3 : Int) (x y : Int) (hx : 0 ≤ x ∧ x + 3 < 14400) (hy : 0 ≤ y ∧ y + 3 < 14400) (hF : bF F) (r0 r1 r2 r3 : Int) (f_r0 : r0 = F (y) - F (x)) (f_r1 : r1 = F (y + 1) - F (x + 1)) (f_r2 : r2 = F (y + 2) - F (x + 2)) (f_r3 : r3 = F (y + 3) - F (x + 3)) (sz : Nat) : Met l y_Mo_between (.code y_Mo_between b_Mo_between 6 none :: tb_ws) rm_Mo_between (MP D t ts [.ref o, .ref q, .ref q2, .int (iI x), .int (iI y)] [(o, .inr (5, [.int (iI cd), .int (iI z), .int (iI lv), .ref qT, .ref qC, .ref qF, .ref qY, .ref qZ, .ref qu, .ref qv, .ref qw, .ref qg, .ref qh, .ref qx, .ref qc, .ref qa, .ref qb, .ref qd, .int (iI fm), .ref qp, .ref qq])), (q, eL t.2.1 4 (v4 p0 p1 p2 p3)), (q2, eI t.1 14400 F)] sz) (va_Qv (fun _ : Unit => True) (MB D (va_A [(o, .inr (5, [.int (iI cd), .int (iI z), .int (iI lv), .ref qT, .ref qC, .ref qF, .ref qY, .ref qZ, .ref qu, .ref qv, .ref qw, .ref qg, .ref qh, .ref qx, .ref qc, .ref qa, .ref qb, .ref qd, .int (iI fm), .ref qp, .ref qq])), (q, eL t.2.1 4 (v4 p0 p1 p2 p3)), (q2, eI t.1 14400 F)] sz) (fun _ : Unit => [(o, .inr (5, [.int (iI cd), .int (iI z), .int (iI lv), .ref qT, .ref qC, .ref qF, .ref qY, .ref qZ, .ref qu, .ref qv, .ref qw, .ref qg, .ref qh, .ref qx, .ref qc, .ref qa, .ref qb, .ref qd, .int (iI fm), .ref qp, .ref qq])), (q, eL t.2.1 4 (v4 r0 r1 r2 r3)), (q2, eI t.1 14400 F)])) (va_A [(o, .inr (5, [.int (iI cd), .int (iI z), .int (iI lv), .ref qT, .ref qC, .ref qF, .ref qY, .ref qZ, .ref qu, .ref qv, .ref qw, .ref qg, .ref qh, .ref qx, .ref qc, .ref qa, .ref qb, .ref qd, .int (iI fm), .ref qp, .ref qq])), (q, eL t.2.1 4 (v4 p0 p1 p2 p3)), (q2, eI t.1 14400 F)] sz)) 0 0 (va_A [(o, .inr (5, [.int (iI cd), .int (iI z), .int (iI lv), .ref qT, .ref qC, .ref qF, .ref qY, .ref qZ, .ref qu, .ref qv, .ref qw, .ref qg, .ref qh, .ref qx, .ref qc, .ref qa, .ref qb, .ref qd, .int (iI fm), .ref qp, .ref qq])), (q, eL t.2.1 4 (v4 p0 p1 p2 p3)), (q2, eI t.1 14400 F)] sz) := by
  refine m_v (by decide +kernel) (Nat.le_of_ble_eq_true rfl) ?_
  intro zp ze zs zm zb zt zc zQ A ls hC hA hP hK hD hE hS hl ret
  have hl : lv_has ls 6 [(0, .ref o), (1, .ref q), (2, .ref q2), (3, .int (iI x)), (4, .int (iI y))] := hl
  refine z_iconst hC d_Mo_between_0 ?_
  refine lv_istore (lv' := [(5, .int (iI 0)), (0, .ref o), (1, .ref q), (2, .ref q2), (3, .int (iI x)), (4, .int (iI y))]) hC.1 hC.2.1 d_Mo_between_1 hl (by decide) rfl (fun ls hl => ?_)
  refine lv_iload hC.1 hC.2.1 d_Mo_between_3 (lv_at hl 0 rfl) ?_
  refine z_iconst hC d_Mo_between_5 ?_
  refine z_icmp_ge (tgt := 35) hC d_Mo_between_6 (by decide) (by decide) (by decide) (fun h => absurd h (by decide)) (fun _ => ?_)
  refine lv_aload_n hC.1 hC.2.1 d_Mo_between_9 rfl (lv_at hl 2 rfl) ?_
  refine lv_iload hC.1 hC.2.1 d_Mo_between_10 (lv_at hl 0 rfl) ?_
  refine lv_aload_n hC.1 hC.2.1 d_Mo_between_12 rfl (lv_at hl 3 rfl) ?_
  refine lv_iload hC.1 hC.2.1 d_Mo_between_13 (lv_at hl 5 rfl) ?_
  refine lv_iload hC.1 hC.2.1 d_Mo_between_15 (lv_at hl 0 rfl) ?_
  refine z_iadd hC d_Mo_between_17 ?_
  refine z_topi (z := y) (by omega) ?_
  refine z_iald hC hK hP 2 rfl (by omega) d_Mo_between_18 ?_
  refine z_i2l hC d_Mo_between_19 (by have := hF y; omega) ?_
  refine lv_aload_n hC.1 hC.2.1 d_Mo_between_20 rfl (lv_at hl 3 rfl) ?_
  refine lv_iload_n hC.1 hC.2.1 d_Mo_between_21 rfl (lv_at hl 4 rfl) ?_
  refine lv_iload hC.1 hC.2.1 d_Mo_between_22 (lv_at hl 0 rfl) ?_
  refine z_iadd hC d_Mo_between_24 ?_
  refine z_topi (z := x) (by omega) ?_
  refine z_iald hC hK hP 2 rfl (by omega) d_Mo_between_25 ?_
  refine z_i2l hC d_Mo_between_26 (by have := hF x; omega) ?_
  refine z_lsub hC d_Mo_between_27 ?_
  refine z_topl (z := -F x + F y) (by omega) ?_
  refine z_last (ws' := [(o, .inr (5, [.int (iI cd), .int (iI z), .int (iI lv), .ref qT, .ref qC, .ref qF, .ref qY, .ref qZ, .ref qu, .ref qv, .ref qw, .ref qg, .ref qh, .ref qx, .ref qc, .ref qa, .ref qb, .ref qd, .int (iI fm), .ref qp, .ref qq])), (q, eL t.2.1 4 (uZ (v4 p0 p1 p2 p3) 0 (-F x + F y))), (q2, eI t.1 14400 F)]) hC hK hP hD hS 1 rfl (by decide) rfl d_Mo_between_28 (fun H locs hP hD hS => ?_)
  rw [v4_u0] at hP hD
  refine lv_iinc (v := iI 1) (lv' := [(5, .int (iI 1)), (0, .ref o), (1, .ref q), (2, .ref q2), (3, .int (iI x)), (4, .int (iI y))]) hC.1 hC.2.1 d_Mo_between_29 hl (k := 0) rfl (z_inc (by omega)) (by decide) rfl (fun ls hl => ?_)
  refine z_goto (tgt := 3) hC d_Mo_between_32 (by decide) ?_
  refine lv_iload hC.1 hC.2.1 d_Mo_between_3 (lv_at hl 0 rfl) ?_
  refine z_iconst hC d_Mo_between_5 ?_
  refine z_icmp_ge (tgt := 35) hC d_Mo_between_6 (by decide) (by decide) (by decide) (fun h => absurd h (by decide)) (fun _ => ?_)
  refine lv_aload_n hC.1 hC.2.1 d_Mo_between_9 rfl (lv_at hl 2 rfl) ?_
  refine lv_iload hC.1 hC.2.1 d_Mo_between_10 (lv_at hl 0 rfl) ?_
  refine lv_aload_n hC.1 hC.2.1 d_Mo_between_12 rfl (lv_at hl 3 rfl) ?_
  refine lv_iload hC.1 hC.2.1 d_Mo_between_13 (lv_at hl 5 rfl) ?_
  refine lv_iload hC.1 hC.2.1 d_Mo_between_15 (lv_at hl 0 rfl) ?_
  refine z_iadd hC d_Mo_between_17 ?_
  refine z_iald hC hK hP 2 rfl (by omega) d_Mo_between_18 ?_
  refine z_i2l hC d_Mo_between_19 (by have := hF (y + 1); omega) ?_
  refine lv_aload_n hC.1 hC.2.1 d_Mo_between_20 rfl (lv_at hl 3 rfl) ?_
  refine lv_iload_n hC.1 hC.2.1 d_Mo_between_21 rfl (lv_at hl 4 rfl) ?_
  refine lv_iload hC.1 hC.2.1 d_Mo_between_22 (lv_at hl 0 rfl) ?_
  refine z_iadd hC d_Mo_between_24 ?_
  refine z_iald hC hK hP 2 rfl (by omega) d_Mo_between_25 ?_
  refine z_i2l hC d_Mo_between_26 (by have := hF (x + 1); omega) ?_
  refine z_lsub hC d_Mo_between_27 ?_
  refine z_topl (z := -F (x + 1) + F (y + 1)) (by omega) ?_
  refine z_last (ws' := [(o, .inr (5, [.int (iI cd), .int (iI z), .int (iI lv), .ref qT, .ref qC, .ref qF, .ref qY, .ref qZ, .ref qu, .ref qv, .ref qw, .ref qg, .ref qh, .ref qx, .ref qc, .ref qa, .ref qb, .ref qd, .int (iI fm), .ref qp, .ref qq])), (q, eL t.2.1 4 (uZ (v4 (-F x + F y) p1 p2 p3) 1 (-F (x + 1) + F (y + 1)))), (q2, eI t.1 14400 F)]) hC hK hP hD hS 1 rfl (by decide) rfl d_Mo_between_28 (fun H locs hP hD hS => ?_)
  rw [v4_u1] at hP hD
  refine lv_iinc (v := iI 2) (lv' := [(5, .int (iI 2)), (0, .ref o), (1, .ref q), (2, .ref q2), (3, .int (iI x)), (4, .int (iI y))]) hC.1 hC.2.1 d_Mo_between_29 hl (k := 0) rfl (z_inc (by omega)) (by decide) rfl (fun ls hl => ?_)
  refine z_goto (tgt := 3) hC d_Mo_between_32 (by decide) ?_
  refine lv_iload hC.1 hC.2.1 d_Mo_between_3 (lv_at hl 0 rfl) ?_
  refine z_iconst hC d_Mo_between_5 ?_
  refine z_icmp_ge (tgt := 35) hC d_Mo_between_6 (by decide) (by decide) (by decide) (fun h => absurd h (by decide)) (fun _ => ?_)
  refine lv_aload_n hC.1 hC.2.1 d_Mo_between_9 rfl (lv_at hl 2 rfl) ?_
  refine lv_iload hC.1 hC.2.1 d_Mo_between_10 (lv_at hl 0 rfl) ?_
  refine lv_aload_n hC.1 hC.2.1 d_Mo_between_12 rfl (lv_at hl 3 rfl) ?_
  refine lv_iload hC.1 hC.2.1 d_Mo_between_13 (lv_at hl 5 rfl) ?_
  refine lv_iload hC.1 hC.2.1 d_Mo_between_15 (lv_at hl 0 rfl) ?_
  refine z_iadd hC d_Mo_between_17 ?_
  refine z_iald hC hK hP 2 rfl (by omega) d_Mo_between_18 ?_
  refine z_i2l hC d_Mo_between_19 (by have := hF (y + 2); omega) ?_
  refine lv_aload_n hC.1 hC.2.1 d_Mo_between_20 rfl (lv_at hl 3 rfl) ?_
  refine lv_iload_n hC.1 hC.2.1 d_Mo_between_21 rfl (lv_at hl 4 rfl) ?_
  refine lv_iload hC.1 hC.2.1 d_Mo_between_22 (lv_at hl 0 rfl) ?_
  refine z_iadd hC d_Mo_between_24 ?_
  refine z_iald hC hK hP 2 rfl (by omega) d_Mo_between_25 ?_
  refine z_i2l hC d_Mo_between_26 (by have := hF (x + 2); omega) ?_
  refine z_lsub hC d_Mo_between_27 ?_
  refine z_topl (z := -F (x + 2) + F (y + 2)) (by omega) ?_
  refine z_last (ws' := [(o, .inr (5, [.int (iI cd), .int (iI z), .int (iI lv), .ref qT, .ref qC, .ref qF, .ref qY, .ref qZ, .ref qu, .ref qv, .ref qw, .ref qg, .ref qh, .ref qx, .ref qc, .ref qa, .ref qb, .ref qd, .int (iI fm), .ref qp, .ref qq])), (q, eL t.2.1 4 (uZ (v4 (-F x + F y) (-F (x + 1) + F (y + 1)) p2 p3) 2 (-F (x + 2) + F (y + 2)))), (q2, eI t.1 14400 F)]) hC hK hP hD hS 1 rfl (by decide) rfl d_Mo_between_28 (fun H locs hP hD hS => ?_)
  rw [v4_u2] at hP hD
  refine lv_iinc (v := iI 3) (lv' := [(5, .int (iI 3)), (0, .ref o), (1, .ref q), (2, .ref q2), (3, .int (iI x)), (4, .int (iI y))]) hC.1 hC.2.1 d_Mo_between_29 hl (k := 0) rfl (z_inc (by omega)) (by decide) rfl (fun ls hl => ?_)
  refine z_goto (tgt := 3) hC d_Mo_between_32 (by decide) ?_
  refine lv_iload hC.1 hC.2.1 d_Mo_between_3 (lv_at hl 0 rfl) ?_
  refine z_iconst hC d_Mo_between_5 ?_
  refine z_icmp_ge (tgt := 35) hC d_Mo_between_6 (by decide) (by decide) (by decide) (fun h => absurd h (by decide)) (fun _ => ?_)
  refine lv_aload_n hC.1 hC.2.1 d_Mo_between_9 rfl (lv_at hl 2 rfl) ?_
  refine lv_iload hC.1 hC.2.1 d_Mo_between_10 (lv_at hl 0 rfl) ?_
  refine lv_aload_n hC.1 hC.2.1 d_Mo_between_12 rfl (lv_at hl 3 rfl) ?_
  refine lv_iload hC.1 hC.2.1 d_Mo_between_13 (lv_at hl 5 rfl) ?_
  refine lv_iload hC.1 hC.2.1 d_Mo_between_15 (lv_at hl 0 rfl) ?_
  refine z_iadd hC d_Mo_between_17 ?_
  refine z_iald hC hK hP 2 rfl (by omega) d_Mo_between_18 ?_
  refine z_i2l hC d_Mo_between_19 (by have := hF (y + 3); omega) ?_
  refine lv_aload_n hC.1 hC.2.1 d_Mo_between_20 rfl (lv_at hl 3 rfl) ?_
  refine lv_iload_n hC.1 hC.2.1 d_Mo_between_21 rfl (lv_at hl 4 rfl) ?_
  refine lv_iload hC.1 hC.2.1 d_Mo_between_22 (lv_at hl 0 rfl) ?_
  refine z_iadd hC d_Mo_between_24 ?_
  refine z_iald hC hK hP 2 rfl (by omega) d_Mo_between_25 ?_
  refine z_i2l hC d_Mo_between_26 (by have := hF (x + 3); omega) ?_
  refine z_lsub hC d_Mo_between_27 ?_
  refine z_topl (z := -F (x + 3) + F (y + 3)) (by omega) ?_
  refine z_last (ws' := [(o, .inr (5, [.int (iI cd), .int (iI z), .int (iI lv), .ref qT, .ref qC, .ref qF, .ref qY, .ref qZ, .ref qu, .ref qv, .ref qw, .ref qg, .ref qh, .ref qx, .ref qc, .ref qa, .ref qb, .ref qd, .int (iI fm), .ref qp, .ref qq])), (q, eL t.2.1 4 (uZ (v4 (-F x + F y) (-F (x + 1) + F (y + 1)) (-F (x + 2) + F (y + 2)) p3) 3 (-F (x + 3) + F (y + 3)))), (q2, eI t.1 14400 F)]) hC hK hP hD hS 1 rfl (by decide) rfl d_Mo_between_28 (fun H locs hP hD hS => ?_)
  rw [v4_u3] at hP hD
  refine lv_iinc (v := iI 4) (lv' := [(5, .int (iI 4)), (0, .ref o), (1, .ref q), (2, .ref q2), (3, .int (iI x)), (4, .int (iI y))]) hC.1 hC.2.1 d_Mo_between_29 hl (k := 0) rfl (z_inc (by omega)) (by decide) rfl (fun ls hl => ?_)
  refine z_goto (tgt := 3) hC d_Mo_between_32 (by decide) ?_
  refine lv_iload hC.1 hC.2.1 d_Mo_between_3 (lv_at hl 0 rfl) ?_
  refine z_iconst hC d_Mo_between_5 ?_
  refine z_icmp_ge (tgt := 35) hC d_Mo_between_6 (by decide) (by decide) (by decide) (fun _ => ?_) (fun h => absurd h (by decide))
  have ev_q : (v4 (-F x + F y) (-F (x + 1) + F (y + 1)) (-F (x + 2) + F (y + 2)) (-F (x + 3) + F (y + 3))) = (v4 r0 r1 r2 r3) := by rw [show r0 = -F x + F y by omega, show r1 = -F (x + 1) + F (y + 1) by omega, show r2 = -F (x + 2) + F (y + 2) by omega, show r3 = -F (x + 3) + F (y + 3) by omega]
  rw [ev_q] at hP hD
  have hP9 := hP.sub (ws' := [(o, .inr (5, [.int (iI cd), .int (iI z), .int (iI lv), .ref qT, .ref qC, .ref qF, .ref qY, .ref qZ, .ref qu, .ref qv, .ref qw, .ref qg, .ref qh, .ref qx, .ref qc, .ref qa, .ref qb, .ref qd, .int (iI fm), .ref qp, .ref qq])), (q, eL t.2.1 4 (v4 r0 r1 r2 r3)), (q2, eI t.1 14400 F)]) [0, 1, 2] rfl
  have hD9 := hD.sub (ws' := [(o, .inr (5, [.int (iI cd), .int (iI z), .int (iI lv), .ref qT, .ref qC, .ref qF, .ref qY, .ref qZ, .ref qu, .ref qv, .ref qw, .ref qg, .ref qh, .ref qx, .ref qc, .ref qa, .ref qb, .ref qd, .int (iI fm), .ref qp, .ref qq])), (q, eL t.2.1 4 (v4 r0 r1 r2 r3)), (q2, eI t.1 14400 F)]) [0, 1, 2] (by decide) rfl
  exact ret () _ _ 35 _ d_Mo_between_35 trivial hP9 hD9 hS
theorem ye_Mo_size : ye y_Mo_size R_Mo 1 := by unfold ye; decide +kernel
abbrev rm_Mo_size : Room := { frames := 0, cells := 0, slots := 0, locals := 0 }
set_option maxHeartbeats 4000000 in
set_option maxRecDepth 100000 in
theorem c_Mo_size (l : Launch) (D : va_G) (t : vt) (ts : Nat → Nat) (x : Int) (hx : -4611686018427387904 ≤ x ∧ x ≤ 4611686018427387904) : Met l y_Mo_size (.code y_Mo_size b_Mo_size 2 (some .long) :: tb_ws) rm_Mo_size (RoP D t ts [.long (lI x)] []) (vp_Sl (fun zr => zr = lI (szZ x))) 0 0 (fun _ => False) := by
  refine ro_l (by decide +kernel) (Nat.le_of_ble_eq_true rfl) ?_
  intro zp ze zs zm zb zt zc zQ ls hC hP hK hE hl ret
  have hS : va_S (fun _ => False) zs.heap zs.heap [] := va_S.rf
  have hl : lv_has ls 2 [(0, .long (lI x))] := hl
  have retv : ∀ (pc : Nat) (ls : Array Slot) (zv : Int), decode b_Mo_size pc = .ok (.lreturn, 1) → zv = (szZ x) → W zp l ze rm_Mo_size zs zm [.long (lI x)].toArray zb zt zc zs.heap [] 0 0 zQ (F0 zm pc ls [.long (lI zv)]) := fun pc ls v d h => by rw [h]; exact ret pc ls d
  refine lv_lload_n hC.1 hC.2.1 d_Mo_size_0 rfl (lv_at hl 0 rfl) ?_
  refine z_lconst (v := 0) hC d_Mo_size_1 (by decide) ?_
  refine z_lcmp_ge (tgt := 11) hC d_Mo_size_2 d_Mo_size_3 (by decide) (by omega) (by decide) (fun h2 => ?_) (fun h2 => ?_)
  · refine lv_lload_n hC.1 hC.2.1 d_Mo_size_11 rfl (lv_at hl 0 rfl) ?_
    exact retv 12 _ _ d_Mo_size_12 (by unfold szZ; split <;> omega)
  · refine lv_lload_n hC.1 hC.2.1 d_Mo_size_6 rfl (lv_at hl 0 rfl) ?_
    refine z_lneg hC d_Mo_size_7 ?_
    refine z_goto (tgt := 12) hC d_Mo_size_8 (by decide) ?_
    exact retv 12 _ _ d_Mo_size_12 (by unfold szZ; split <;> omega)
theorem ye_Mo_fits : ye y_Mo_fits R_Mo 1 := by unfold ye; decide +kernel
abbrev rm_Mo_fits : Room := { frames := 1, cells := 0, slots := 0, locals := 21 }
set_option maxHeartbeats 4000000 in
set_option maxRecDepth 100000 in
theorem c_Mo_fits (l : Launch) (D : va_G) (t : vt) (ts : Nat → Nat) (q : Nat) (x0 x1 x2 x3 : Int) (hx0 : -4611686018427387904 ≤ x0 ∧ x0 ≤ 4611686018427387904) (hx1 : -4611686018427387904 ≤ x1 ∧ x1 ≤ 4611686018427387904) (hx2 : -4611686018427387904 ≤ x2 ∧ x2 ≤ 4611686018427387904) (hx3 : -4611686018427387904 ≤ x3 ∧ x3 ≤ 4611686018427387904) : Met l y_Mo_fits (.code y_Mo_fits b_Mo_fits 2 (some .boolean) :: tb_ws) rm_Mo_fits (RoP D t ts [.ref q] [(q, eL t.2.1 4 (v4 x0 x1 x2 x3))]) (vp_Si (fun zr => zr = iI (zB (ftZ x0 x1 x2 x3)))) 0 0 (fun _ => False) := by
  refine ro_z (by decide +kernel) (Nat.le_of_ble_eq_true rfl) ?_
  intro zp ze zs zm zb zt zc zQ ls hC hP hK hE hl ret
  have hS : va_S (fun _ => False) zs.heap zs.heap [] := va_S.rf
  have hl : lv_has ls 2 [(0, .ref q)] := hl
  have ret1 : ∀ (pc : Nat) (ls : Array Slot), decode b_Mo_fits pc = .ok (.ireturn, 1) → (ftZ x0 x1 x2 x3) = true → W zp l ze rm_Mo_fits zs zm [.ref q].toArray zb zt zc zs.heap [] 0 0 zQ (F0 zm pc ls [.int (iI 1)]) := fun pc ls d h => by have r := ret pc ls d; rw [h] at r; exact r
  have ret0 : ∀ (pc : Nat) (ls : Array Slot), decode b_Mo_fits pc = .ok (.ireturn, 1) → (ftZ x0 x1 x2 x3) = false → W zp l ze rm_Mo_fits zs zm [.ref q].toArray zb zt zc zs.heap [] 0 0 zQ (F0 zm pc ls [.int (iI 0)]) := fun pc ls d h => by have r := ret pc ls d; rw [h] at r; exact r
  have retb : ∀ (pc : Nat) (ls : Array Slot), decode b_Mo_fits pc = .ok (.ireturn, 1) → ∀ zv : Bool, zv = (ftZ x0 x1 x2 x3) → W zp l ze rm_Mo_fits zs zm [.ref q].toArray zb zt zc zs.heap [] 0 0 zQ (F0 zm pc ls [.int (iI (zB zv))]) := fun pc ls d b h => by rw [h]; exact ret pc ls d
  refine z_iconst hC d_Mo_fits_0 ?_
  refine lv_istore_n (lv' := [(1, .int (iI 0)), (0, .ref q)]) hC.1 hC.2.1 d_Mo_fits_1 rfl hl (by decide) rfl (fun ls hl => ?_)
  refine lv_iload_n hC.1 hC.2.1 d_Mo_fits_2 rfl (lv_at hl 0 rfl) ?_
  refine z_iconst hC d_Mo_fits_3 ?_
  refine z_icmp_ge (tgt := 28) hC d_Mo_fits_4 (by decide) (by decide) (by decide) (fun h => absurd h (by decide)) (fun _ => ?_)
  refine lv_aload_n hC.1 hC.2.1 d_Mo_fits_7 rfl (lv_at hl 1 rfl) ?_
  refine lv_iload_n hC.1 hC.2.1 d_Mo_fits_8 rfl (lv_at hl 0 rfl) ?_
  refine z_lald hC hK hP 0 rfl (by decide) d_Mo_fits_9 ?_
  refine z_topl (z := x0) rfl ?_
  refine z_roSl (As := [.long (lI x0)]) (rest := []) hC (c_Mo_size l D t ts x0 (by omega)) (cw_S hC k_552 k_553 k_6 k_554 ye_Mo_size (by decide)) hP hK hE hS [] rfl rfl hl.1 rfl (Nat.le_of_ble_eq_true rfl) ⟨Nat.le_of_ble_eq_true rfl, Nat.le_of_ble_eq_true rfl⟩ d_Mo_fits_10 ?_
  refine z_ldc2 hC k_555 d_Mo_fits_13 ?_
  refine z_lcmp_le (tgt := 22) hC d_Mo_fits_16 d_Mo_fits_17 (by decide) (by have := szZ_in (x := x0) (by omega); omega) (by decide) (fun h16 => ?_) (fun h16 => ?_)
  · refine lv_iinc (v := iI 1) (lv' := [(1, .int (iI 1)), (0, .ref q)]) hC.1 hC.2.1 d_Mo_fits_22 hl (k := 0) rfl (z_inc (by omega)) (by decide) rfl (fun ls hl => ?_)
    refine z_goto (tgt := 2) hC d_Mo_fits_25 (by decide) ?_
    refine lv_iload_n hC.1 hC.2.1 d_Mo_fits_2 rfl (lv_at hl 0 rfl) ?_
    refine z_iconst hC d_Mo_fits_3 ?_
    refine z_icmp_ge (tgt := 28) hC d_Mo_fits_4 (by decide) (by decide) (by decide) (fun h => absurd h (by decide)) (fun _ => ?_)
    refine lv_aload_n hC.1 hC.2.1 d_Mo_fits_7 rfl (lv_at hl 1 rfl) ?_
    refine lv_iload_n hC.1 hC.2.1 d_Mo_fits_8 rfl (lv_at hl 0 rfl) ?_
    refine z_lald hC hK hP 0 rfl (by decide) d_Mo_fits_9 ?_
    refine z_topl (z := x1) rfl ?_
    refine z_roSl (As := [.long (lI x1)]) (rest := []) hC (c_Mo_size l D t ts x1 (by omega)) (cw_S hC k_552 k_553 k_6 k_554 ye_Mo_size (by decide)) hP hK hE hS [] rfl rfl hl.1 rfl (Nat.le_of_ble_eq_true rfl) ⟨Nat.le_of_ble_eq_true rfl, Nat.le_of_ble_eq_true rfl⟩ d_Mo_fits_10 ?_
    refine z_ldc2 hC k_555 d_Mo_fits_13 ?_
    refine z_lcmp_le (tgt := 22) hC d_Mo_fits_16 d_Mo_fits_17 (by decide) (by have := szZ_in (x := x1) (by omega); omega) (by decide) (fun h16_2 => ?_) (fun h16_2 => ?_)
    · refine lv_iinc (v := iI 2) (lv' := [(1, .int (iI 2)), (0, .ref q)]) hC.1 hC.2.1 d_Mo_fits_22 hl (k := 0) rfl (z_inc (by omega)) (by decide) rfl (fun ls hl => ?_)
      refine z_goto (tgt := 2) hC d_Mo_fits_25 (by decide) ?_
      refine lv_iload_n hC.1 hC.2.1 d_Mo_fits_2 rfl (lv_at hl 0 rfl) ?_
      refine z_iconst hC d_Mo_fits_3 ?_
      refine z_icmp_ge (tgt := 28) hC d_Mo_fits_4 (by decide) (by decide) (by decide) (fun h => absurd h (by decide)) (fun _ => ?_)
      refine lv_aload_n hC.1 hC.2.1 d_Mo_fits_7 rfl (lv_at hl 1 rfl) ?_
      refine lv_iload_n hC.1 hC.2.1 d_Mo_fits_8 rfl (lv_at hl 0 rfl) ?_
      refine z_lald hC hK hP 0 rfl (by decide) d_Mo_fits_9 ?_
      refine z_topl (z := x2) rfl ?_
      refine z_roSl (As := [.long (lI x2)]) (rest := []) hC (c_Mo_size l D t ts x2 (by omega)) (cw_S hC k_552 k_553 k_6 k_554 ye_Mo_size (by decide)) hP hK hE hS [] rfl rfl hl.1 rfl (Nat.le_of_ble_eq_true rfl) ⟨Nat.le_of_ble_eq_true rfl, Nat.le_of_ble_eq_true rfl⟩ d_Mo_fits_10 ?_
      refine z_ldc2 hC k_555 d_Mo_fits_13 ?_
      refine z_lcmp_le (tgt := 22) hC d_Mo_fits_16 d_Mo_fits_17 (by decide) (by have := szZ_in (x := x2) (by omega); omega) (by decide) (fun h16_3 => ?_) (fun h16_3 => ?_)
      · refine lv_iinc (v := iI 3) (lv' := [(1, .int (iI 3)), (0, .ref q)]) hC.1 hC.2.1 d_Mo_fits_22 hl (k := 0) rfl (z_inc (by omega)) (by decide) rfl (fun ls hl => ?_)
        refine z_goto (tgt := 2) hC d_Mo_fits_25 (by decide) ?_
        refine lv_iload_n hC.1 hC.2.1 d_Mo_fits_2 rfl (lv_at hl 0 rfl) ?_
        refine z_iconst hC d_Mo_fits_3 ?_
        refine z_icmp_ge (tgt := 28) hC d_Mo_fits_4 (by decide) (by decide) (by decide) (fun h => absurd h (by decide)) (fun _ => ?_)
        refine lv_aload_n hC.1 hC.2.1 d_Mo_fits_7 rfl (lv_at hl 1 rfl) ?_
        refine lv_iload_n hC.1 hC.2.1 d_Mo_fits_8 rfl (lv_at hl 0 rfl) ?_
        refine z_lald hC hK hP 0 rfl (by decide) d_Mo_fits_9 ?_
        refine z_topl (z := x3) rfl ?_
        refine z_roSl (As := [.long (lI x3)]) (rest := []) hC (c_Mo_size l D t ts x3 (by omega)) (cw_S hC k_552 k_553 k_6 k_554 ye_Mo_size (by decide)) hP hK hE hS [] rfl rfl hl.1 rfl (Nat.le_of_ble_eq_true rfl) ⟨Nat.le_of_ble_eq_true rfl, Nat.le_of_ble_eq_true rfl⟩ d_Mo_fits_10 ?_
        refine z_ldc2 hC k_555 d_Mo_fits_13 ?_
        refine z_lcmp_le (tgt := 22) hC d_Mo_fits_16 d_Mo_fits_17 (by decide) (by have := szZ_in (x := x3) (by omega); omega) (by decide) (fun h16_4 => ?_) (fun h16_4 => ?_)
        · refine lv_iinc (v := iI 4) (lv' := [(1, .int (iI 4)), (0, .ref q)]) hC.1 hC.2.1 d_Mo_fits_22 hl (k := 0) rfl (z_inc (by omega)) (by decide) rfl (fun ls hl => ?_)
          refine z_goto (tgt := 2) hC d_Mo_fits_25 (by decide) ?_
          refine lv_iload_n hC.1 hC.2.1 d_Mo_fits_2 rfl (lv_at hl 0 rfl) ?_
          refine z_iconst hC d_Mo_fits_3 ?_
          refine z_icmp_ge (tgt := 28) hC d_Mo_fits_4 (by decide) (by decide) (by decide) (fun _ => ?_) (fun h => absurd h (by decide))
          refine z_iconst hC d_Mo_fits_28 ?_
          exact ret1 29 _ d_Mo_fits_29 (by unfold ftZ; rw [(szZ_le x0).mp (by omega), (szZ_le x1).mp (by omega), (szZ_le x2).mp (by omega), (szZ_le x3).mp (by omega)]; rfl)
        · refine z_iconst hC d_Mo_fits_20 ?_
          exact ret0 21 _ d_Mo_fits_21 (by unfold ftZ; simp [(szZ_gt x3).mp (by omega)])
      · refine z_iconst hC d_Mo_fits_20 ?_
        exact ret0 21 _ d_Mo_fits_21 (by unfold ftZ; simp [(szZ_gt x2).mp (by omega)])
    · refine z_iconst hC d_Mo_fits_20 ?_
      exact ret0 21 _ d_Mo_fits_21 (by unfold ftZ; simp [(szZ_gt x1).mp (by omega)])
  · refine z_iconst hC d_Mo_fits_20 ?_
    exact ret0 21 _ d_Mo_fits_21 (by unfold ftZ; simp [(szZ_gt x0).mp (by omega)])
