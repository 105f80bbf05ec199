theorem ye_Po_set : ye y_Po_set R_Po 6 := by unfold ye; decide +kernel
abbrev rm_Po_set : Room := { frames := 0, cells := 0, slots := 0, locals := 0 }
set_option maxHeartbeats 4000000 in
set_option maxRecDepth 100000 in
theorem c_Po_set (l : Launch) (D : va_G) (t : vt) (ts : Nat → Nat) (q n : Nat) (F : Int → Int) (p a b c d : Int) (hn : (n : Int) ≤ 2147483647) (hp : 0 ≤ p ∧ p + 3 < n) (sz : Nat) : Met l y_Po_set (.code y_Po_set b_Po_set 6 none :: tb_ws) rm_Po_set (MP D t ts [.ref q, .int (iI p), .int (iI a), .int (iI b), .int (iI c), .int (iI d)] [(q, eI t.1 n F)] sz) (va_Qv (fun u : Int → Int => u = st4 F p a b c d) (MB D (va_A [(q, eI t.1 n F)] sz) (fun u : Int → Int => [(q, eI t.1 n u)])) (va_A [(q, eI t.1 n F)] sz)) 0 0 (va_A [(q, eI t.1 n F)] sz) := by
  refine m_v (by decide +kernel) (Nat.le_of_ble_eq_true rfl) ?_
  intro zp ze zs zm zb zt zc zQ A ls hC hA hP hK hD hE hS hl ret
  have hl : lv_has ls 6 [(0, .ref q), (1, .int (iI p)), (2, .int (iI a)), (3, .int (iI b)), (4, .int (iI c)), (5, .int (iI d))] := hl
  refine lv_aload_n hC.1 hC.2.1 d_Po_set_0 rfl (lv_at hl 0 rfl) ?_
  refine lv_iload_n hC.1 hC.2.1 d_Po_set_1 rfl (lv_at hl 1 rfl) ?_
  refine lv_iload_n hC.1 hC.2.1 d_Po_set_2 rfl (lv_at hl 2 rfl) ?_
  refine z_iast (ws' := [(q, eI t.1 n (uZ F p a))]) hC hK hP hD hS 0 rfl (by omega) rfl d_Po_set_3 (fun H locs hP hD hS => ?_)
  refine lv_aload_n hC.1 hC.2.1 d_Po_set_4 rfl (lv_at hl 0 rfl) ?_
  refine lv_iload_n hC.1 hC.2.1 d_Po_set_5 rfl (lv_at hl 1 rfl) ?_
  refine z_iconst hC d_Po_set_6 ?_
  refine z_iadd hC d_Po_set_7 ?_
  refine lv_iload_n hC.1 hC.2.1 d_Po_set_8 rfl (lv_at hl 3 rfl) ?_
  refine z_iast (ws' := [(q, eI t.1 n (uZ (uZ F p a) (p + 1) b))]) hC hK hP hD hS 0 rfl (by omega) rfl d_Po_set_9 (fun H locs hP hD hS => ?_)
  refine lv_aload_n hC.1 hC.2.1 d_Po_set_10 rfl (lv_at hl 0 rfl) ?_
  refine lv_iload_n hC.1 hC.2.1 d_Po_set_11 rfl (lv_at hl 1 rfl) ?_
  refine z_iconst hC d_Po_set_12 ?_
  refine z_iadd hC d_Po_set_13 ?_
  refine lv_iload hC.1 hC.2.1 d_Po_set_14 (lv_at hl 4 rfl) ?_
  refine z_iast (ws' := [(q, eI t.1 n (uZ (uZ (uZ F p a) (p + 1) b) (p + 2) c))]) hC hK hP hD hS 0 rfl (by omega) rfl d_Po_set_16 (fun H locs hP hD hS => ?_)
  refine lv_aload_n hC.1 hC.2.1 d_Po_set_17 rfl (lv_at hl 0 rfl) ?_
  refine lv_iload_n hC.1 hC.2.1 d_Po_set_18 rfl (lv_at hl 1 rfl) ?_
  refine z_iconst hC d_Po_set_19 ?_
  refine z_iadd hC d_Po_set_20 ?_
  refine lv_iload hC.1 hC.2.1 d_Po_set_21 (lv_at hl 5 rfl) ?_
  refine z_iast (ws' := [(q, eI t.1 n (uZ (uZ (uZ (uZ F p a) (p + 1) b) (p + 2) c) (p + 3) d))]) hC hK hP hD hS 0 rfl (by omega) rfl d_Po_set_23 (fun H locs hP hD hS => ?_)
  have hP9 := hP.sub (ws' := [(q, eI t.1 n (uZ (uZ (uZ (uZ F p a) (p + 1) b) (p + 2) c) (p + 3) d))]) [0] rfl
  have hD9 := hD.sub (ws' := [(q, eI t.1 n (uZ (uZ (uZ (uZ F p a) (p + 1) b) (p + 2) c) (p + 3) d))]) [0] (by decide) rfl
  exact ret (uZ (uZ (uZ (uZ F p a) (p + 1) b) (p + 2) c) (p + 3) d) _ _ 24 _ d_Po_set_24 rfl hP9 hD9 hS
theorem ye_Po_add : ye y_Po_add R_Po 4 := by unfold ye; decide +kernel
abbrev rm_Po_add : Room := { frames := 0, cells := 0, slots := 0, locals := 0 }
set_option maxHeartbeats 4000000 in
set_option maxRecDepth 100000 in
theorem c_Po_add (l : Launch) (D : va_G) (t : vt) (ts : Nat → Nat) (q n : Nat) (F : Int → Int) (y p v0 v1 v2 v3 : Int) (hn : (n : Int) ≤ 2147483647) (hp : 4 ≤ p ∧ p + 3 < n) (hy : 0 ≤ y ∧ y + 3 < 44) (e0 : F 0 = v0) (e1 : F 1 = v1) (e2 : F 2 = v2) (e3 : F 3 = v3) (sz : Nat) : Met l y_Po_add (.code y_Po_add b_Po_add 5 none :: tb_ws) rm_Po_add (MP D t ts [.ref q, .int (iI 0), .int (iI y), .int (iI p)] [(q, eI t.1 n F)] sz) (va_Qv (fun u : Int → Int => u = st4 F p (v0 + z_UNITS y) (v1 + z_UNITS (y + 1)) (v2 + z_UNITS (y + 2)) (v3 + z_UNITS (y + 3))) (MB D (va_A [(q, eI t.1 n F)] sz) (fun u : Int → Int => [(q, eI t.1 n u)])) (va_A [(q, eI t.1 n F)] sz)) 0 0 (va_A [(q, eI t.1 n F)] sz) := by
  refine m_v (by decide +kernel) (Nat.le_of_ble_eq_true rfl) ?_
  intro zp ze zs zm zb zt zc zQ A ls hC hA hP hK hD hE hS hl ret
  have hl : lv_has ls 5 [(0, .ref q), (1, .int (iI 0)), (2, .int (iI y)), (3, .int (iI p))] := hl
  refine z_iconst hC d_Po_add_0 ?_
  refine lv_istore (lv' := [(4, .int (iI 0)), (0, .ref q), (1, .int (iI 0)), (2, .int (iI y)), (3, .int (iI p))]) hC.1 hC.2.1 d_Po_add_1 hl (by decide) rfl (fun ls hl => ?_)
  refine lv_iload hC.1 hC.2.1 d_Po_add_3 (lv_at hl 0 rfl) ?_
  refine z_iconst hC d_Po_add_5 ?_
  refine z_icmp_ge (tgt := 36) hC d_Po_add_6 (by decide) (by decide) (by decide) (fun h => absurd h (by decide)) (fun _ => ?_)
  refine lv_aload_n hC.1 hC.2.1 d_Po_add_9 rfl (lv_at hl 1 rfl) ?_
  refine lv_iload_n hC.1 hC.2.1 d_Po_add_10 rfl (lv_at hl 4 rfl) ?_
  refine lv_iload hC.1 hC.2.1 d_Po_add_11 (lv_at hl 0 rfl) ?_
  refine z_iadd hC d_Po_add_13 ?_
  refine z_topi (z := p) (by omega) ?_
  refine lv_aload_n hC.1 hC.2.1 d_Po_add_14 rfl (lv_at hl 1 rfl) ?_
  refine lv_iload_n hC.1 hC.2.1 d_Po_add_15 rfl (lv_at hl 2 rfl) ?_
  refine lv_iload hC.1 hC.2.1 d_Po_add_16 (lv_at hl 0 rfl) ?_
  refine z_iadd hC d_Po_add_18 ?_
  refine z_topi (z := 0) (by omega) ?_
  refine z_iald hC hK hP 0 rfl (by omega) d_Po_add_19 ?_
  refine z_getsN hC hE.2.1 hS hE.1.2.2.2.2.2.1 d_Po_add_20 ?_
  refine lv_iload_n hC.1 hC.2.1 d_Po_add_23 rfl (lv_at hl 3 rfl) ?_
  refine lv_iload hC.1 hC.2.1 d_Po_add_24 (lv_at hl 0 rfl) ?_
  refine z_iadd hC d_Po_add_26 ?_
  refine z_topi (z := y) (by omega) ?_
  refine z_ti hC hE.2.2.1 hS (by omega) d_Po_add_27 ?_
  refine z_iadd hC d_Po_add_28 ?_
  refine z_topi (z := F 0 + z_UNITS y) (by omega) ?_
  refine z_iast (ws' := [(q, eI t.1 n (uZ F p (F 0 + z_UNITS y)))]) hC hK hP hD hS 0 rfl (by omega) rfl d_Po_add_29 (fun H locs hP hD hS => ?_)
  refine lv_iinc (v := iI 1) (lv' := [(4, .int (iI 1)), (0, .ref q), (1, .int (iI 0)), (2, .int (iI y)), (3, .int (iI p))]) hC.1 hC.2.1 d_Po_add_30 hl (k := 0) rfl (z_inc (by omega)) (by decide) rfl (fun ls hl => ?_)
  refine z_goto (tgt := 3) hC d_Po_add_33 (by decide) ?_
  refine lv_iload hC.1 hC.2.1 d_Po_add_3 (lv_at hl 0 rfl) ?_
  refine z_iconst hC d_Po_add_5 ?_
  refine z_icmp_ge (tgt := 36) hC d_Po_add_6 (by decide) (by decide) (by decide) (fun h => absurd h (by decide)) (fun _ => ?_)
  refine lv_aload_n hC.1 hC.2.1 d_Po_add_9 rfl (lv_at hl 1 rfl) ?_
  refine lv_iload_n hC.1 hC.2.1 d_Po_add_10 rfl (lv_at hl 4 rfl) ?_
  refine lv_iload hC.1 hC.2.1 d_Po_add_11 (lv_at hl 0 rfl) ?_
  refine z_iadd hC d_Po_add_13 ?_
  refine lv_aload_n hC.1 hC.2.1 d_Po_add_14 rfl (lv_at hl 1 rfl) ?_
  refine lv_iload_n hC.1 hC.2.1 d_Po_add_15 rfl (lv_at hl 2 rfl) ?_
  refine lv_iload hC.1 hC.2.1 d_Po_add_16 (lv_at hl 0 rfl) ?_
  refine z_iadd hC d_Po_add_18 ?_
  refine z_topi (z := 1) (by omega) ?_
  refine z_iald hC hK hP 0 rfl (by omega) d_Po_add_19 ?_
  refine z_topi (z := F 1) (by rw [uZ_n (by omega)]) ?_
  refine z_getsN hC hE.2.1 hS hE.1.2.2.2.2.2.1 d_Po_add_20 ?_
  refine lv_iload_n hC.1 hC.2.1 d_Po_add_23 rfl (lv_at hl 3 rfl) ?_
  refine lv_iload hC.1 hC.2.1 d_Po_add_24 (lv_at hl 0 rfl) ?_
  refine z_iadd hC d_Po_add_26 ?_
  refine z_ti hC hE.2.2.1 hS (by omega) d_Po_add_27 ?_
  refine z_iadd hC d_Po_add_28 ?_
  refine z_topi (z := F 1 + z_UNITS (y + 1)) (by omega) ?_
  refine z_iast (ws' := [(q, eI t.1 n (uZ (uZ F p (F 0 + z_UNITS y)) (p + 1) (F 1 + z_UNITS (y + 1))))]) hC hK hP hD hS 0 rfl (by omega) rfl d_Po_add_29 (fun H locs hP hD hS => ?_)
  refine lv_iinc (v := iI 2) (lv' := [(4, .int (iI 2)), (0, .ref q), (1, .int (iI 0)), (2, .int (iI y)), (3, .int (iI p))]) hC.1 hC.2.1 d_Po_add_30 hl (k := 0) rfl (z_inc (by omega)) (by decide) rfl (fun ls hl => ?_)
  refine z_goto (tgt := 3) hC d_Po_add_33 (by decide) ?_
  refine lv_iload hC.1 hC.2.1 d_Po_add_3 (lv_at hl 0 rfl) ?_
  refine z_iconst hC d_Po_add_5 ?_
  refine z_icmp_ge (tgt := 36) hC d_Po_add_6 (by decide) (by decide) (by decide) (fun h => absurd h (by decide)) (fun _ => ?_)
  refine lv_aload_n hC.1 hC.2.1 d_Po_add_9 rfl (lv_at hl 1 rfl) ?_
  refine lv_iload_n hC.1 hC.2.1 d_Po_add_10 rfl (lv_at hl 4 rfl) ?_
  refine lv_iload hC.1 hC.2.1 d_Po_add_11 (lv_at hl 0 rfl) ?_
  refine z_iadd hC d_Po_add_13 ?_
  refine lv_aload_n hC.1 hC.2.1 d_Po_add_14 rfl (lv_at hl 1 rfl) ?_
  refine lv_iload_n hC.1 hC.2.1 d_Po_add_15 rfl (lv_at hl 2 rfl) ?_
  refine lv_iload hC.1 hC.2.1 d_Po_add_16 (lv_at hl 0 rfl) ?_
  refine z_iadd hC d_Po_add_18 ?_
  refine z_topi (z := 2) (by omega) ?_
  refine z_iald hC hK hP 0 rfl (by omega) d_Po_add_19 ?_
  refine z_topi (z := F 2) (by rw [uZ_n (by omega), uZ_n (by omega)]) ?_
  refine z_getsN hC hE.2.1 hS hE.1.2.2.2.2.2.1 d_Po_add_20 ?_
  refine lv_iload_n hC.1 hC.2.1 d_Po_add_23 rfl (lv_at hl 3 rfl) ?_
  refine lv_iload hC.1 hC.2.1 d_Po_add_24 (lv_at hl 0 rfl) ?_
  refine z_iadd hC d_Po_add_26 ?_
  refine z_ti hC hE.2.2.1 hS (by omega) d_Po_add_27 ?_
  refine z_iadd hC d_Po_add_28 ?_
  refine z_topi (z := F 2 + z_UNITS (y + 2)) (by omega) ?_
  refine z_iast (ws' := [(q, eI t.1 n (uZ (uZ (uZ F p (F 0 + z_UNITS y)) (p + 1) (F 1 + z_UNITS (y + 1))) (p + 2) (F 2 + z_UNITS (y + 2))))]) hC hK hP hD hS 0 rfl (by omega) rfl d_Po_add_29 (fun H locs hP hD hS => ?_)
  refine lv_iinc (v := iI 3) (lv' := [(4, .int (iI 3)), (0, .ref q), (1, .int (iI 0)), (2, .int (iI y)), (3, .int (iI p))]) hC.1 hC.2.1 d_Po_add_30 hl (k := 0) rfl (z_inc (by omega)) (by decide) rfl (fun ls hl => ?_)
  refine z_goto (tgt := 3) hC d_Po_add_33 (by decide) ?_
  refine lv_iload hC.1 hC.2.1 d_Po_add_3 (lv_at hl 0 rfl) ?_
  refine z_iconst hC d_Po_add_5 ?_
  refine z_icmp_ge (tgt := 36) hC d_Po_add_6 (by decide) (by decide) (by decide) (fun h => absurd h (by decide)) (fun _ => ?_)
  refine lv_aload_n hC.1 hC.2.1 d_Po_add_9 rfl (lv_at hl 1 rfl) ?_
  refine lv_iload_n hC.1 hC.2.1 d_Po_add_10 rfl (lv_at hl 4 rfl) ?_
  refine lv_iload hC.1 hC.2.1 d_Po_add_11 (lv_at hl 0 rfl) ?_
  refine z_iadd hC d_Po_add_13 ?_
  refine lv_aload_n hC.1 hC.2.1 d_Po_add_14 rfl (lv_at hl 1 rfl) ?_
  refine lv_iload_n hC.1 hC.2.1 d_Po_add_15 rfl (lv_at hl 2 rfl) ?_
  refine lv_iload hC.1 hC.2.1 d_Po_add_16 (lv_at hl 0 rfl) ?_
  refine z_iadd hC d_Po_add_18 ?_
  refine z_topi (z := 3) (by omega) ?_
  refine z_iald hC hK hP 0 rfl (by omega) d_Po_add_19 ?_
  refine z_topi (z := F 3) (by rw [uZ_n (by omega), uZ_n (by omega), uZ_n (by omega)]) ?_
  refine z_getsN hC hE.2.1 hS hE.1.2.2.2.2.2.1 d_Po_add_20 ?_
  refine lv_iload_n hC.1 hC.2.1 d_Po_add_23 rfl (lv_at hl 3 rfl) ?_
  refine lv_iload hC.1 hC.2.1 d_Po_add_24 (lv_at hl 0 rfl) ?_
  refine z_iadd hC d_Po_add_26 ?_
  refine z_ti hC hE.2.2.1 hS (by omega) d_Po_add_27 ?_
  refine z_iadd hC d_Po_add_28 ?_
  refine z_topi (z := F 3 + z_UNITS (y + 3)) (by omega) ?_
  refine z_iast (ws' := [(q, eI t.1 n (uZ (uZ (uZ (uZ F p (F 0 + z_UNITS y)) (p + 1) (F 1 + z_UNITS (y + 1))) (p + 2) (F 2 + z_UNITS (y + 2))) (p + 3) (F 3 + z_UNITS (y + 3))))]) hC hK hP hD hS 0 rfl (by omega) rfl d_Po_add_29 (fun H locs hP hD hS => ?_)
  refine lv_iinc (v := iI 4) (lv' := [(4, .int (iI 4)), (0, .ref q), (1, .int (iI 0)), (2, .int (iI y)), (3, .int (iI p))]) hC.1 hC.2.1 d_Po_add_30 hl (k := 0) rfl (z_inc (by omega)) (by decide) rfl (fun ls hl => ?_)
  refine z_goto (tgt := 3) hC d_Po_add_33 (by decide) ?_
  refine lv_iload hC.1 hC.2.1 d_Po_add_3 (lv_at hl 0 rfl) ?_
  refine z_iconst hC d_Po_add_5 ?_
  refine z_icmp_ge (tgt := 36) hC d_Po_add_6 (by decide) (by decide) (by decide) (fun _ => ?_) (fun h => absurd h (by decide))
  have hP9 := hP.sub (ws' := [(q, eI t.1 n (uZ (uZ (uZ (uZ F p (F 0 + z_UNITS y)) (p + 1) (F 1 + z_UNITS (y + 1))) (p + 2) (F 2 + z_UNITS (y + 2))) (p + 3) (F 3 + z_UNITS (y + 3))))]) [0] rfl
  have hD9 := hD.sub (ws' := [(q, eI t.1 n (uZ (uZ (uZ (uZ F p (F 0 + z_UNITS y)) (p + 1) (F 1 + z_UNITS (y + 1))) (p + 2) (F 2 + z_UNITS (y + 2))) (p + 3) (F 3 + z_UNITS (y + 3))))]) [0] (by decide) rfl
  exact ret (uZ (uZ (uZ (uZ F p (F 0 + z_UNITS y)) (p + 1) (F 1 + z_UNITS (y + 1))) (p + 2) (F 2 + z_UNITS (y + 2))) (p + 3) (F 3 + z_UNITS (y + 3))) _ _ 36 _ d_Po_add_36 (by rw [← e0, ← e1, ← e2, ← e3]; rfl) hP9 hD9 hS
theorem ye_Po_enlarge : ye y_Po_enlarge R_Po 4 := by unfold ye; decide +kernel
abbrev rm_Po_enlarge : Room := { frames := 1, cells := 0, slots := 0, locals := 25 }
set_option maxHeartbeats 4000000 in
set_option maxRecDepth 100000 in
theorem c_Po_enlarge (l : Launch) (D : va_G) (t : vt) (ts : Nat → Nat) (q q2 n n2 : Nat) (F G : Int → Int) (p r : Int) (v0 v1 v2 v3 : Int) (w0 w1 w2 w3 : Int) (hn : (n : Int) ≤ 2147483647) (hn2 : (n2 : Int) ≤ 2147483647) (hp : 0 ≤ p ∧ p + 3 < n) (hr : 0 ≤ r ∧ r + 3 < n2) (e0 : F p = v0) (e1 : F (p + 1) = v1) (e2 : F (p + 2) = v2) (e3 : F (p + 3) = v3) (f0 : w0 = v1 - v3) (f1 : w1 = v1 + v2 - v3) (f2 : w2 = v1 + v2 - v0) (f3 : w3 = v2 - v0) (sz : Nat) : Met l y_Po_enlarge (.code y_Po_enlarge b_Po_enlarge 8 none :: tb_ws) rm_Po_enlarge (MP D t ts [.ref q, .int (iI p), .ref q2, .int (iI r)] [(q, eI t.1 n F), (q2, eI t.1 n2 G)] sz) (va_Qv (fun u : Int → Int => u = st4 G r w0 w1 w2 w3) (MB D (va_A [(q, eI t.1 n F), (q2, eI t.1 n2 G)] sz) (fun u : Int → Int => [(q, eI t.1 n F), (q2, eI t.1 n2 u)])) (va_A [(q, eI t.1 n F), (q2, eI t.1 n2 G)] sz)) 0 0 (va_A [(q, eI t.1 n F), (q2, eI t.1 n2 G)] sz) := by
  refine m_v (by decide +kernel) (Nat.le_of_ble_eq_true rfl) ?_
  intro zp ze zs zm zb zt zc zQ A ls hC hA hP hK hD hE hS hl ret
  have hl : lv_has ls 8 [(0, .ref q), (1, .int (iI p)), (2, .ref q2), (3, .int (iI r))] := hl
  refine lv_aload_n hC.1 hC.2.1 d_Po_enlarge_0 rfl (lv_at hl 0 rfl) ?_
  refine lv_iload_n hC.1 hC.2.1 d_Po_enlarge_1 rfl (lv_at hl 1 rfl) ?_
  refine z_iald hC hK hP 0 rfl (by omega) d_Po_enlarge_2 ?_
  refine lv_istore (lv' := [(4, .int (iI (F p))), (0, .ref q), (1, .int (iI p)), (2, .ref q2), (3, .int (iI r))]) hC.1 hC.2.1 d_Po_enlarge_3 hl (by decide) rfl (fun ls hl => ?_)
  refine lv_aload_n hC.1 hC.2.1 d_Po_enlarge_5 rfl (lv_at hl 1 rfl) ?_
  refine lv_iload_n hC.1 hC.2.1 d_Po_enlarge_6 rfl (lv_at hl 2 rfl) ?_
  refine z_iconst hC d_Po_enlarge_7 ?_
  refine z_iadd hC d_Po_enlarge_8 ?_
  refine z_iald hC hK hP 0 rfl (by omega) d_Po_enlarge_9 ?_
  refine lv_istore (lv' := [(5, .int (iI (F (p + 1)))), (4, .int (iI (F p))), (0, .ref q), (1, .int (iI p)), (2, .ref q2), (3, .int (iI r))]) hC.1 hC.2.1 d_Po_enlarge_10 hl (by decide) rfl (fun ls hl => ?_)
  refine lv_aload_n hC.1 hC.2.1 d_Po_enlarge_12 rfl (lv_at hl 2 rfl) ?_
  refine lv_iload_n hC.1 hC.2.1 d_Po_enlarge_13 rfl (lv_at hl 3 rfl) ?_
  refine z_iconst hC d_Po_enlarge_14 ?_
  refine z_iadd hC d_Po_enlarge_15 ?_
  refine z_iald hC hK hP 0 rfl (by omega) d_Po_enlarge_16 ?_
  refine lv_istore (lv' := [(6, .int (iI (F (p + 2)))), (5, .int (iI (F (p + 1)))), (4, .int (iI (F p))), (0, .ref q), (1, .int (iI p)), (2, .ref q2), (3, .int (iI r))]) hC.1 hC.2.1 d_Po_enlarge_17 hl (by decide) rfl (fun ls hl => ?_)
  refine lv_aload_n hC.1 hC.2.1 d_Po_enlarge_19 rfl (lv_at hl 3 rfl) ?_
  refine lv_iload_n hC.1 hC.2.1 d_Po_enlarge_20 rfl (lv_at hl 4 rfl) ?_
  refine z_iconst hC d_Po_enlarge_21 ?_
  refine z_iadd hC d_Po_enlarge_22 ?_
  refine z_iald hC hK hP 0 rfl (by omega) d_Po_enlarge_23 ?_
  refine lv_istore (lv' := [(7, .int (iI (F (p + 3)))), (6, .int (iI (F (p + 2)))), (5, .int (iI (F (p + 1)))), (4, .int (iI (F p))), (0, .ref q), (1, .int (iI p)), (2, .ref q2), (3, .int (iI r))]) hC.1 hC.2.1 d_Po_enlarge_24 hl (by decide) rfl (fun ls hl => ?_)
  refine lv_aload_n hC.1 hC.2.1 d_Po_enlarge_26 rfl (lv_at hl 6 rfl) ?_
  refine lv_iload_n hC.1 hC.2.1 d_Po_enlarge_27 rfl (lv_at hl 7 rfl) ?_
  refine lv_iload hC.1 hC.2.1 d_Po_enlarge_28 (lv_at hl 2 rfl) ?_
  refine lv_iload hC.1 hC.2.1 d_Po_enlarge_30 (lv_at hl 0 rfl) ?_
  refine z_isub hC d_Po_enlarge_32 ?_
  refine z_topi (z := F (p + 1) - F (p + 3)) (by omega) ?_
  refine lv_iload hC.1 hC.2.1 d_Po_enlarge_33 (lv_at hl 2 rfl) ?_
  refine lv_iload hC.1 hC.2.1 d_Po_enlarge_35 (lv_at hl 1 rfl) ?_
  refine z_iadd hC d_Po_enlarge_37 ?_
  refine z_topi (z := F (p + 1) + F (p + 2)) (by omega) ?_
  refine lv_iload hC.1 hC.2.1 d_Po_enlarge_38 (lv_at hl 0 rfl) ?_
  refine z_isub hC d_Po_enlarge_40 ?_
  refine z_topi (z := F (p + 1) + F (p + 2) - F (p + 3)) (by omega) ?_
  refine lv_iload hC.1 hC.2.1 d_Po_enlarge_41 (lv_at hl 2 rfl) ?_
  refine lv_iload hC.1 hC.2.1 d_Po_enlarge_43 (lv_at hl 1 rfl) ?_
  refine z_iadd hC d_Po_enlarge_45 ?_
  refine z_topi (z := F (p + 1) + F (p + 2)) (by omega) ?_
  refine lv_iload hC.1 hC.2.1 d_Po_enlarge_46 (lv_at hl 3 rfl) ?_
  refine z_isub hC d_Po_enlarge_48 ?_
  refine z_topi (z := F (p + 1) + F (p + 2) - F p) (by omega) ?_
  refine lv_iload hC.1 hC.2.1 d_Po_enlarge_49 (lv_at hl 1 rfl) ?_
  refine lv_iload hC.1 hC.2.1 d_Po_enlarge_51 (lv_at hl 3 rfl) ?_
  refine z_isub hC d_Po_enlarge_53 ?_
  refine z_topi (z := F (p + 2) - F p) (by omega) ?_
  refine z_mSv (As := [.ref q2, .int (iI r), .int (iI (F (p + 1) - F (p + 3))), .int (iI (F (p + 1) + F (p + 2) - F (p + 3))), .int (iI (F (p + 1) + F (p + 2) - F p)), .int (iI (F (p + 2) - F p))]) (rest := []) (wr := [(q, eI t.1 n F)]) hC (c_Po_set l D t ts q2 n2 G r (F (p + 1) - F (p + 3)) (F (p + 1) + F (p + 2) - F (p + 3)) (F (p + 1) + F (p + 2) - F p) (F (p + 2) - F p) (by omega) (by omega) _) (cw_S hC k_260 k_180 k_8 k_181 ye_Po_set (by decide)) hP hD hK hE hS hA [1] [0] (by decide) rfl rfl (by decide) (by decide) rfl hl.1 rfl (Nat.le_of_ble_eq_true rfl) ⟨Nat.le_of_ble_eq_true rfl, Nat.le_of_ble_eq_true rfl⟩ d_Po_enlarge_54 (fun u1 H locs eu1 hP hD hS => ?_)
  subst eu1
  have hP : va_P D classes [(q, eI t.1 n F), (q2, eI t.1 n2 (uZ (uZ (uZ (uZ G r (F (p + 1) - F (p + 3))) (r + 1) (F (p + 1) + F (p + 2) - F (p + 3))) (r + 2) (F (p + 1) + F (p + 2) - F p)) (r + 3) (F (p + 2) - F p)))] H := hP
  have hD : va_D A [(q, eI t.1 n F), (q2, eI t.1 n2 (uZ (uZ (uZ (uZ G r (F (p + 1) - F (p + 3))) (r + 1) (F (p + 1) + F (p + 2) - F (p + 3))) (r + 2) (F (p + 1) + F (p + 2) - F p)) (r + 3) (F (p + 2) - F p)))] := hD
  have hP9 := hP.sub (ws' := [(q, eI t.1 n F), (q2, eI t.1 n2 (uZ (uZ (uZ (uZ G r (F (p + 1) - F (p + 3))) (r + 1) (F (p + 1) + F (p + 2) - F (p + 3))) (r + 2) (F (p + 1) + F (p + 2) - F p)) (r + 3) (F (p + 2) - F p)))]) [0, 1] rfl
  have hD9 := hD.sub (ws' := [(q, eI t.1 n F), (q2, eI t.1 n2 (uZ (uZ (uZ (uZ G r (F (p + 1) - F (p + 3))) (r + 1) (F (p + 1) + F (p + 2) - F (p + 3))) (r + 2) (F (p + 1) + F (p + 2) - F p)) (r + 3) (F (p + 2) - F p)))]) [0, 1] (by decide) rfl
  exact ret (uZ (uZ (uZ (uZ G r (F (p + 1) - F (p + 3))) (r + 1) (F (p + 1) + F (p + 2) - F (p + 3))) (r + 2) (F (p + 1) + F (p + 2) - F p)) (r + 3) (F (p + 2) - F p)) _ _ 57 _ d_Po_enlarge_57 (by unfold st4; rw [show w0 = F (p + 1) - F (p + 3) by omega, show w1 = F (p + 1) + F (p + 2) - F (p + 3) by omega, show w2 = F (p + 1) + F (p + 2) - F p by omega, show w3 = F (p + 2) - F p by omega]) hP9 hD9 hS
theorem ye_Po_shrink : ye y_Po_shrink R_Po 2 := by unfold ye; decide +kernel
abbrev rm_Po_shrink : Room := { frames := 1, cells := 0, slots := 0, locals := 25 }
set_option maxHeartbeats 4000000 in
set_option maxRecDepth 100000 in
theorem c_Po_shrink (l : Launch) (D : va_G) (t : vt) (ts : Nat → Nat) (q n : Nat) (F : Int → Int) (p : Int) (v0 v1 v2 v3 : Int) (w0 w1 w2 w3 : Int) (hn : (n : Int) ≤ 2147483647) (hp : 0 ≤ p ∧ p + 3 < n) (e0 : F p = v0) (e1 : F (p + 1) = v1) (e2 : F (p + 2) = v2) (e3 : F (p + 3) = v3) (f0 : w0 = v1 - v3 - v0) (f1 : w1 = v2 - v3) (f2 : w2 = v1 - v0) (f3 : w3 = v2 - v0 - v3) (sz : Nat) : Met l y_Po_shrink (.code y_Po_shrink b_Po_shrink 6 none :: tb_ws) rm_Po_shrink (MP D t ts [.ref q, .int (iI p)] [(q, eI t.1 n F)] sz) (va_Qv (fun u : Int → Int => u = st4 F p w0 w1 w2 w3) (MB D (va_A [(q, eI t.1 n F)] sz) (fun u : Int → Int => [(q, eI t.1 n u)])) (va_A [(q, eI t.1 n F)] sz)) 0 0 (va_A [(q, eI t.1 n F)] sz) := by
  refine m_v (by decide +kernel) (Nat.le_of_ble_eq_true rfl) ?_
  intro zp ze zs zm zb zt zc zQ A ls hC hA hP hK hD hE hS hl ret
  have hl : lv_has ls 6 [(0, .ref q), (1, .int (iI p))] := hl
  refine lv_aload_n hC.1 hC.2.1 d_Po_shrink_0 rfl (lv_at hl 0 rfl) ?_
  refine lv_iload_n hC.1 hC.2.1 d_Po_shrink_1 rfl (lv_at hl 1 rfl) ?_
  refine z_iald hC hK hP 0 rfl (by omega) d_Po_shrink_2 ?_
  refine lv_istore_n (lv' := [(2, .int (iI (F p))), (0, .ref q), (1, .int (iI p))]) hC.1 hC.2.1 d_Po_shrink_3 rfl hl (by decide) rfl (fun ls hl => ?_)
  refine lv_aload_n hC.1 hC.2.1 d_Po_shrink_4 rfl (lv_at hl 1 rfl) ?_
  refine lv_iload_n hC.1 hC.2.1 d_Po_shrink_5 rfl (lv_at hl 2 rfl) ?_
  refine z_iconst hC d_Po_shrink_6 ?_
  refine z_iadd hC d_Po_shrink_7 ?_
  refine z_iald hC hK hP 0 rfl (by omega) d_Po_shrink_8 ?_
  refine lv_istore_n (lv' := [(3, .int (iI (F (p + 1)))), (2, .int (iI (F p))), (0, .ref q), (1, .int (iI p))]) hC.1 hC.2.1 d_Po_shrink_9 rfl hl (by decide) rfl (fun ls hl => ?_)
  refine lv_aload_n hC.1 hC.2.1 d_Po_shrink_10 rfl (lv_at hl 2 rfl) ?_
  refine lv_iload_n hC.1 hC.2.1 d_Po_shrink_11 rfl (lv_at hl 3 rfl) ?_
  refine z_iconst hC d_Po_shrink_12 ?_
  refine z_iadd hC d_Po_shrink_13 ?_
  refine z_iald hC hK hP 0 rfl (by omega) d_Po_shrink_14 ?_
  refine lv_istore (lv' := [(4, .int (iI (F (p + 2)))), (3, .int (iI (F (p + 1)))), (2, .int (iI (F p))), (0, .ref q), (1, .int (iI p))]) hC.1 hC.2.1 d_Po_shrink_15 hl (by decide) rfl (fun ls hl => ?_)
  refine lv_aload_n hC.1 hC.2.1 d_Po_shrink_17 rfl (lv_at hl 3 rfl) ?_
  refine lv_iload_n hC.1 hC.2.1 d_Po_shrink_18 rfl (lv_at hl 4 rfl) ?_
  refine z_iconst hC d_Po_shrink_19 ?_
  refine z_iadd hC d_Po_shrink_20 ?_
  refine z_iald hC hK hP 0 rfl (by omega) d_Po_shrink_21 ?_
  refine lv_istore (lv' := [(5, .int (iI (F (p + 3)))), (4, .int (iI (F (p + 2)))), (3, .int (iI (F (p + 1)))), (2, .int (iI (F p))), (0, .ref q), (1, .int (iI p))]) hC.1 hC.2.1 d_Po_shrink_22 hl (by decide) rfl (fun ls hl => ?_)
  refine lv_aload_n hC.1 hC.2.1 d_Po_shrink_24 rfl (lv_at hl 4 rfl) ?_
  refine lv_iload_n hC.1 hC.2.1 d_Po_shrink_25 rfl (lv_at hl 5 rfl) ?_
  refine lv_iload_n hC.1 hC.2.1 d_Po_shrink_26 rfl (lv_at hl 2 rfl) ?_
  refine lv_iload hC.1 hC.2.1 d_Po_shrink_27 (lv_at hl 0 rfl) ?_
  refine z_isub hC d_Po_shrink_29 ?_
  refine z_topi (z := F (p + 1) - F (p + 3)) (by omega) ?_
  refine lv_iload_n hC.1 hC.2.1 d_Po_shrink_30 rfl (lv_at hl 3 rfl) ?_
  refine z_isub hC d_Po_shrink_31 ?_
  refine z_topi (z := F (p + 1) - F (p + 3) - F p) (by omega) ?_
  refine lv_iload hC.1 hC.2.1 d_Po_shrink_32 (lv_at hl 1 rfl) ?_
  refine lv_iload hC.1 hC.2.1 d_Po_shrink_34 (lv_at hl 0 rfl) ?_
  refine z_isub hC d_Po_shrink_36 ?_
  refine z_topi (z := F (p + 2) - F (p + 3)) (by omega) ?_
  refine lv_iload_n hC.1 hC.2.1 d_Po_shrink_37 rfl (lv_at hl 2 rfl) ?_
  refine lv_iload_n hC.1 hC.2.1 d_Po_shrink_38 rfl (lv_at hl 3 rfl) ?_
  refine z_isub hC d_Po_shrink_39 ?_
  refine z_topi (z := F (p + 1) - F p) (by omega) ?_
  refine lv_iload hC.1 hC.2.1 d_Po_shrink_40 (lv_at hl 1 rfl) ?_
  refine lv_iload_n hC.1 hC.2.1 d_Po_shrink_42 rfl (lv_at hl 3 rfl) ?_
  refine z_isub hC d_Po_shrink_43 ?_
  refine z_topi (z := F (p + 2) - F p) (by omega) ?_
  refine lv_iload hC.1 hC.2.1 d_Po_shrink_44 (lv_at hl 0 rfl) ?_
  refine z_isub hC d_Po_shrink_46 ?_
  refine z_topi (z := F (p + 2) - F (p + 3) - F p) (by omega) ?_
  refine z_mSv (As := [.ref q, .int (iI p), .int (iI (F (p + 1) - F (p + 3) - F p)), .int (iI (F (p + 2) - F (p + 3))), .int (iI (F (p + 1) - F p)), .int (iI (F (p + 2) - F (p + 3) - F p))]) (rest := []) (wr := []) hC (c_Po_set l D t ts q n F p (F (p + 1) - F (p + 3) - F p) (F (p + 2) - F (p + 3)) (F (p + 1) - F p) (F (p + 2) - F (p + 3) - F p) (by omega) (by omega) _) (cw_S hC k_260 k_180 k_8 k_181 ye_Po_set (by decide)) hP hD hK hE hS hA [0] [] (by decide) rfl rfl (by decide) (by decide) rfl hl.1 rfl (Nat.le_of_ble_eq_true rfl) ⟨Nat.le_of_ble_eq_true rfl, Nat.le_of_ble_eq_true rfl⟩ d_Po_shrink_47 (fun u1 H locs eu1 hP hD hS => ?_)
  subst eu1
  have hP : va_P D classes [(q, eI t.1 n (uZ (uZ (uZ (uZ F p (F (p + 1) - F (p + 3) - F p)) (p + 1) (F (p + 2) - F (p + 3))) (p + 2) (F (p + 1) - F p)) (p + 3) (F (p + 2) - F (p + 3) - F p)))] H := hP
  have hD : va_D A [(q, eI t.1 n (uZ (uZ (uZ (uZ F p (F (p + 1) - F (p + 3) - F p)) (p + 1) (F (p + 2) - F (p + 3))) (p + 2) (F (p + 1) - F p)) (p + 3) (F (p + 2) - F (p + 3) - F p)))] := hD
  have hP9 := hP.sub (ws' := [(q, eI t.1 n (uZ (uZ (uZ (uZ F p (F (p + 1) - F (p + 3) - F p)) (p + 1) (F (p + 2) - F (p + 3))) (p + 2) (F (p + 1) - F p)) (p + 3) (F (p + 2) - F (p + 3) - F p)))]) [0] rfl
  have hD9 := hD.sub (ws' := [(q, eI t.1 n (uZ (uZ (uZ (uZ F p (F (p + 1) - F (p + 3) - F p)) (p + 1) (F (p + 2) - F (p + 3))) (p + 2) (F (p + 1) - F p)) (p + 3) (F (p + 2) - F (p + 3) - F p)))]) [0] (by decide) rfl
  exact ret (uZ (uZ (uZ (uZ F p (F (p + 1) - F (p + 3) - F p)) (p + 1) (F (p + 2) - F (p + 3))) (p + 2) (F (p + 1) - F p)) (p + 3) (F (p + 2) - F (p + 3) - F p)) _ _ 50 _ d_Po_shrink_50 (by unfold st4; rw [show w0 = F (p + 1) - F (p + 3) - F p by omega, show w1 = F (p + 2) - F (p + 3) by omega, show w2 = F (p + 1) - F p by omega, show w3 = F (p + 2) - F (p + 3) - F p by omega]) hP9 hD9 hS
