theorem ye_Ha_write : ye y_Ha_write R_Ha 6 := by unfold ye; decide +kernel
abbrev rm_Ha_write : Room := { frames := 1, cells := 0, slots := 0, locals := 26 }
set_option maxHeartbeats 4000000 in
set_option maxRecDepth 100000 in
theorem c_Ha_write (l : Launch) (D : va_G) (t : vt) (ts : Nat → Nat) (o qt qn w nr : Nat) (z : Int) (T F R : Int → Int) (n y a b c : Int) (hn : 0 ≤ n ∧ n < 400) (ha : 0 ≤ a ∧ a + 3 < nr) (hb : 0 ≤ b ∧ b + 3 < nr) (hc : 0 ≤ c ∧ c + 3 < nr) (hr : (nr : Int) ≤ 2147483647) (sz : Nat) : Met l y_Ha_write (.code y_Ha_write b_Ha_write 7 none :: tb_ws) rm_Ha_write (MP D t ts [.ref o, .int (iI n), .int (iI y), .ref w, .int (iI a), .int (iI b), .int (iI c)] [(o, .inr (0, [.ref qt, .ref qn, .int (iI z)])), (qt, eI t.1 400 T), (qn, eI t.1 4800 F), (w, eI t.1 nr R)] sz) (va_Qv (fun u : (Int → Int) × (Int → Int) => u.1 = uZ T n y ∧ u.2 = wrN F n R a b c) (MB D (va_A [(o, .inr (0, [.ref qt, .ref qn, .int (iI z)])), (qt, eI t.1 400 T), (qn, eI t.1 4800 F), (w, eI t.1 nr R)] sz) (fun u : (Int → Int) × (Int → Int) => [(o, .inr (0, [.ref qt, .ref qn, .int (iI z)])), (qt, eI t.1 400 u.1), (qn, eI t.1 4800 u.2), (w, eI t.1 nr R)])) (va_A [(o, .inr (0, [.ref qt, .ref qn, .int (iI z)])), (qt, eI t.1 400 T), (qn, eI t.1 4800 F), (w, eI t.1 nr R)] sz)) 0 0 (va_A [(o, .inr (0, [.ref qt, .ref qn, .int (iI z)])), (qt, eI t.1 400 T), (qn, eI t.1 4800 F), (w, eI t.1 nr R)] sz) := by
  refine m_v (by decide +kernel) (Nat.le_of_ble_eq_true rfl) ?_
  intro zp ze zs zm zb zt zc zQ A ls hC hA hP hK hD hE hS hl ret
  have hl : lv_has ls 7 [(0, .ref o), (1, .int (iI n)), (2, .int (iI y)), (3, .ref w), (4, .int (iI a)), (5, .int (iI b)), (6, .int (iI c))] := hl
  refine lv_aload_n hC.1 hC.2.1 d_Ha_write_0 rfl (lv_at hl 0 rfl) ?_
  refine z_get (ci := 0) (C := R_Ha) (T := F_Ha) (N := 3) (v := .ref qt) hC in_Ha hK hP 0 rfl rfl 0 (by decide) k_82 rfl d_Ha_write_1 ?_
  refine lv_iload_n hC.1 hC.2.1 d_Ha_write_4 rfl (lv_at hl 1 rfl) ?_
  refine lv_iload_n hC.1 hC.2.1 d_Ha_write_5 rfl (lv_at hl 2 rfl) ?_
  refine z_iast (ws' := [(o, .inr (0, [.ref qt, .ref qn, .int (iI z)])), (qt, eI t.1 400 (uZ T n y)), (qn, eI t.1 4800 F), (w, eI t.1 nr R)]) hC hK hP hD hS 1 rfl (by omega) rfl d_Ha_write_6 (fun H locs hP hD hS => ?_)
  refine lv_aload_n hC.1 hC.2.1 d_Ha_write_7 rfl (lv_at hl 3 rfl) ?_
  refine lv_iload hC.1 hC.2.1 d_Ha_write_8 (lv_at hl 4 rfl) ?_
  refine lv_aload_n hC.1 hC.2.1 d_Ha_write_10 rfl (lv_at hl 0 rfl) ?_
  refine z_get (ci := 0) (C := R_Ha) (T := F_Ha) (N := 3) (v := .ref qn) hC in_Ha hK hP 0 rfl rfl 1 (by decide) k_84 rfl d_Ha_write_11 ?_
  refine lv_iload_n hC.1 hC.2.1 d_Ha_write_14 rfl (lv_at hl 1 rfl) ?_
  refine z_iconst hC d_Ha_write_15 ?_
  refine z_roSi (As := [.int (iI n), .int (iI 0)]) (rest := [.ref qn, .int (iI a), .ref w]) hC (c_Ha_at l D t ts n 0 (12 * n) (by omega)) (cw_S hC k_141 k_142 k_5 k_143 ye_Ha_at (by decide)) hP hK hE hS [] rfl rfl hl.1 rfl (Nat.le_of_ble_eq_true rfl) ⟨Nat.le_of_ble_eq_true rfl, Nat.le_of_ble_eq_true rfl⟩ d_Ha_write_16 ?_
  refine z_iconst hC d_Ha_write_19 ?_
  refine z_copyi (ws' := [(o, .inr (0, [.ref qt, .ref qn, .int (iI z)])), (qt, eI t.1 400 (uZ T n y)), (qn, eI t.1 4800 (cZ R F a (12 * n) 4)), (w, eI t.1 nr R)]) hC k_144 hl.1 hK hP hD hS 3 2 rfl rfl (by omega) (by omega) (by decide) (Nat.le_of_ble_eq_true rfl) rfl d_Ha_write_20 (fun H locs hP hD hS => ?_)
  refine lv_aload_n hC.1 hC.2.1 d_Ha_write_23 rfl (lv_at hl 3 rfl) ?_
  refine lv_iload hC.1 hC.2.1 d_Ha_write_24 (lv_at hl 5 rfl) ?_
  refine lv_aload_n hC.1 hC.2.1 d_Ha_write_26 rfl (lv_at hl 0 rfl) ?_
  refine z_get (ci := 0) (C := R_Ha) (T := F_Ha) (N := 3) (v := .ref qn) hC in_Ha hK hP 0 rfl rfl 1 (by decide) k_84 rfl d_Ha_write_27 ?_
  refine lv_iload_n hC.1 hC.2.1 d_Ha_write_30 rfl (lv_at hl 1 rfl) ?_
  refine z_iconst hC d_Ha_write_31 ?_
  refine z_roSi (As := [.int (iI n), .int (iI 1)]) (rest := [.ref qn, .int (iI b), .ref w]) hC (c_Ha_at l D t ts n 1 (12 * n + 4) (by omega)) (cw_S hC k_141 k_142 k_5 k_143 ye_Ha_at (by decide)) hP hK hE hS [] rfl rfl hl.1 rfl (Nat.le_of_ble_eq_true rfl) ⟨Nat.le_of_ble_eq_true rfl, Nat.le_of_ble_eq_true rfl⟩ d_Ha_write_32 ?_
  refine z_iconst hC d_Ha_write_35 ?_
  refine z_copyi (ws' := [(o, .inr (0, [.ref qt, .ref qn, .int (iI z)])), (qt, eI t.1 400 (uZ T n y)), (qn, eI t.1 4800 (cZ R (cZ R F a (12 * n) 4) b (12 * n + 4) 4)), (w, eI t.1 nr R)]) hC k_144 hl.1 hK hP hD hS 3 2 rfl rfl (by omega) (by omega) (by decide) (Nat.le_of_ble_eq_true rfl) rfl d_Ha_write_36 (fun H locs hP hD hS => ?_)
  refine lv_aload_n hC.1 hC.2.1 d_Ha_write_39 rfl (lv_at hl 3 rfl) ?_
  refine lv_iload hC.1 hC.2.1 d_Ha_write_40 (lv_at hl 6 rfl) ?_
  refine lv_aload_n hC.1 hC.2.1 d_Ha_write_42 rfl (lv_at hl 0 rfl) ?_
  refine z_get (ci := 0) (C := R_Ha) (T := F_Ha) (N := 3) (v := .ref qn) hC in_Ha hK hP 0 rfl rfl 1 (by decide) k_84 rfl d_Ha_write_43 ?_
  refine lv_iload_n hC.1 hC.2.1 d_Ha_write_46 rfl (lv_at hl 1 rfl) ?_
  refine z_iconst hC d_Ha_write_47 ?_
  refine z_roSi (As := [.int (iI n), .int (iI 2)]) (rest := [.ref qn, .int (iI c), .ref w]) hC (c_Ha_at l D t ts n 2 (12 * n + 8) (by omega)) (cw_S hC k_141 k_142 k_5 k_143 ye_Ha_at (by decide)) hP hK hE hS [] rfl rfl hl.1 rfl (Nat.le_of_ble_eq_true rfl) ⟨Nat.le_of_ble_eq_true rfl, Nat.le_of_ble_eq_true rfl⟩ d_Ha_write_48 ?_
  refine z_iconst hC d_Ha_write_51 ?_
  refine z_copyi (ws' := [(o, .inr (0, [.ref qt, .ref qn, .int (iI z)])), (qt, eI t.1 400 (uZ T n y)), (qn, eI t.1 4800 (cZ R (cZ R (cZ R F a (12 * n) 4) b (12 * n + 4) 4) c (12 * n + 8) 4)), (w, eI t.1 nr R)]) hC k_144 hl.1 hK hP hD hS 3 2 rfl rfl (by omega) (by omega) (by decide) (Nat.le_of_ble_eq_true rfl) rfl d_Ha_write_52 (fun H locs hP hD hS => ?_)
  have hP9 := hP.sub (ws' := [(o, .inr (0, [.ref qt, .ref qn, .int (iI z)])), (qt, eI t.1 400 (uZ T n y)), (qn, eI t.1 4800 (cZ R (cZ R (cZ R F a (12 * n) 4) b (12 * n + 4) 4) c (12 * n + 8) 4)), (w, eI t.1 nr R)]) [0, 1, 2, 3] rfl
  have hD9 := hD.sub (ws' := [(o, .inr (0, [.ref qt, .ref qn, .int (iI z)])), (qt, eI t.1 400 (uZ T n y)), (qn, eI t.1 4800 (cZ R (cZ R (cZ R F a (12 * n) 4) b (12 * n + 4) 4) c (12 * n + 8) 4)), (w, eI t.1 nr R)]) [0, 1, 2, 3] (by decide) rfl
  exact ret ((uZ T n y), (cZ R (cZ R (cZ R F a (12 * n) 4) b (12 * n + 4) 4) c (12 * n + 8) 4)) _ _ 55 _ d_Ha_write_55 ⟨rfl, rfl⟩ hP9 hD9 hS
abbrev rm_Ha_writeU : Room := { frames := 1, cells := 0, slots := 0, locals := 26 }
set_option maxHeartbeats 4000000 in
set_option maxRecDepth 100000 in
theorem c_Ha_writeU (l : Launch) (D : va_G) (t : vt) (ts : Nat → Nat) (o qt qn : Nat) (z : Int) (T F : Int → Int) (n y a b c : Int) (hn : 0 ≤ n ∧ n < 400) (ha : 0 ≤ a ∧ a + 3 < 44) (hb : 0 ≤ b ∧ b + 3 < 44) (hc : 0 ≤ c ∧ c + 3 < 44) (sz : Nat) : Met l y_Ha_write (.code y_Ha_write b_Ha_write 7 none :: tb_ws) rm_Ha_writeU (MP D t ts [.ref o, .int (iI n), .int (iI y), .ref (ts 0), .int (iI a), .int (iI b), .int (iI c)] [(o, .inr (0, [.ref qt, .ref qn, .int (iI z)])), (qt, eI t.1 400 T), (qn, eI t.1 4800 F)] sz) (va_Qv (fun u : (Int → Int) × (Int → Int) => u.1 = uZ T n y ∧ u.2 = wrN F n z_UNITS a b c) (MB D (va_A [(o, .inr (0, [.ref qt, .ref qn, .int (iI z)])), (qt, eI t.1 400 T), (qn, eI t.1 4800 F)] sz) (fun u : (Int → Int) × (Int → Int) => [(o, .inr (0, [.ref qt, .ref qn, .int (iI z)])), (qt, eI t.1 400 u.1), (qn, eI t.1 4800 u.2)])) (va_A [(o, .inr (0, [.ref qt, .ref qn, .int (iI z)])), (qt, eI t.1 400 T), (qn, eI t.1 4800 F)] sz)) 0 0 (va_A [(o, .inr (0, [.ref qt, .ref qn, .int (iI z)])), (qt, eI t.1 400 T), (qn, eI t.1 4800 F)] sz) := by
  refine m_v (by decide +kernel) (Nat.le_of_ble_eq_true rfl) ?_
  intro zp ze zs zm zb zt zc zQ A ls hC hA hP hK hD hE hS hl ret
  have hl : lv_has ls 7 [(0, .ref o), (1, .int (iI n)), (2, .int (iI y)), (3, .ref (ts 0)), (4, .int (iI a)), (5, .int (iI b)), (6, .int (iI c))] := hl
  refine lv_aload_n hC.1 hC.2.1 d_Ha_write_0 rfl (lv_at hl 0 rfl) ?_
  refine z_get (ci := 0) (C := R_Ha) (T := F_Ha) (N := 3) (v := .ref qt) hC in_Ha hK hP 0 rfl rfl 0 (by decide) k_82 rfl d_Ha_write_1 ?_
  refine lv_iload_n hC.1 hC.2.1 d_Ha_write_4 rfl (lv_at hl 1 rfl) ?_
  refine lv_iload_n hC.1 hC.2.1 d_Ha_write_5 rfl (lv_at hl 2 rfl) ?_
  refine z_iast (ws' := [(o, .inr (0, [.ref qt, .ref qn, .int (iI z)])), (qt, eI t.1 400 (uZ T n y)), (qn, eI t.1 4800 F)]) hC hK hP hD hS 1 rfl (by omega) rfl d_Ha_write_6 (fun H locs hP hD hS => ?_)
  refine lv_aload_n hC.1 hC.2.1 d_Ha_write_7 rfl (lv_at hl 3 rfl) ?_
  refine lv_iload hC.1 hC.2.1 d_Ha_write_8 (lv_at hl 4 rfl) ?_
  refine lv_aload_n hC.1 hC.2.1 d_Ha_write_10 rfl (lv_at hl 0 rfl) ?_
  refine z_get (ci := 0) (C := R_Ha) (T := F_Ha) (N := 3) (v := .ref qn) hC in_Ha hK hP 0 rfl rfl 1 (by decide) k_84 rfl d_Ha_write_11 ?_
  refine lv_iload_n hC.1 hC.2.1 d_Ha_write_14 rfl (lv_at hl 1 rfl) ?_
  refine z_iconst hC d_Ha_write_15 ?_
  refine z_roSi (As := [.int (iI n), .int (iI 0)]) (rest := [.ref qn, .int (iI a), .ref (ts 0)]) hC (c_Ha_at l D t ts n 0 (12 * n) (by omega)) (cw_S hC k_141 k_142 k_5 k_143 ye_Ha_at (by decide)) hP hK hE hS [] rfl rfl hl.1 rfl (Nat.le_of_ble_eq_true rfl) ⟨Nat.le_of_ble_eq_true rfl, Nat.le_of_ble_eq_true rfl⟩ d_Ha_write_16 ?_
  refine z_iconst hC d_Ha_write_19 ?_
  refine z_copyT (ws' := [(o, .inr (0, [.ref qt, .ref qn, .int (iI z)])), (qt, eI t.1 400 (uZ T n y)), (qn, eI t.1 4800 (cZ z_UNITS F a (12 * n) 4))]) hC k_144 hl.1 hK hP hD hS hE.2.2.1 2 rfl (by omega) (by omega) (by decide) (Nat.le_of_ble_eq_true rfl) rfl d_Ha_write_20 (fun H locs hP hD hS => ?_)
  refine lv_aload_n hC.1 hC.2.1 d_Ha_write_23 rfl (lv_at hl 3 rfl) ?_
  refine lv_iload hC.1 hC.2.1 d_Ha_write_24 (lv_at hl 5 rfl) ?_
  refine lv_aload_n hC.1 hC.2.1 d_Ha_write_26 rfl (lv_at hl 0 rfl) ?_
  refine z_get (ci := 0) (C := R_Ha) (T := F_Ha) (N := 3) (v := .ref qn) hC in_Ha hK hP 0 rfl rfl 1 (by decide) k_84 rfl d_Ha_write_27 ?_
  refine lv_iload_n hC.1 hC.2.1 d_Ha_write_30 rfl (lv_at hl 1 rfl) ?_
  refine z_iconst hC d_Ha_write_31 ?_
  refine z_roSi (As := [.int (iI n), .int (iI 1)]) (rest := [.ref qn, .int (iI b), .ref (ts 0)]) hC (c_Ha_at l D t ts n 1 (12 * n + 4) (by omega)) (cw_S hC k_141 k_142 k_5 k_143 ye_Ha_at (by decide)) hP hK hE hS [] rfl rfl hl.1 rfl (Nat.le_of_ble_eq_true rfl) ⟨Nat.le_of_ble_eq_true rfl, Nat.le_of_ble_eq_true rfl⟩ d_Ha_write_32 ?_
  refine z_iconst hC d_Ha_write_35 ?_
  refine z_copyT (ws' := [(o, .inr (0, [.ref qt, .ref qn, .int (iI z)])), (qt, eI t.1 400 (uZ T n y)), (qn, eI t.1 4800 (cZ z_UNITS (cZ z_UNITS F a (12 * n) 4) b (12 * n + 4) 4))]) hC k_144 hl.1 hK hP hD hS hE.2.2.1 2 rfl (by omega) (by omega) (by decide) (Nat.le_of_ble_eq_true rfl) rfl d_Ha_write_36 (fun H locs hP hD hS => ?_)
  refine lv_aload_n hC.1 hC.2.1 d_Ha_write_39 rfl (lv_at hl 3 rfl) ?_
  refine lv_iload hC.1 hC.2.1 d_Ha_write_40 (lv_at hl 6 rfl) ?_
  refine lv_aload_n hC.1 hC.2.1 d_Ha_write_42 rfl (lv_at hl 0 rfl) ?_
  refine z_get (ci := 0) (C := R_Ha) (T := F_Ha) (N := 3) (v := .ref qn) hC in_Ha hK hP 0 rfl rfl 1 (by decide) k_84 rfl d_Ha_write_43 ?_
  refine lv_iload_n hC.1 hC.2.1 d_Ha_write_46 rfl (lv_at hl 1 rfl) ?_
  refine z_iconst hC d_Ha_write_47 ?_
  refine z_roSi (As := [.int (iI n), .int (iI 2)]) (rest := [.ref qn, .int (iI c), .ref (ts 0)]) hC (c_Ha_at l D t ts n 2 (12 * n + 8) (by omega)) (cw_S hC k_141 k_142 k_5 k_143 ye_Ha_at (by decide)) hP hK hE hS [] rfl rfl hl.1 rfl (Nat.le_of_ble_eq_true rfl) ⟨Nat.le_of_ble_eq_true rfl, Nat.le_of_ble_eq_true rfl⟩ d_Ha_write_48 ?_
  refine z_iconst hC d_Ha_write_51 ?_
  refine z_copyT (ws' := [(o, .inr (0, [.ref qt, .ref qn, .int (iI z)])), (qt, eI t.1 400 (uZ T n y)), (qn, eI t.1 4800 (cZ z_UNITS (cZ z_UNITS (cZ z_UNITS F a (12 * n) 4) b (12 * n + 4) 4) c (12 * n + 8) 4))]) hC k_144 hl.1 hK hP hD hS hE.2.2.1 2 rfl (by omega) (by omega) (by decide) (Nat.le_of_ble_eq_true rfl) rfl d_Ha_write_52 (fun H locs hP hD hS => ?_)
  have hP9 := hP.sub (ws' := [(o, .inr (0, [.ref qt, .ref qn, .int (iI z)])), (qt, eI t.1 400 (uZ T n y)), (qn, eI t.1 4800 (cZ z_UNITS (cZ z_UNITS (cZ z_UNITS F a (12 * n) 4) b (12 * n + 4) 4) c (12 * n + 8) 4))]) [0, 1, 2] rfl
  have hD9 := hD.sub (ws' := [(o, .inr (0, [.ref qt, .ref qn, .int (iI z)])), (qt, eI t.1 400 (uZ T n y)), (qn, eI t.1 4800 (cZ z_UNITS (cZ z_UNITS (cZ z_UNITS F a (12 * n) 4) b (12 * n + 4) 4) c (12 * n + 8) 4))]) [0, 1, 2] (by decide) rfl
  exact ret ((uZ T n y), (cZ z_UNITS (cZ z_UNITS (cZ z_UNITS F a (12 * n) 4) b (12 * n + 4) 4) c (12 * n + 8) 4)) _ _ 55 _ d_Ha_write_55 ⟨rfl, rfl⟩ hP9 hD9 hS
theorem ye_Ha_append : ye y_Ha_append R_Ha 5 := by unfold ye; decide +kernel
abbrev rm_Ha_append : Room := { frames := 2, cells := 0, slots := 0, locals := 52 }
set_option maxHeartbeats 4000000 in
set_option maxRecDepth 100000 in
theorem c_Ha_append (l : Launch) (D : va_G) (t : vt) (ts : Nat → Nat) (o qt qn w nr : Nat) (z : Int) (T F R : Int → Int) (y a b c : Int) (hz : 0 ≤ z ∧ z < 400) (ha : 0 ≤ a ∧ a + 3 < nr) (hb : 0 ≤ b ∧ b + 3 < nr) (hc : 0 ≤ c ∧ c + 3 < nr) (hr : (nr : Int) ≤ 2147483647) (hy : 0 ≤ y ∧ y ≤ 1) (hT : bT T) (hF : bF F) (hR : bF R) (z1 : Int) (hz1 : z1 = z + 1) (sz : Nat) : Met l y_Ha_append (.code y_Ha_append b_Ha_append 6 none :: tb_ws) rm_Ha_append (MP D t ts [.ref o, .int (iI y), .ref w, .int (iI a), .int (iI b), .int (iI c)] [(o, .inr (0, [.ref qt, .ref qn, .int (iI z)])), (qt, eI t.1 400 T), (qn, eI t.1 4800 F), (w, eI t.1 nr R)] sz) (va_Qv (fun u : (Int → Int) × (Int → Int) => u.1 = uZ T z y ∧ u.2 = wrN F z R a b c) (MB D (va_A [(o, .inr (0, [.ref qt, .ref qn, .int (iI z)])), (qt, eI t.1 400 T), (qn, eI t.1 4800 F), (w, eI t.1 nr R)] sz) (fun u : (Int → Int) × (Int → Int) => [(o, .inr (0, [.ref qt, .ref qn, .int (iI z1)])), (qt, eI t.1 400 u.1), (qn, eI t.1 4800 u.2), (w, eI t.1 nr R)])) (va_A [(o, .inr (0, [.ref qt, .ref qn, .int (iI z)])), (qt, eI t.1 400 T), (qn, eI t.1 4800 F), (w, eI t.1 nr R)] sz)) 0 0 (va_A [(o, .inr (0, [.ref qt, .ref qn, .int (iI z)])), (qt, eI t.1 400 T), (qn, eI t.1 4800 F), (w, eI t.1 nr R)] sz) := by
  refine m_v (by decide +kernel) (Nat.le_of_ble_eq_true rfl) ?_
  intro zp ze zs zm zb zt zc zQ A ls hC hA hP hK hD hE hS hl ret
  have hl : lv_has ls 6 [(0, .ref o), (1, .int (iI y)), (2, .ref w), (3, .int (iI a)), (4, .int (iI b)), (5, .int (iI c))] := hl
  subst hz1
  refine lv_aload_n hC.1 hC.2.1 d_Ha_append_0 rfl (lv_at hl 0 rfl) ?_
  refine z_get (ci := 0) (C := R_Ha) (T := F_Ha) (N := 3) (v := .int (iI z)) hC in_Ha hK hP 0 rfl rfl 2 (by decide) k_87 rfl d_Ha_append_1 ?_
  refine z_sipush hC d_Ha_append_4 (by decide) ?_
  refine z_icmp_ge (tgt := 35) hC d_Ha_append_7 (by decide) (by omega) (by decide) (fun h7 => ?_) (fun h7 => ?_)
  · exact absurd h7 (by omega)
  · refine lv_aload_n hC.1 hC.2.1 d_Ha_append_10 rfl (lv_at hl 0 rfl) ?_
    refine lv_aload_n hC.1 hC.2.1 d_Ha_append_11 rfl (lv_at hl 0 rfl) ?_
    refine z_get (ci := 0) (C := R_Ha) (T := F_Ha) (N := 3) (v := .int (iI z)) hC in_Ha hK hP 0 rfl rfl 2 (by decide) k_87 rfl d_Ha_append_12 ?_
    refine lv_iload_n hC.1 hC.2.1 d_Ha_append_15 rfl (lv_at hl 1 rfl) ?_
    refine lv_aload_n hC.1 hC.2.1 d_Ha_append_16 rfl (lv_at hl 2 rfl) ?_
    refine lv_iload_n hC.1 hC.2.1 d_Ha_append_17 rfl (lv_at hl 3 rfl) ?_
    refine lv_iload hC.1 hC.2.1 d_Ha_append_18 (lv_at hl 4 rfl) ?_
    refine lv_iload hC.1 hC.2.1 d_Ha_append_20 (lv_at hl 5 rfl) ?_
    refine z_mVv (As := [.int (iI z), .int (iI y), .ref w, .int (iI a), .int (iI b), .int (iI c)]) (rest := []) (wr := []) hC (c_Ha_write l D t ts o qt qn w nr z T F R z y a b c (by omega) (by omega) (by omega) (by omega) (by omega) _) (cw_V hC k_137 k_138 k_139 k_5 k_140 ye_Ha_write (by decide)) hP hD hK hE hS hA [0, 1, 2, 3] [] (by decide) rfl rfl (by decide) (by decide) 0 (ci := 0) rfl rfl rfl rfl hl.1 rfl (Nat.le_of_ble_eq_true rfl) ⟨Nat.le_of_ble_eq_true rfl, Nat.le_of_ble_eq_true rfl⟩ d_Ha_append_22 (fun u1 H locs eu1 hP hD hS => ?_)
    obtain ⟨u1T, u1N⟩ := u1
    obtain ⟨eu1T, eu1N⟩ := eu1
    dsimp only at eu1T eu1N hP hD
    have hu1T : bT u1T := by rw [eu1T]; exact bT_uZ hT (by omega)
    have hu1N : bF u1N := by rw [eu1N]; exact bF_wrN hF hR
    have hP : va_P D classes [(o, .inr (0, [.ref qt, .ref qn, .int (iI z)])), (qt, eI t.1 400 u1T), (qn, eI t.1 4800 u1N), (w, eI t.1 nr R)] H := hP
    have hD : va_D A [(o, .inr (0, [.ref qt, .ref qn, .int (iI z)])), (qt, eI t.1 400 u1T), (qn, eI t.1 4800 u1N), (w, eI t.1 nr R)] := hD
    refine lv_aload_n hC.1 hC.2.1 d_Ha_append_25 rfl (lv_at hl 0 rfl) ?_
    refine lv_dup hC.1 hC.2.1 d_Ha_append_26 rfl ?_
    refine z_get (ci := 0) (C := R_Ha) (T := F_Ha) (N := 3) (v := .int (iI z)) hC in_Ha hK hP 0 rfl rfl 2 (by decide) k_87 rfl d_Ha_append_27 ?_
    refine z_iconst hC d_Ha_append_30 ?_
    refine z_iadd hC d_Ha_append_31 ?_
    refine z_put (ci := 0) (C := R_Ha) (T := F_Ha) (N := 3) (v := .int (iI (z + 1))) (ws' := [(o, .inr (0, [.ref qt, .ref qn, .int (iI (z + 1))])), (qt, eI t.1 400 u1T), (qn, eI t.1 4800 u1N), (w, eI t.1 nr R)]) hC in_Ha t_Ha t_Ha_ok n_Ha hK hP hD hS 0 rfl rfl 2 (by decide) k_87 rfl rfl rfl (Nat.le_of_ble_eq_true rfl) rfl d_Ha_append_32 (fun H locs hP hD hS => ?_)
    have hP9 := hP.sub (ws' := [(o, .inr (0, [.ref qt, .ref qn, .int (iI (z + 1))])), (qt, eI t.1 400 u1T), (qn, eI t.1 4800 u1N), (w, eI t.1 nr R)]) [0, 1, 2, 3] rfl
    have hD9 := hD.sub (ws' := [(o, .inr (0, [.ref qt, .ref qn, .int (iI (z + 1))])), (qt, eI t.1 400 u1T), (qn, eI t.1 4800 u1N), (w, eI t.1 nr R)]) [0, 1, 2, 3] (by decide) rfl
    exact ret (u1T, u1N) _ _ 35 _ d_Ha_append_35 ⟨eu1T, eu1N⟩ hP9 hD9 hS
abbrev rm_Ha_appendU : Room := { frames := 2, cells := 0, slots := 0, locals := 52 }
set_option maxHeartbeats 4000000 in
set_option maxRecDepth 100000 in
theorem c_Ha_appendU (l : Launch) (D : va_G) (t : vt) (ts : Nat → Nat) (o qt qn : Nat) (z : Int) (T F : Int → Int) (y a b c : Int) (hz : 0 ≤ z ∧ z < 400) (ha : 0 ≤ a ∧ a + 3 < 44) (hb : 0 ≤ b ∧ b + 3 < 44) (hc : 0 ≤ c ∧ c + 3 < 44) (hy : 0 ≤ y ∧ y ≤ 1) (hT : bT T) (hF : bF F) (z1 : Int) (hz1 : z1 = z + 1) (sz : Nat) : Met l y_Ha_append (.code y_Ha_append b_Ha_append 6 none :: tb_ws) rm_Ha_appendU (MP D t ts [.ref o, .int (iI y), .ref (ts 0), .int (iI a), .int (iI b), .int (iI c)] [(o, .inr (0, [.ref qt, .ref qn, .int (iI z)])), (qt, eI t.1 400 T), (qn, eI t.1 4800 F)] sz) (va_Qv (fun u : (Int → Int) × (Int → Int) => u.1 = uZ T z y ∧ u.2 = wrN F z z_UNITS a b c) (MB D (va_A [(o, .inr (0, [.ref qt, .ref qn, .int (iI z)])), (qt, eI t.1 400 T), (qn, eI t.1 4800 F)] sz) (fun u : (Int → Int) × (Int → Int) => [(o, .inr (0, [.ref qt, .ref qn, .int (iI z1)])), (qt, eI t.1 400 u.1), (qn, eI t.1 4800 u.2)])) (va_A [(o, .inr (0, [.ref qt, .ref qn, .int (iI z)])), (qt, eI t.1 400 T), (qn, eI t.1 4800 F)] sz)) 0 0 (va_A [(o, .inr (0, [.ref qt, .ref qn, .int (iI z)])), (qt, eI t.1 400 T), (qn, eI t.1 4800 F)] sz) := by
  refine m_v (by decide +kernel) (Nat.le_of_ble_eq_true rfl) ?_
  intro zp ze zs zm zb zt zc zQ A ls hC hA hP hK hD hE hS hl ret
  have hl : lv_has ls 6 [(0, .ref o), (1, .int (iI y)), (2, .ref (ts 0)), (3, .int (iI a)), (4, .int (iI b)), (5, .int (iI c))] := hl
  subst hz1
  refine lv_aload_n hC.1 hC.2.1 d_Ha_append_0 rfl (lv_at hl 0 rfl) ?_
  refine z_get (ci := 0) (C := R_Ha) (T := F_Ha) (N := 3) (v := .int (iI z)) hC in_Ha hK hP 0 rfl rfl 2 (by decide) k_87 rfl d_Ha_append_1 ?_
  refine z_sipush hC d_Ha_append_4 (by decide) ?_
  refine z_icmp_ge (tgt := 35) hC d_Ha_append_7 (by decide) (by omega) (by decide) (fun h7 => ?_) (fun h7 => ?_)
  · exact absurd h7 (by omega)
  · refine lv_aload_n hC.1 hC.2.1 d_Ha_append_10 rfl (lv_at hl 0 rfl) ?_
    refine lv_aload_n hC.1 hC.2.1 d_Ha_append_11 rfl (lv_at hl 0 rfl) ?_
    refine z_get (ci := 0) (C := R_Ha) (T := F_Ha) (N := 3) (v := .int (iI z)) hC in_Ha hK hP 0 rfl rfl 2 (by decide) k_87 rfl d_Ha_append_12 ?_
    refine lv_iload_n hC.1 hC.2.1 d_Ha_append_15 rfl (lv_at hl 1 rfl) ?_
    refine lv_aload_n hC.1 hC.2.1 d_Ha_append_16 rfl (lv_at hl 2 rfl) ?_
    refine lv_iload_n hC.1 hC.2.1 d_Ha_append_17 rfl (lv_at hl 3 rfl) ?_
    refine lv_iload hC.1 hC.2.1 d_Ha_append_18 (lv_at hl 4 rfl) ?_
    refine lv_iload hC.1 hC.2.1 d_Ha_append_20 (lv_at hl 5 rfl) ?_
    refine z_mVv (As := [.int (iI z), .int (iI y), .ref (ts 0), .int (iI a), .int (iI b), .int (iI c)]) (rest := []) (wr := []) hC (c_Ha_writeU l D t ts o qt qn z T F z y a b c (by omega) (by omega) (by omega) (by omega) _) (cw_V hC k_137 k_138 k_139 k_5 k_140 ye_Ha_write (by decide)) hP hD hK hE hS hA [0, 1, 2] [] (by decide) rfl rfl (by decide) (by decide) 0 (ci := 0) rfl rfl rfl rfl hl.1 rfl (Nat.le_of_ble_eq_true rfl) ⟨Nat.le_of_ble_eq_true rfl, Nat.le_of_ble_eq_true rfl⟩ d_Ha_append_22 (fun u1 H locs eu1 hP hD hS => ?_)
    obtain ⟨u1T, u1N⟩ := u1
    obtain ⟨eu1T, eu1N⟩ := eu1
    dsimp only at eu1T eu1N hP hD
    have hu1T : bT u1T := by rw [eu1T]; exact bT_uZ hT (by omega)
    have hu1N : bF u1N := by rw [eu1N]; exact bF_wrN hF bF_UNITS
    have hP : va_P D classes [(o, .inr (0, [.ref qt, .ref qn, .int (iI z)])), (qt, eI t.1 400 u1T), (qn, eI t.1 4800 u1N)] H := hP
    have hD : va_D A [(o, .inr (0, [.ref qt, .ref qn, .int (iI z)])), (qt, eI t.1 400 u1T), (qn, eI t.1 4800 u1N)] := hD
    refine lv_aload_n hC.1 hC.2.1 d_Ha_append_25 rfl (lv_at hl 0 rfl) ?_
    refine lv_dup hC.1 hC.2.1 d_Ha_append_26 rfl ?_
    refine z_get (ci := 0) (C := R_Ha) (T := F_Ha) (N := 3) (v := .int (iI z)) hC in_Ha hK hP 0 rfl rfl 2 (by decide) k_87 rfl d_Ha_append_27 ?_
    refine z_iconst hC d_Ha_append_30 ?_
    refine z_iadd hC d_Ha_append_31 ?_
    refine z_put (ci := 0) (C := R_Ha) (T := F_Ha) (N := 3) (v := .int (iI (z + 1))) (ws' := [(o, .inr (0, [.ref qt, .ref qn, .int (iI (z + 1))])), (qt, eI t.1 400 u1T), (qn, eI t.1 4800 u1N)]) hC in_Ha t_Ha t_Ha_ok n_Ha hK hP hD hS 0 rfl rfl 2 (by decide) k_87 rfl rfl rfl (Nat.le_of_ble_eq_true rfl) rfl d_Ha_append_32 (fun H locs hP hD hS => ?_)
    have hP9 := hP.sub (ws' := [(o, .inr (0, [.ref qt, .ref qn, .int (iI (z + 1))])), (qt, eI t.1 400 u1T), (qn, eI t.1 4800 u1N)]) [0, 1, 2] rfl
    have hD9 := hD.sub (ws' := [(o, .inr (0, [.ref qt, .ref qn, .int (iI (z + 1))])), (qt, eI t.1 400 u1T), (qn, eI t.1 4800 u1N)]) [0, 1, 2] (by decide) rfl
    exact ret (u1T, u1N) _ _ 35 _ d_Ha_append_35 ⟨eu1T, eu1N⟩ hP9 hD9 hS
theorem ye_Ha_takeOut : ye y_Ha_takeOut R_Ha 1 := by unfold ye; decide +kernel
abbrev rm_Ha_takeOut : Room := { frames := 1, cells := 0, slots := 0, locals := 26 }
set_option maxHeartbeats 4000000 in
set_option maxRecDepth 100000 in
theorem c_Ha_takeOut (l : Launch) (D : va_G) (t : vt) (ts : Nat → Nat) (o qt qn : Nat) (z : Int) (T F : Int → Int) (n : Int) (hz : 0 ≤ z ∧ z ≤ 400) (hn : 0 ≤ n ∧ n < z) (sz : Nat) : Met l y_Ha_takeOut (.code y_Ha_takeOut b_Ha_takeOut 3 none :: tb_ws) rm_Ha_takeOut (MP D t ts [.ref o, .int (iI n)] [(o, .inr (0, [.ref qt, .ref qn, .int (iI z)])), (qt, eI t.1 400 T), (qn, eI t.1 4800 F)] sz) (va_Qv (fun u : (Int → Int) × (Int → Int) => u.1 = cZ T T (n + 1) n (z - n - 1) ∧ u.2 = cZ F F (12 * n + 12) (12 * n) (12 * (z - n - 1))) (MB D (va_A [(o, .inr (0, [.ref qt, .ref qn, .int (iI z)])), (qt, eI t.1 400 T), (qn, eI t.1 4800 F)] sz) (fun u : (Int → Int) × (Int → Int) => [(o, .inr (0, [.ref qt, .ref qn, .int (iI (z - 1))])), (qt, eI t.1 400 u.1), (qn, eI t.1 4800 u.2)])) (va_A [(o, .inr (0, [.ref qt, .ref qn, .int (iI z)])), (qt, eI t.1 400 T), (qn, eI t.1 4800 F)] sz)) 0 0 (va_A [(o, .inr (0, [.ref qt, .ref qn, .int (iI z)])), (qt, eI t.1 400 T), (qn, eI t.1 4800 F)] sz) := by
  refine m_v (by decide +kernel) (Nat.le_of_ble_eq_true rfl) ?_
  intro zp ze zs zm zb zt zc zQ A ls hC hA hP hK hD hE hS hl ret
  have hl : lv_has ls 3 [(0, .ref o), (1, .int (iI n))] := hl
  refine lv_aload_n hC.1 hC.2.1 d_Ha_takeOut_0 rfl (lv_at hl 0 rfl) ?_
  refine z_get (ci := 0) (C := R_Ha) (T := F_Ha) (N := 3) (v := .int (iI z)) hC in_Ha hK hP 0 rfl rfl 2 (by decide) k_87 rfl d_Ha_takeOut_1 ?_
  refine lv_iload_n hC.1 hC.2.1 d_Ha_takeOut_4 rfl (lv_at hl 1 rfl) ?_
  refine z_isub hC d_Ha_takeOut_5 ?_
  refine z_topi (z := -n + z) (by omega) ?_
  refine z_iconst hC d_Ha_takeOut_6 ?_
  refine z_isub hC d_Ha_takeOut_7 ?_
  refine z_topi (z := -n + z - 1) (by omega) ?_
  refine lv_istore_n (lv' := [(2, .int (iI (-n + z - 1))), (0, .ref o), (1, .int (iI n))]) hC.1 hC.2.1 d_Ha_takeOut_8 rfl hl (by decide) rfl (fun ls hl => ?_)
  refine lv_aload_n hC.1 hC.2.1 d_Ha_takeOut_9 rfl (lv_at hl 1 rfl) ?_
  refine z_get (ci := 0) (C := R_Ha) (T := F_Ha) (N := 3) (v := .ref qt) hC in_Ha hK hP 0 rfl rfl 0 (by decide) k_82 rfl d_Ha_takeOut_10 ?_
  refine lv_iload_n hC.1 hC.2.1 d_Ha_takeOut_13 rfl (lv_at hl 2 rfl) ?_
  refine z_iconst hC d_Ha_takeOut_14 ?_
  refine z_iadd hC d_Ha_takeOut_15 ?_
  refine lv_aload_n hC.1 hC.2.1 d_Ha_takeOut_16 rfl (lv_at hl 1 rfl) ?_
  refine z_get (ci := 0) (C := R_Ha) (T := F_Ha) (N := 3) (v := .ref qt) hC in_Ha hK hP 0 rfl rfl 0 (by decide) k_82 rfl d_Ha_takeOut_17 ?_
  refine lv_iload_n hC.1 hC.2.1 d_Ha_takeOut_20 rfl (lv_at hl 2 rfl) ?_
  refine lv_iload_n hC.1 hC.2.1 d_Ha_takeOut_21 rfl (lv_at hl 0 rfl) ?_
  refine z_copyi (ws' := [(o, .inr (0, [.ref qt, .ref qn, .int (iI z)])), (qt, eI t.1 400 (cZ T T (n + 1) n (-n + z - 1))), (qn, eI t.1 4800 F)]) hC k_144 hl.1 hK hP hD hS 1 1 rfl rfl (by omega) (by omega) (by decide) (Nat.le_of_ble_eq_true rfl) rfl d_Ha_takeOut_22 (fun H locs hP hD hS => ?_)
  refine lv_aload_n hC.1 hC.2.1 d_Ha_takeOut_25 rfl (lv_at hl 1 rfl) ?_
  refine z_get (ci := 0) (C := R_Ha) (T := F_Ha) (N := 3) (v := .ref qn) hC in_Ha hK hP 0 rfl rfl 1 (by decide) k_84 rfl d_Ha_takeOut_26 ?_
  refine lv_iload_n hC.1 hC.2.1 d_Ha_takeOut_29 rfl (lv_at hl 2 rfl) ?_
  refine z_iconst hC d_Ha_takeOut_30 ?_
  refine z_iadd hC d_Ha_takeOut_31 ?_
  refine z_iconst hC d_Ha_takeOut_32 ?_
  refine z_roSi (As := [.int (iI (n + 1)), .int (iI 0)]) (rest := [.ref qn]) hC (c_Ha_at l D t ts (n + 1) 0 (12 * n + 12) (by omega)) (cw_S hC k_141 k_142 k_5 k_143 ye_Ha_at (by decide)) hP hK hE hS [] rfl rfl hl.1 rfl (Nat.le_of_ble_eq_true rfl) ⟨Nat.le_of_ble_eq_true rfl, Nat.le_of_ble_eq_true rfl⟩ d_Ha_takeOut_33 ?_
  refine lv_aload_n hC.1 hC.2.1 d_Ha_takeOut_36 rfl (lv_at hl 1 rfl) ?_
  refine z_get (ci := 0) (C := R_Ha) (T := F_Ha) (N := 3) (v := .ref qn) hC in_Ha hK hP 0 rfl rfl 1 (by decide) k_84 rfl d_Ha_takeOut_37 ?_
  refine lv_iload_n hC.1 hC.2.1 d_Ha_takeOut_40 rfl (lv_at hl 2 rfl) ?_
  refine z_iconst hC d_Ha_takeOut_41 ?_
  refine z_roSi (As := [.int (iI n), .int (iI 0)]) (rest := [.ref qn, .int (iI (12 * n + 12)), .ref qn]) hC (c_Ha_at l D t ts n 0 (12 * n) (by omega)) (cw_S hC k_141 k_142 k_5 k_143 ye_Ha_at (by decide)) hP hK hE hS [] rfl rfl hl.1 rfl (Nat.le_of_ble_eq_true rfl) ⟨Nat.le_of_ble_eq_true rfl, Nat.le_of_ble_eq_true rfl⟩ d_Ha_takeOut_42 ?_
  refine lv_iload_n hC.1 hC.2.1 d_Ha_takeOut_45 rfl (lv_at hl 0 rfl) ?_
  refine z_bipush hC d_Ha_takeOut_46 (by decide) ?_
  refine z_imul hC d_Ha_takeOut_48 ?_
  refine z_topi (z := -(12 * n) + 12 * z - 12) (by omega) ?_
  refine z_copyi (ws' := [(o, .inr (0, [.ref qt, .ref qn, .int (iI z)])), (qt, eI t.1 400 (cZ T T (n + 1) n (-n + z - 1))), (qn, eI t.1 4800 (cZ F F (12 * n + 12) (12 * n) (-(12 * n) + 12 * z - 12)))]) hC k_144 hl.1 hK hP hD hS 2 2 rfl rfl (by omega) (by omega) (by decide) (Nat.le_of_ble_eq_true rfl) rfl d_Ha_takeOut_49 (fun H locs hP hD hS => ?_)
  refine lv_aload_n hC.1 hC.2.1 d_Ha_takeOut_52 rfl (lv_at hl 1 rfl) ?_
  refine lv_dup hC.1 hC.2.1 d_Ha_takeOut_53 rfl ?_
  refine z_get (ci := 0) (C := R_Ha) (T := F_Ha) (N := 3) (v := .int (iI z)) hC in_Ha hK hP 0 rfl rfl 2 (by decide) k_87 rfl d_Ha_takeOut_54 ?_
  refine z_iconst hC d_Ha_takeOut_57 ?_
  refine z_isub hC d_Ha_takeOut_58 ?_
  refine z_put (ci := 0) (C := R_Ha) (T := F_Ha) (N := 3) (v := .int (iI (z - 1))) (ws' := [(o, .inr (0, [.ref qt, .ref qn, .int (iI (z - 1))])), (qt, eI t.1 400 (cZ T T (n + 1) n (-n + z - 1))), (qn, eI t.1 4800 (cZ F F (12 * n + 12) (12 * n) (-(12 * n) + 12 * z - 12)))]) hC in_Ha t_Ha t_Ha_ok n_Ha hK hP hD hS 0 rfl rfl 2 (by decide) k_87 rfl rfl rfl (Nat.le_of_ble_eq_true rfl) rfl d_Ha_takeOut_59 (fun H locs hP hD hS => ?_)
  have hP9 := hP.sub (ws' := [(o, .inr (0, [.ref qt, .ref qn, .int (iI (z - 1))])), (qt, eI t.1 400 (cZ T T (n + 1) n (-n + z - 1))), (qn, eI t.1 4800 (cZ F F (12 * n + 12) (12 * n) (-(12 * n) + 12 * z - 12)))]) [0, 1, 2] rfl
  have hD9 := hD.sub (ws' := [(o, .inr (0, [.ref qt, .ref qn, .int (iI (z - 1))])), (qt, eI t.1 400 (cZ T T (n + 1) n (-n + z - 1))), (qn, eI t.1 4800 (cZ F F (12 * n + 12) (12 * n) (-(12 * n) + 12 * z - 12)))]) [0, 1, 2] (by decide) rfl
  exact ret ((cZ T T (n + 1) n (-n + z - 1)), (cZ F F (12 * n + 12) (12 * n) (-(12 * n) + 12 * z - 12))) _ _ 62 _ d_Ha_takeOut_62 ⟨by rw [show z - n - 1 = -n + z - 1 by omega], by rw [show 12 * (z - n - 1) = -(12 * n) + 12 * z - 12 by omega]⟩ hP9 hD9 hS
theorem ye_St_measure : ye y_St_measure R_St 2 := by unfold ye; decide +kernel
abbrev rm_St_measure : Room := { frames := 1, cells := 0, slots := 0, locals := 23 }
set_option maxHeartbeats 4000000 in
set_option maxRecDepth 100000 in
theorem c_St_measure (l : Launch) (D : va_G) (t : vt) (ts : Nat → Nat) (o ql qh hp qt qn : Nat) (z : Int) (Lo Hi F : Int → Int) (n : Int) (hn : 0 ≤ n ∧ n < 400) (hF : bF F) (sz : Nat) : Met l y_St_measure (.code y_St_measure b_St_measure 10 none :: tb_ws) rm_St_measure (MP D t ts [.ref o, .ref hp, .int (iI n)] [(o, .inr (2, [.ref ql, .ref qh])), (ql, eL t.2.1 2000 Lo), (qh, eL t.2.1 2000 Hi), (hp, .inr (0, [.ref qt, .ref qn, .int (iI z)])), (qn, eI t.1 4800 F)] sz) (va_Qv (fun u : (Int → Int) × (Int → Int) => u.1 = mLo Lo F n ∧ u.2 = mHi Hi F n) (MB D (va_A [(o, .inr (2, [.ref ql, .ref qh])), (ql, eL t.2.1 2000 Lo), (qh, eL t.2.1 2000 Hi), (hp, .inr (0, [.ref qt, .ref qn, .int (iI z)])), (qn, eI t.1 4800 F)] sz) (fun u : (Int → Int) × (Int → Int) => [(o, .inr (2, [.ref ql, .ref qh])), (ql, eL t.2.1 2000 u.1), (qh, eL t.2.1 2000 u.2), (hp, .inr (0, [.ref qt, .ref qn, .int (iI z)])), (qn, eI t.1 4800 F)])) (va_A [(o, .inr (2, [.ref ql, .ref qh])), (ql, eL t.2.1 2000 Lo), (qh, eL t.2.1 2000 Hi), (hp, .inr (0, [.ref qt, .ref qn, .int (iI z)])), (qn, eI t.1 4800 F)] sz)) 0 0 (va_A [(o, .inr (2, [.ref ql, .ref qh])), (ql, eL t.2.1 2000 Lo), (qh, eL t.2.1 2000 Hi), (hp, .inr (0, [.ref qt, .ref qn, .int (iI z)])), (qn, eI t.1 4800 F)] sz) := by
  refine m_v (by decide +kernel) (Nat.le_of_ble_eq_true rfl) ?_
  intro zp ze zs zm zb zt zc zQ A ls hC hA hP hK hD hE hS hl ret
  have hl : lv_has ls 10 [(0, .ref o), (1, .ref hp), (2, .int (iI n))] := hl
  refine z_iconst hC d_St_measure_0 ?_
  refine lv_istore_n (lv' := [(3, .int (iI 0)), (0, .ref o), (1, .ref hp), (2, .int (iI n))]) hC.1 hC.2.1 d_St_measure_1 rfl hl (by decide) rfl (fun ls hl => ?_)
  refine lv_iload_n hC.1 hC.2.1 d_St_measure_2 rfl (lv_at hl 0 rfl) ?_
  refine z_iconst hC d_St_measure_3 ?_
  refine z_icmp_ge (tgt := 102) hC d_St_measure_4 (by decide) (by decide) (by decide) (fun h => absurd h (by decide)) (fun _ => ?_)
  refine lv_iload_n hC.1 hC.2.1 d_St_measure_7 rfl (lv_at hl 0 rfl) ?_
  refine lv_aload_n hC.1 hC.2.1 d_St_measure_8 rfl (lv_at hl 2 rfl) ?_
  refine z_getN (ci := 0) (C := R_Ha) (T := F_Ha) (N := 3) (v := .ref qn) hC in_Ha hK hP 3 rfl rfl 1 (by decide) hE.1.2.1 rfl d_St_measure_9 ?_
  refine lv_iload_n hC.1 hC.2.1 d_St_measure_12 rfl (lv_at hl 3 rfl) ?_
  refine z_iconst hC d_St_measure_13 ?_
  refine z_roSi (As := [.int (iI n), .int (iI 0)]) (rest := [.ref qn, .int (iI 0)]) hC (c_Ha_at l D t ts n 0 (12 * n) (by omega)) (cw_S hC k_155 k_142 k_5 k_143 ye_Ha_at (by decide)) hP hK hE hS [] rfl rfl hl.1 rfl (Nat.le_of_ble_eq_true rfl) ⟨Nat.le_of_ble_eq_true rfl, Nat.le_of_ble_eq_true rfl⟩ d_St_measure_14 ?_
  refine z_roSl (As := [.int (iI 0), .ref qn, .int (iI (12 * n))]) (rest := []) hC (c_Po_height l D t ts 0 qn 4800 F (12 * n) (by omega) (by decide) (by omega) hF) (cw_S hC k_156 k_157 k_8 k_158 ye_Po_height (by decide)) hP hK hE hS [4] rfl rfl hl.1 rfl (Nat.le_of_ble_eq_true rfl) ⟨Nat.le_of_ble_eq_true rfl, Nat.le_of_ble_eq_true rfl⟩ d_St_measure_17 ?_
  refine lv_lstore (lv' := [(4, .long (lI (hZ 0 F (12 * n)))), (3, .int (iI 0)), (0, .ref o), (1, .ref hp), (2, .int (iI n))]) hC.1 hC.2.1 d_St_measure_20 hl (by decide) rfl (fun ls hl => ?_)
  refine lv_iload_n hC.1 hC.2.1 d_St_measure_22 rfl (lv_at hl 1 rfl) ?_
  refine lv_aload_n hC.1 hC.2.1 d_St_measure_23 rfl (lv_at hl 3 rfl) ?_
  refine z_getN (ci := 0) (C := R_Ha) (T := F_Ha) (N := 3) (v := .ref qn) hC in_Ha hK hP 3 rfl rfl 1 (by decide) hE.1.2.1 rfl d_St_measure_24 ?_
  refine lv_iload_n hC.1 hC.2.1 d_St_measure_27 rfl (lv_at hl 4 rfl) ?_
  refine z_iconst hC d_St_measure_28 ?_
  refine z_roSi (As := [.int (iI n), .int (iI 1)]) (rest := [.ref qn, .int (iI 0)]) hC (c_Ha_at l D t ts n 1 (12 * n + 4) (by omega)) (cw_S hC k_155 k_142 k_5 k_143 ye_Ha_at (by decide)) hP hK hE hS [] rfl rfl hl.1 rfl (Nat.le_of_ble_eq_true rfl) ⟨Nat.le_of_ble_eq_true rfl, Nat.le_of_ble_eq_true rfl⟩ d_St_measure_29 ?_
  refine z_roSl (As := [.int (iI 0), .ref qn, .int (iI (12 * n + 4))]) (rest := []) hC (c_Po_height l D t ts 0 qn 4800 F (12 * n + 4) (by omega) (by decide) (by omega) hF) (cw_S hC k_156 k_157 k_8 k_158 ye_Po_height (by decide)) hP hK hE hS [4] rfl rfl hl.1 rfl (Nat.le_of_ble_eq_true rfl) ⟨Nat.le_of_ble_eq_true rfl, Nat.le_of_ble_eq_true rfl⟩ d_St_measure_32 ?_
  refine lv_lstore (lv' := [(6, .long (lI (hZ 0 F (12 * n + 4)))), (4, .long (lI (hZ 0 F (12 * n)))), (3, .int (iI 0)), (0, .ref o), (1, .ref hp), (2, .int (iI n))]) hC.1 hC.2.1 d_St_measure_35 hl (by decide) rfl (fun ls hl => ?_)
  refine lv_iload_n hC.1 hC.2.1 d_St_measure_37 rfl (lv_at hl 2 rfl) ?_
  refine lv_aload_n hC.1 hC.2.1 d_St_measure_38 rfl (lv_at hl 4 rfl) ?_
  refine z_getN (ci := 0) (C := R_Ha) (T := F_Ha) (N := 3) (v := .ref qn) hC in_Ha hK hP 3 rfl rfl 1 (by decide) hE.1.2.1 rfl d_St_measure_39 ?_
  refine lv_iload_n hC.1 hC.2.1 d_St_measure_42 rfl (lv_at hl 5 rfl) ?_
  refine z_iconst hC d_St_measure_43 ?_
  refine z_roSi (As := [.int (iI n), .int (iI 2)]) (rest := [.ref qn, .int (iI 0)]) hC (c_Ha_at l D t ts n 2 (12 * n + 8) (by omega)) (cw_S hC k_155 k_142 k_5 k_143 ye_Ha_at (by decide)) hP hK hE hS [] rfl rfl hl.1 rfl (Nat.le_of_ble_eq_true rfl) ⟨Nat.le_of_ble_eq_true rfl, Nat.le_of_ble_eq_true rfl⟩ d_St_measure_44 ?_
  refine z_roSl (As := [.int (iI 0), .ref qn, .int (iI (12 * n + 8))]) (rest := []) hC (c_Po_height l D t ts 0 qn 4800 F (12 * n + 8) (by omega) (by decide) (by omega) hF) (cw_S hC k_156 k_157 k_8 k_158 ye_Po_height (by decide)) hP hK hE hS [4] rfl rfl hl.1 rfl (Nat.le_of_ble_eq_true rfl) ⟨Nat.le_of_ble_eq_true rfl, Nat.le_of_ble_eq_true rfl⟩ d_St_measure_47 ?_
  refine lv_lstore (lv' := [(8, .long (lI (hZ 0 F (12 * n + 8)))), (6, .long (lI (hZ 0 F (12 * n + 4)))), (4, .long (lI (hZ 0 F (12 * n)))), (3, .int (iI 0)), (0, .ref o), (1, .ref hp), (2, .int (iI n))]) hC.1 hC.2.1 d_St_measure_50 hl (by decide) rfl (fun ls hl => ?_)
  refine lv_aload_n hC.1 hC.2.1 d_St_measure_52 rfl (lv_at hl 4 rfl) ?_
  refine z_get (ci := 2) (C := R_St) (T := F_St) (N := 2) (v := .ref ql) hC in_St hK hP 0 rfl rfl 0 (by decide) k_27 rfl d_St_measure_53 ?_
  refine lv_iload_n hC.1 hC.2.1 d_St_measure_56 rfl (lv_at hl 6 rfl) ?_
  refine z_iconst hC d_St_measure_57 ?_
  refine z_imul hC d_St_measure_58 ?_
  refine z_topi (z := 5 * n) (by omega) ?_
  refine lv_iload_n hC.1 hC.2.1 d_St_measure_59 rfl (lv_at hl 3 rfl) ?_
  refine z_iadd hC d_St_measure_60 ?_
  refine z_topi (z := 5 * n) (by omega) ?_
  refine lv_lload hC.1 hC.2.1 d_St_measure_61 (lv_at hl 2 rfl) ?_
  refine lv_lload hC.1 hC.2.1 d_St_measure_63 (lv_at hl 1 rfl) ?_
  refine lv_lload hC.1 hC.2.1 d_St_measure_65 (lv_at hl 0 rfl) ?_
  refine z_lmin hC k_161 hl.1 (by decide) (Nat.le_of_ble_eq_true rfl) ⟨Nat.le_of_ble_eq_true rfl, Nat.le_of_ble_eq_true rfl⟩ (by have := hZ_in hF 0 (12 * n + 4); omega) (by have := hZ_in hF 0 (12 * n + 8); omega) d_St_measure_67 ?_
  refine z_lmin hC k_161 hl.1 (by decide) (Nat.le_of_ble_eq_true rfl) ⟨Nat.le_of_ble_eq_true rfl, Nat.le_of_ble_eq_true rfl⟩ (by have := hZ_in hF 0 (12 * n); omega) (by have := hZ_in hF 0 (12 * n + 4); have := hZ_in hF 0 (12 * n + 8); omega) d_St_measure_70 ?_
  refine z_last (ws' := [(o, .inr (2, [.ref ql, .ref qh])), (ql, eL t.2.1 2000 (uZ Lo (5 * n) (min (hZ 0 F (12 * n)) (min (hZ 0 F (12 * n + 4)) (hZ 0 F (12 * n + 8)))))), (qh, eL t.2.1 2000 Hi), (hp, .inr (0, [.ref qt, .ref qn, .int (iI z)])), (qn, eI t.1 4800 F)]) hC hK hP hD hS 1 rfl (by omega) rfl d_St_measure_73 (fun H locs hP hD hS => ?_)
  refine lv_aload_n hC.1 hC.2.1 d_St_measure_74 rfl (lv_at hl 4 rfl) ?_
  refine z_get (ci := 2) (C := R_St) (T := F_St) (N := 2) (v := .ref qh) hC in_St hK hP 0 rfl rfl 1 (by decide) k_28 rfl d_St_measure_75 ?_
  refine lv_iload_n hC.1 hC.2.1 d_St_measure_78 rfl (lv_at hl 6 rfl) ?_
  refine z_iconst hC d_St_measure_79 ?_
  refine z_imul hC d_St_measure_80 ?_
  refine z_topi (z := 5 * n) (by omega) ?_
  refine lv_iload_n hC.1 hC.2.1 d_St_measure_81 rfl (lv_at hl 3 rfl) ?_
  refine z_iadd hC d_St_measure_82 ?_
  refine z_topi (z := 5 * n) (by omega) ?_
  refine lv_lload hC.1 hC.2.1 d_St_measure_83 (lv_at hl 2 rfl) ?_
  refine lv_lload hC.1 hC.2.1 d_St_measure_85 (lv_at hl 1 rfl) ?_
  refine lv_lload hC.1 hC.2.1 d_St_measure_87 (lv_at hl 0 rfl) ?_
  refine z_lmax hC k_164 hl.1 (by decide) (Nat.le_of_ble_eq_true rfl) ⟨Nat.le_of_ble_eq_true rfl, Nat.le_of_ble_eq_true rfl⟩ (by have := hZ_in hF 0 (12 * n + 4); omega) (by have := hZ_in hF 0 (12 * n + 8); omega) d_St_measure_89 ?_
  refine z_lmax hC k_164 hl.1 (by decide) (Nat.le_of_ble_eq_true rfl) ⟨Nat.le_of_ble_eq_true rfl, Nat.le_of_ble_eq_true rfl⟩ (by have := hZ_in hF 0 (12 * n); omega) (by have := hZ_in hF 0 (12 * n + 4); have := hZ_in hF 0 (12 * n + 8); omega) d_St_measure_92 ?_
  refine z_last (ws' := [(o, .inr (2, [.ref ql, .ref qh])), (ql, eL t.2.1 2000 (uZ Lo (5 * n) (min (hZ 0 F (12 * n)) (min (hZ 0 F (12 * n + 4)) (hZ 0 F (12 * n + 8)))))), (qh, eL t.2.1 2000 (uZ Hi (5 * n) (max (hZ 0 F (12 * n)) (max (hZ 0 F (12 * n + 4)) (hZ 0 F (12 * n + 8)))))), (hp, .inr (0, [.ref qt, .ref qn, .int (iI z)])), (qn, eI t.1 4800 F)]) hC hK hP hD hS 2 rfl (by omega) rfl d_St_measure_95 (fun H locs hP hD hS => ?_)
  refine lv_iinc (v := iI 1) (lv' := [(3, .int (iI 1)), (8, .long (lI (hZ 0 F (12 * n + 8)))), (6, .long (lI (hZ 0 F (12 * n + 4)))), (4, .long (lI (hZ 0 F (12 * n)))), (0, .ref o), (1, .ref hp), (2, .int (iI n))]) hC.1 hC.2.1 d_St_measure_96 hl (k := 3) rfl (z_inc (by omega)) (by decide) rfl (fun ls hl => ?_)
  refine z_goto (tgt := 2) hC d_St_measure_99 (by decide) ?_
  refine lv_iload_n hC.1 hC.2.1 d_St_measure_2 rfl (lv_at hl 0 rfl) ?_
  refine z_iconst hC d_St_measure_3 ?_
  refine z_icmp_ge (tgt := 102) hC d_St_measure_4 (by decide) (by decide) (by decide) (fun h => absurd h (by decide)) (fun _ => ?_)
  refine lv_iload_n hC.1 hC.2.1 d_St_measure_7 rfl (lv_at hl 0 rfl) ?_
  refine lv_aload_n hC.1 hC.2.1 d_St_measure_8 rfl (lv_at hl 5 rfl) ?_
  refine z_getN (ci := 0) (C := R_Ha) (T := F_Ha) (N := 3) (v := .ref qn) hC in_Ha hK hP 3 rfl rfl 1 (by decide) hE.1.2.1 rfl d_St_measure_9 ?_
  refine lv_iload_n hC.1 hC.2.1 d_St_measure_12 rfl (lv_at hl 6 rfl) ?_
  refine z_iconst hC d_St_measure_13 ?_
  refine z_roSi (As := [.int (iI n), .int (iI 0)]) (rest := [.ref qn, .int (iI 1)]) hC (c_Ha_at l D t ts n 0 (12 * n) (by omega)) (cw_S hC k_155 k_142 k_5 k_143 ye_Ha_at (by decide)) hP hK hE hS [] rfl rfl hl.1 rfl (Nat.le_of_ble_eq_true rfl) ⟨Nat.le_of_ble_eq_true rfl, Nat.le_of_ble_eq_true rfl⟩ d_St_measure_14 ?_
  refine z_roSl (As := [.int (iI 1), .ref qn, .int (iI (12 * n))]) (rest := []) hC (c_Po_height l D t ts 1 qn 4800 F (12 * n) (by omega) (by decide) (by omega) hF) (cw_S hC k_156 k_157 k_8 k_158 ye_Po_height (by decide)) hP hK hE hS [4] rfl rfl hl.1 rfl (Nat.le_of_ble_eq_true rfl) ⟨Nat.le_of_ble_eq_true rfl, Nat.le_of_ble_eq_true rfl⟩ d_St_measure_17 ?_
  refine lv_lstore (lv' := [(4, .long (lI (hZ 1 F (12 * n)))), (3, .int (iI 1)), (8, .long (lI (hZ 0 F (12 * n + 8)))), (6, .long (lI (hZ 0 F (12 * n + 4)))), (0, .ref o), (1, .ref hp), (2, .int (iI n))]) hC.1 hC.2.1 d_St_measure_20 hl (by decide) rfl (fun ls hl => ?_)
  refine lv_iload_n hC.1 hC.2.1 d_St_measure_22 rfl (lv_at hl 1 rfl) ?_
  refine lv_aload_n hC.1 hC.2.1 d_St_measure_23 rfl (lv_at hl 5 rfl) ?_
  refine z_getN (ci := 0) (C := R_Ha) (T := F_Ha) (N := 3) (v := .ref qn) hC in_Ha hK hP 3 rfl rfl 1 (by decide) hE.1.2.1 rfl d_St_measure_24 ?_
  refine lv_iload_n hC.1 hC.2.1 d_St_measure_27 rfl (lv_at hl 6 rfl) ?_
  refine z_iconst hC d_St_measure_28 ?_
  refine z_roSi (As := [.int (iI n), .int (iI 1)]) (rest := [.ref qn, .int (iI 1)]) hC (c_Ha_at l D t ts n 1 (12 * n + 4) (by omega)) (cw_S hC k_155 k_142 k_5 k_143 ye_Ha_at (by decide)) hP hK hE hS [] rfl rfl hl.1 rfl (Nat.le_of_ble_eq_true rfl) ⟨Nat.le_of_ble_eq_true rfl, Nat.le_of_ble_eq_true rfl⟩ d_St_measure_29 ?_
  refine z_roSl (As := [.int (iI 1), .ref qn, .int (iI (12 * n + 4))]) (rest := []) hC (c_Po_height l D t ts 1 qn 4800 F (12 * n + 4) (by omega) (by decide) (by omega) hF) (cw_S hC k_156 k_157 k_8 k_158 ye_Po_height (by decide)) hP hK hE hS [4] rfl rfl hl.1 rfl (Nat.le_of_ble_eq_true rfl) ⟨Nat.le_of_ble_eq_true rfl, Nat.le_of_ble_eq_true rfl⟩ d_St_measure_32 ?_
  refine lv_lstore (lv' := [(6, .long (lI (hZ 1 F (12 * n + 4)))), (4, .long (lI (hZ 1 F (12 * n)))), (3, .int (iI 1)), (8, .long (lI (hZ 0 F (12 * n + 8)))), (0, .ref o), (1, .ref hp), (2, .int (iI n))]) hC.1 hC.2.1 d_St_measure_35 hl (by decide) rfl (fun ls hl => ?_)
  refine lv_iload_n hC.1 hC.2.1 d_St_measure_37 rfl (lv_at hl 2 rfl) ?_
  refine lv_aload_n hC.1 hC.2.1 d_St_measure_38 rfl (lv_at hl 5 rfl) ?_
  refine z_getN (ci := 0) (C := R_Ha) (T := F_Ha) (N := 3) (v := .ref qn) hC in_Ha hK hP 3 rfl rfl 1 (by decide) hE.1.2.1 rfl d_St_measure_39 ?_
  refine lv_iload_n hC.1 hC.2.1 d_St_measure_42 rfl (lv_at hl 6 rfl) ?_
  refine z_iconst hC d_St_measure_43 ?_
  refine z_roSi (As := [.int (iI n), .int (iI 2)]) (rest := [.ref qn, .int (iI 1)]) hC (c_Ha_at l D t ts n 2 (12 * n + 8) (by omega)) (cw_S hC k_155 k_142 k_5 k_143 ye_Ha_at (by decide)) hP hK hE hS [] rfl rfl hl.1 rfl (Nat.le_of_ble_eq_true rfl) ⟨Nat.le_of_ble_eq_true rfl, Nat.le_of_ble_eq_true rfl⟩ d_St_measure_44 ?_
  refine z_roSl (As := [.int (iI 1), .ref qn, .int (iI (12 * n + 8))]) (rest := []) hC (c_Po_height l D t ts 1 qn 4800 F (12 * n + 8) (by omega) (by decide) (by omega) hF) (cw_S hC k_156 k_157 k_8 k_158 ye_Po_height (by decide)) hP hK hE hS [4] rfl rfl hl.1 rfl (Nat.le_of_ble_eq_true rfl) ⟨Nat.le_of_ble_eq_true rfl, Nat.le_of_ble_eq_true rfl⟩ d_St_measure_47 ?_
  refine lv_lstore (lv' := [(8, .long (lI (hZ 1 F (12 * n + 8)))), (6, .long (lI (hZ 1 F (12 * n + 4)))), (4, .long (lI (hZ 1 F (12 * n)))), (3, .int (iI 1)), (0, .ref o), (1, .ref hp), (2, .int (iI n))]) hC.1 hC.2.1 d_St_measure_50 hl (by decide) rfl (fun ls hl => ?_)
  refine lv_aload_n hC.1 hC.2.1 d_St_measure_52 rfl (lv_at hl 4 rfl) ?_
  refine z_get (ci := 2) (C := R_St) (T := F_St) (N := 2) (v := .ref ql) hC in_St hK hP 0 rfl rfl 0 (by decide) k_27 rfl d_St_measure_53 ?_
  refine lv_iload_n hC.1 hC.2.1 d_St_measure_56 rfl (lv_at hl 6 rfl) ?_
  refine z_iconst hC d_St_measure_57 ?_
  refine z_imul hC d_St_measure_58 ?_
  refine z_topi (z := 5 * n) (by omega) ?_
  refine lv_iload_n hC.1 hC.2.1 d_St_measure_59 rfl (lv_at hl 3 rfl) ?_
  refine z_iadd hC d_St_measure_60 ?_
  refine z_topi (z := 5 * n + 1) (by omega) ?_
  refine lv_lload hC.1 hC.2.1 d_St_measure_61 (lv_at hl 2 rfl) ?_
  refine lv_lload hC.1 hC.2.1 d_St_measure_63 (lv_at hl 1 rfl) ?_
  refine lv_lload hC.1 hC.2.1 d_St_measure_65 (lv_at hl 0 rfl) ?_
  refine z_lmin hC k_161 hl.1 (by decide) (Nat.le_of_ble_eq_true rfl) ⟨Nat.le_of_ble_eq_true rfl, Nat.le_of_ble_eq_true rfl⟩ (by have := hZ_in hF 1 (12 * n + 4); omega) (by have := hZ_in hF 1 (12 * n + 8); omega) d_St_measure_67 ?_
  refine z_lmin hC k_161 hl.1 (by decide) (Nat.le_of_ble_eq_true rfl) ⟨Nat.le_of_ble_eq_true rfl, Nat.le_of_ble_eq_true rfl⟩ (by have := hZ_in hF 1 (12 * n); omega) (by have := hZ_in hF 1 (12 * n + 4); have := hZ_in hF 1 (12 * n + 8); omega) d_St_measure_70 ?_
  refine z_last (ws' := [(o, .inr (2, [.ref ql, .ref qh])), (ql, eL t.2.1 2000 (uZ (uZ Lo (5 * n) (min (hZ 0 F (12 * n)) (min (hZ 0 F (12 * n + 4)) (hZ 0 F (12 * n + 8))))) (5 * n + 1) (min (hZ 1 F (12 * n)) (min (hZ 1 F (12 * n + 4)) (hZ 1 F (12 * n + 8)))))), (qh, eL t.2.1 2000 (uZ Hi (5 * n) (max (hZ 0 F (12 * n)) (max (hZ 0 F (12 * n + 4)) (hZ 0 F (12 * n + 8)))))), (hp, .inr (0, [.ref qt, .ref qn, .int (iI z)])), (qn, eI t.1 4800 F)]) hC hK hP hD hS 1 rfl (by omega) rfl d_St_measure_73 (fun H locs hP hD hS => ?_)
  refine lv_aload_n hC.1 hC.2.1 d_St_measure_74 rfl (lv_at hl 4 rfl) ?_
  refine z_get (ci := 2) (C := R_St) (T := F_St) (N := 2) (v := .ref qh) hC in_St hK hP 0 rfl rfl 1 (by decide) k_28 rfl d_St_measure_75 ?_
  refine lv_iload_n hC.1 hC.2.1 d_St_measure_78 rfl (lv_at hl 6 rfl) ?_
  refine z_iconst hC d_St_measure_79 ?_
  refine z_imul hC d_St_measure_80 ?_
  refine z_topi (z := 5 * n) (by omega) ?_
  refine lv_iload_n hC.1 hC.2.1 d_St_measure_81 rfl (lv_at hl 3 rfl) ?_
  refine z_iadd hC d_St_measure_82 ?_
  refine z_topi (z := 5 * n + 1) (by omega) ?_
  refine lv_lload hC.1 hC.2.1 d_St_measure_83 (lv_at hl 2 rfl) ?_
  refine lv_lload hC.1 hC.2.1 d_St_measure_85 (lv_at hl 1 rfl) ?_
  refine lv_lload hC.1 hC.2.1 d_St_measure_87 (lv_at hl 0 rfl) ?_
  refine z_lmax hC k_164 hl.1 (by decide) (Nat.le_of_ble_eq_true rfl) ⟨Nat.le_of_ble_eq_true rfl, Nat.le_of_ble_eq_true rfl⟩ (by have := hZ_in hF 1 (12 * n + 4); omega) (by have := hZ_in hF 1 (12 * n + 8); omega) d_St_measure_89 ?_
  refine z_lmax hC k_164 hl.1 (by decide) (Nat.le_of_ble_eq_true rfl) ⟨Nat.le_of_ble_eq_true rfl, Nat.le_of_ble_eq_true rfl⟩ (by have := hZ_in hF 1 (12 * n); omega) (by have := hZ_in hF 1 (12 * n + 4); have := hZ_in hF 1 (12 * n + 8); omega) d_St_measure_92 ?_
  refine z_last (ws' := [(o, .inr (2, [.ref ql, .ref qh])), (ql, eL t.2.1 2000 (uZ (uZ Lo (5 * n) (min (hZ 0 F (12 * n)) (min (hZ 0 F (12 * n + 4)) (hZ 0 F (12 * n + 8))))) (5 * n + 1) (min (hZ 1 F (12 * n)) (min (hZ 1 F (12 * n + 4)) (hZ 1 F (12 * n + 8)))))), (qh, eL t.2.1 2000 (uZ (uZ Hi (5 * n) (max (hZ 0 F (12 * n)) (max (hZ 0 F (12 * n + 4)) (hZ 0 F (12 * n + 8))))) (5 * n + 1) (max (hZ 1 F (12 * n)) (max (hZ 1 F (12 * n + 4)) (hZ 1 F (12 * n + 8)))))), (hp, .inr (0, [.ref qt, .ref qn, .int (iI z)])), (qn, eI t.1 4800 F)]) hC hK hP hD hS 2 rfl (by omega) rfl d_St_measure_95 (fun H locs hP hD hS => ?_)
  refine lv_iinc (v := iI 2) (lv' := [(3, .int (iI 2)), (8, .long (lI (hZ 1 F (12 * n + 8)))), (6, .long (lI (hZ 1 F (12 * n + 4)))), (4, .long (lI (hZ 1 F (12 * n)))), (0, .ref o), (1, .ref hp), (2, .int (iI n))]) hC.1 hC.2.1 d_St_measure_96 hl (k := 3) rfl (z_inc (by omega)) (by decide) rfl (fun ls hl => ?_)
  refine z_goto (tgt := 2) hC d_St_measure_99 (by decide) ?_
  refine lv_iload_n hC.1 hC.2.1 d_St_measure_2 rfl (lv_at hl 0 rfl) ?_
  refine z_iconst hC d_St_measure_3 ?_
  refine z_icmp_ge (tgt := 102) hC d_St_measure_4 (by decide) (by decide) (by decide) (fun h => absurd h (by decide)) (fun _ => ?_)
  refine lv_iload_n hC.1 hC.2.1 d_St_measure_7 rfl (lv_at hl 0 rfl) ?_
  refine lv_aload_n hC.1 hC.2.1 d_St_measure_8 rfl (lv_at hl 5 rfl) ?_
  refine z_getN (ci := 0) (C := R_Ha) (T := F_Ha) (N := 3) (v := .ref qn) hC in_Ha hK hP 3 rfl rfl 1 (by decide) hE.1.2.1 rfl d_St_measure_9 ?_
  refine lv_iload_n hC.1 hC.2.1 d_St_measure_12 rfl (lv_at hl 6 rfl) ?_
  refine z_iconst hC d_St_measure_13 ?_
  refine z_roSi (As := [.int (iI n), .int (iI 0)]) (rest := [.ref qn, .int (iI 2)]) hC (c_Ha_at l D t ts n 0 (12 * n) (by omega)) (cw_S hC k_155 k_142 k_5 k_143 ye_Ha_at (by decide)) hP hK hE hS [] rfl rfl hl.1 rfl (Nat.le_of_ble_eq_true rfl) ⟨Nat.le_of_ble_eq_true rfl, Nat.le_of_ble_eq_true rfl⟩ d_St_measure_14 ?_
  refine z_roSl (As := [.int (iI 2), .ref qn, .int (iI (12 * n))]) (rest := []) hC (c_Po_height l D t ts 2 qn 4800 F (12 * n) (by omega) (by decide) (by omega) hF) (cw_S hC k_156 k_157 k_8 k_158 ye_Po_height (by decide)) hP hK hE hS [4] rfl rfl hl.1 rfl (Nat.le_of_ble_eq_true rfl) ⟨Nat.le_of_ble_eq_true rfl, Nat.le_of_ble_eq_true rfl⟩ d_St_measure_17 ?_
  refine lv_lstore (lv' := [(4, .long (lI (hZ 2 F (12 * n)))), (3, .int (iI 2)), (8, .long (lI (hZ 1 F (12 * n + 8)))), (6, .long (lI (hZ 1 F (12 * n + 4)))), (0, .ref o), (1, .ref hp), (2, .int (iI n))]) hC.1 hC.2.1 d_St_measure_20 hl (by decide) rfl (fun ls hl => ?_)
  refine lv_iload_n hC.1 hC.2.1 d_St_measure_22 rfl (lv_at hl 1 rfl) ?_
  refine lv_aload_n hC.1 hC.2.1 d_St_measure_23 rfl (lv_at hl 5 rfl) ?_
  refine z_getN (ci := 0) (C := R_Ha) (T := F_Ha) (N := 3) (v := .ref qn) hC in_Ha hK hP 3 rfl rfl 1 (by decide) hE.1.2.1 rfl d_St_measure_24 ?_
  refine lv_iload_n hC.1 hC.2.1 d_St_measure_27 rfl (lv_at hl 6 rfl) ?_
  refine z_iconst hC d_St_measure_28 ?_
  refine z_roSi (As := [.int (iI n), .int (iI 1)]) (rest := [.ref qn, .int (iI 2)]) hC (c_Ha_at l D t ts n 1 (12 * n + 4) (by omega)) (cw_S hC k_155 k_142 k_5 k_143 ye_Ha_at (by decide)) hP hK hE hS [] rfl rfl hl.1 rfl (Nat.le_of_ble_eq_true rfl) ⟨Nat.le_of_ble_eq_true rfl, Nat.le_of_ble_eq_true rfl⟩ d_St_measure_29 ?_
  refine z_roSl (As := [.int (iI 2), .ref qn, .int (iI (12 * n + 4))]) (rest := []) hC (c_Po_height l D t ts 2 qn 4800 F (12 * n + 4) (by omega) (by decide) (by omega) hF) (cw_S hC k_156 k_157 k_8 k_158 ye_Po_height (by decide)) hP hK hE hS [4] rfl rfl hl.1 rfl (Nat.le_of_ble_eq_true rfl) ⟨Nat.le_of_ble_eq_true rfl, Nat.le_of_ble_eq_true rfl⟩ d_St_measure_32 ?_
  refine lv_lstore (lv' := [(6, .long (lI (hZ 2 F (12 * n + 4)))), (4, .long (lI (hZ 2 F (12 * n)))), (3, .int (iI 2)), (8, .long (lI (hZ 1 F (12 * n + 8)))), (0, .ref o), (1, .ref hp), (2, .int (iI n))]) hC.1 hC.2.1 d_St_measure_35 hl (by decide) rfl (fun ls hl => ?_)
  refine lv_iload_n hC.1 hC.2.1 d_St_measure_37 rfl (lv_at hl 2 rfl) ?_
  refine lv_aload_n hC.1 hC.2.1 d_St_measure_38 rfl (lv_at hl 5 rfl) ?_
  refine z_getN (ci := 0) (C := R_Ha) (T := F_Ha) (N := 3) (v := .ref qn) hC in_Ha hK hP 3 rfl rfl 1 (by decide) hE.1.2.1 rfl d_St_measure_39 ?_
  refine lv_iload_n hC.1 hC.2.1 d_St_measure_42 rfl (lv_at hl 6 rfl) ?_
  refine z_iconst hC d_St_measure_43 ?_
  refine z_roSi (As := [.int (iI n), .int (iI 2)]) (rest := [.ref qn, .int (iI 2)]) hC (c_Ha_at l D t ts n 2 (12 * n + 8) (by omega)) (cw_S hC k_155 k_142 k_5 k_143 ye_Ha_at (by decide)) hP hK hE hS [] rfl rfl hl.1 rfl (Nat.le_of_ble_eq_true rfl) ⟨Nat.le_of_ble_eq_true rfl, Nat.le_of_ble_eq_true rfl⟩ d_St_measure_44 ?_
  refine z_roSl (As := [.int (iI 2), .ref qn, .int (iI (12 * n + 8))]) (rest := []) hC (c_Po_height l D t ts 2 qn 4800 F (12 * n + 8) (by omega) (by decide) (by omega) hF) (cw_S hC k_156 k_157 k_8 k_158 ye_Po_height (by decide)) hP hK hE hS [4] rfl rfl hl.1 rfl (Nat.le_of_ble_eq_true rfl) ⟨Nat.le_of_ble_eq_true rfl, Nat.le_of_ble_eq_true rfl⟩ d_St_measure_47 ?_
  refine lv_lstore (lv' := [(8, .long (lI (hZ 2 F (12 * n + 8)))), (6, .long (lI (hZ 2 F (12 * n + 4)))), (4, .long (lI (hZ 2 F (12 * n)))), (3, .int (iI 2)), (0, .ref o), (1, .ref hp), (2, .int (iI n))]) hC.1 hC.2.1 d_St_measure_50 hl (by decide) rfl (fun ls hl => ?_)
  refine lv_aload_n hC.1 hC.2.1 d_St_measure_52 rfl (lv_at hl 4 rfl) ?_
  refine z_get (ci := 2) (C := R_St) (T := F_St) (N := 2) (v := .ref ql) hC in_St hK hP 0 rfl rfl 0 (by decide) k_27 rfl d_St_measure_53 ?_
  refine lv_iload_n hC.1 hC.2.1 d_St_measure_56 rfl (lv_at hl 6 rfl) ?_
  refine z_iconst hC d_St_measure_57 ?_
  refine z_imul hC d_St_measure_58 ?_
  refine z_topi (z := 5 * n) (by omega) ?_
  refine lv_iload_n hC.1 hC.2.1 d_St_measure_59 rfl (lv_at hl 3 rfl) ?_
  refine z_iadd hC d_St_measure_60 ?_
  refine z_topi (z := 5 * n + 2) (by omega) ?_
  refine lv_lload hC.1 hC.2.1 d_St_measure_61 (lv_at hl 2 rfl) ?_
  refine lv_lload hC.1 hC.2.1 d_St_measure_63 (lv_at hl 1 rfl) ?_
  refine lv_lload hC.1 hC.2.1 d_St_measure_65 (lv_at hl 0 rfl) ?_
  refine z_lmin hC k_161 hl.1 (by decide) (Nat.le_of_ble_eq_true rfl) ⟨Nat.le_of_ble_eq_true rfl, Nat.le_of_ble_eq_true rfl⟩ (by have := hZ_in hF 2 (12 * n + 4); omega) (by have := hZ_in hF 2 (12 * n + 8); omega) d_St_measure_67 ?_
  refine z_lmin hC k_161 hl.1 (by decide) (Nat.le_of_ble_eq_true rfl) ⟨Nat.le_of_ble_eq_true rfl, Nat.le_of_ble_eq_true rfl⟩ (by have := hZ_in hF 2 (12 * n); omega) (by have := hZ_in hF 2 (12 * n + 4); have := hZ_in hF 2 (12 * n + 8); omega) d_St_measure_70 ?_
  refine z_last (ws' := [(o, .inr (2, [.ref ql, .ref qh])), (ql, eL t.2.1 2000 (uZ (uZ (uZ Lo (5 * n) (min (hZ 0 F (12 * n)) (min (hZ 0 F (12 * n + 4)) (hZ 0 F (12 * n + 8))))) (5 * n + 1) (min (hZ 1 F (12 * n)) (min (hZ 1 F (12 * n + 4)) (hZ 1 F (12 * n + 8))))) (5 * n + 2) (min (hZ 2 F (12 * n)) (min (hZ 2 F (12 * n + 4)) (hZ 2 F (12 * n + 8)))))), (qh, eL t.2.1 2000 (uZ (uZ Hi (5 * n) (max (hZ 0 F (12 * n)) (max (hZ 0 F (12 * n + 4)) (hZ 0 F (12 * n + 8))))) (5 * n + 1) (max (hZ 1 F (12 * n)) (max (hZ 1 F (12 * n + 4)) (hZ 1 F (12 * n + 8)))))), (hp, .inr (0, [.ref qt, .ref qn, .int (iI z)])), (qn, eI t.1 4800 F)]) hC hK hP hD hS 1 rfl (by omega) rfl d_St_measure_73 (fun H locs hP hD hS => ?_)
  refine lv_aload_n hC.1 hC.2.1 d_St_measure_74 rfl (lv_at hl 4 rfl) ?_
  refine z_get (ci := 2) (C := R_St) (T := F_St) (N := 2) (v := .ref qh) hC in_St hK hP 0 rfl rfl 1 (by decide) k_28 rfl d_St_measure_75 ?_
  refine lv_iload_n hC.1 hC.2.1 d_St_measure_78 rfl (lv_at hl 6 rfl) ?_
  refine z_iconst hC d_St_measure_79 ?_
  refine z_imul hC d_St_measure_80 ?_
  refine z_topi (z := 5 * n) (by omega) ?_
  refine lv_iload_n hC.1 hC.2.1 d_St_measure_81 rfl (lv_at hl 3 rfl) ?_
  refine z_iadd hC d_St_measure_82 ?_
  refine z_topi (z := 5 * n + 2) (by omega) ?_
  refine lv_lload hC.1 hC.2.1 d_St_measure_83 (lv_at hl 2 rfl) ?_
  refine lv_lload hC.1 hC.2.1 d_St_measure_85 (lv_at hl 1 rfl) ?_
  refine lv_lload hC.1 hC.2.1 d_St_measure_87 (lv_at hl 0 rfl) ?_
  refine z_lmax hC k_164 hl.1 (by decide) (Nat.le_of_ble_eq_true rfl) ⟨Nat.le_of_ble_eq_true rfl, Nat.le_of_ble_eq_true rfl⟩ (by have := hZ_in hF 2 (12 * n + 4); omega) (by have := hZ_in hF 2 (12 * n + 8); omega) d_St_measure_89 ?_
  refine z_lmax hC k_164 hl.1 (by decide) (Nat.le_of_ble_eq_true rfl) ⟨Nat.le_of_ble_eq_true rfl, Nat.le_of_ble_eq_true rfl⟩ (by have := hZ_in hF 2 (12 * n); omega) (by have := hZ_in hF 2 (12 * n + 4); have := hZ_in hF 2 (12 * n + 8); omega) d_St_measure_92 ?_
  refine z_last (ws' := [(o, .inr (2, [.ref ql, .ref qh])), (ql, eL t.2.1 2000 (uZ (uZ (uZ Lo (5 * n) (min (hZ 0 F (12 * n)) (min (hZ 0 F (12 * n + 4)) (hZ 0 F (12 * n + 8))))) (5 * n + 1) (min (hZ 1 F (12 * n)) (min (hZ 1 F (12 * n + 4)) (hZ 1 F (12 * n + 8))))) (5 * n + 2) (min (hZ 2 F (12 * n)) (min (hZ 2 F (12 * n + 4)) (hZ 2 F (12 * n + 8)))))), (qh, eL t.2.1 2000 (uZ (uZ (uZ Hi (5 * n) (max (hZ 0 F (12 * n)) (max (hZ 0 F (12 * n + 4)) (hZ 0 F (12 * n + 8))))) (5 * n + 1) (max (hZ 1 F (12 * n)) (max (hZ 1 F (12 * n + 4)) (hZ 1 F (12 * n + 8))))) (5 * n + 2) (max (hZ 2 F (12 * n)) (max (hZ 2 F (12 * n + 4)) (hZ 2 F (12 * n + 8)))))), (hp, .inr (0, [.ref qt, .ref qn, .int (iI z)])), (qn, eI t.1 4800 F)]) hC hK hP hD hS 2 rfl (by omega) rfl d_St_measure_95 (fun H locs hP hD hS => ?_)
  refine lv_iinc (v := iI 3) (lv' := [(3, .int (iI 3)), (8, .long (lI (hZ 2 F (12 * n + 8)))), (6, .long (lI (hZ 2 F (12 * n + 4)))), (4, .long (lI (hZ 2 F (12 * n)))), (0, .ref o), (1, .ref hp), (2, .int (iI n))]) hC.1 hC.2.1 d_St_measure_96 hl (k := 3) rfl (z_inc (by omega)) (by decide) rfl (fun ls hl => ?_)
  refine z_goto (tgt := 2) hC d_St_measure_99 (by decide) ?_
  refine lv_iload_n hC.1 hC.2.1 d_St_measure_2 rfl (lv_at hl 0 rfl) ?_
  refine z_iconst hC d_St_measure_3 ?_
  refine z_icmp_ge (tgt := 102) hC d_St_measure_4 (by decide) (by decide) (by decide) (fun h => absurd h (by decide)) (fun _ => ?_)
  refine lv_iload_n hC.1 hC.2.1 d_St_measure_7 rfl (lv_at hl 0 rfl) ?_
  refine lv_aload_n hC.1 hC.2.1 d_St_measure_8 rfl (lv_at hl 5 rfl) ?_
  refine z_getN (ci := 0) (C := R_Ha) (T := F_Ha) (N := 3) (v := .ref qn) hC in_Ha hK hP 3 rfl rfl 1 (by decide) hE.1.2.1 rfl d_St_measure_9 ?_
  refine lv_iload_n hC.1 hC.2.1 d_St_measure_12 rfl (lv_at hl 6 rfl) ?_
  refine z_iconst hC d_St_measure_13 ?_
  refine z_roSi (As := [.int (iI n), .int (iI 0)]) (rest := [.ref qn, .int (iI 3)]) hC (c_Ha_at l D t ts n 0 (12 * n) (by omega)) (cw_S hC k_155 k_142 k_5 k_143 ye_Ha_at (by decide)) hP hK hE hS [] rfl rfl hl.1 rfl (Nat.le_of_ble_eq_true rfl) ⟨Nat.le_of_ble_eq_true rfl, Nat.le_of_ble_eq_true rfl⟩ d_St_measure_14 ?_
  refine z_roSl (As := [.int (iI 3), .ref qn, .int (iI (12 * n))]) (rest := []) hC (c_Po_height l D t ts 3 qn 4800 F (12 * n) (by omega) (by decide) (by omega) hF) (cw_S hC k_156 k_157 k_8 k_158 ye_Po_height (by decide)) hP hK hE hS [4] rfl rfl hl.1 rfl (Nat.le_of_ble_eq_true rfl) ⟨Nat.le_of_ble_eq_true rfl, Nat.le_of_ble_eq_true rfl⟩ d_St_measure_17 ?_
  refine lv_lstore (lv' := [(4, .long (lI (hZ 3 F (12 * n)))), (3, .int (iI 3)), (8, .long (lI (hZ 2 F (12 * n + 8)))), (6, .long (lI (hZ 2 F (12 * n + 4)))), (0, .ref o), (1, .ref hp), (2, .int (iI n))]) hC.1 hC.2.1 d_St_measure_20 hl (by decide) rfl (fun ls hl => ?_)
  refine lv_iload_n hC.1 hC.2.1 d_St_measure_22 rfl (lv_at hl 1 rfl) ?_
  refine lv_aload_n hC.1 hC.2.1 d_St_measure_23 rfl (lv_at hl 5 rfl) ?_
  refine z_getN (ci := 0) (C := R_Ha) (T := F_Ha) (N := 3) (v := .ref qn) hC in_Ha hK hP 3 rfl rfl 1 (by decide) hE.1.2.1 rfl d_St_measure_24 ?_
  refine lv_iload_n hC.1 hC.2.1 d_St_measure_27 rfl (lv_at hl 6 rfl) ?_
  refine z_iconst hC d_St_measure_28 ?_
  refine z_roSi (As := [.int (iI n), .int (iI 1)]) (rest := [.ref qn, .int (iI 3)]) hC (c_Ha_at l D t ts n 1 (12 * n + 4) (by omega)) (cw_S hC k_155 k_142 k_5 k_143 ye_Ha_at (by decide)) hP hK hE hS [] rfl rfl hl.1 rfl (Nat.le_of_ble_eq_true rfl) ⟨Nat.le_of_ble_eq_true rfl, Nat.le_of_ble_eq_true rfl⟩ d_St_measure_29 ?_
  refine z_roSl (As := [.int (iI 3), .ref qn, .int (iI (12 * n + 4))]) (rest := []) hC (c_Po_height l D t ts 3 qn 4800 F (12 * n + 4) (by omega) (by decide) (by omega) hF) (cw_S hC k_156 k_157 k_8 k_158 ye_Po_height (by decide)) hP hK hE hS [4] rfl rfl hl.1 rfl (Nat.le_of_ble_eq_true rfl) ⟨Nat.le_of_ble_eq_true rfl, Nat.le_of_ble_eq_true rfl⟩ d_St_measure_32 ?_
  refine lv_lstore (lv' := [(6, .long (lI (hZ 3 F (12 * n + 4)))), (4, .long (lI (hZ 3 F (12 * n)))), (3, .int (iI 3)), (8, .long (lI (hZ 2 F (12 * n + 8)))), (0, .ref o), (1, .ref hp), (2, .int (iI n))]) hC.1 hC.2.1 d_St_measure_35 hl (by decide) rfl (fun ls hl => ?_)
  refine lv_iload_n hC.1 hC.2.1 d_St_measure_37 rfl (lv_at hl 2 rfl) ?_
  refine lv_aload_n hC.1 hC.2.1 d_St_measure_38 rfl (lv_at hl 5 rfl) ?_
  refine z_getN (ci := 0) (C := R_Ha) (T := F_Ha) (N := 3) (v := .ref qn) hC in_Ha hK hP 3 rfl rfl 1 (by decide) hE.1.2.1 rfl d_St_measure_39 ?_
  refine lv_iload_n hC.1 hC.2.1 d_St_measure_42 rfl (lv_at hl 6 rfl) ?_
  refine z_iconst hC d_St_measure_43 ?_
  refine z_roSi (As := [.int (iI n), .int (iI 2)]) (rest := [.ref qn, .int (iI 3)]) hC (c_Ha_at l D t ts n 2 (12 * n + 8) (by omega)) (cw_S hC k_155 k_142 k_5 k_143 ye_Ha_at (by decide)) hP hK hE hS [] rfl rfl hl.1 rfl (Nat.le_of_ble_eq_true rfl) ⟨Nat.le_of_ble_eq_true rfl, Nat.le_of_ble_eq_true rfl⟩ d_St_measure_44 ?_
  refine z_roSl (As := [.int (iI 3), .ref qn, .int (iI (12 * n + 8))]) (rest := []) hC (c_Po_height l D t ts 3 qn 4800 F (12 * n + 8) (by omega) (by decide) (by omega) hF) (cw_S hC k_156 k_157 k_8 k_158 ye_Po_height (by decide)) hP hK hE hS [4] rfl rfl hl.1 rfl (Nat.le_of_ble_eq_true rfl) ⟨Nat.le_of_ble_eq_true rfl, Nat.le_of_ble_eq_true rfl⟩ d_St_measure_47 ?_
  refine lv_lstore (lv' := [(8, .long (lI (hZ 3 F (12 * n + 8)))), (6, .long (lI (hZ 3 F (12 * n + 4)))), (4, .long (lI (hZ 3 F (12 * n)))), (3, .int (iI 3)), (0, .ref o), (1, .ref hp), (2, .int (iI n))]) hC.1 hC.2.1 d_St_measure_50 hl (by decide) rfl (fun ls hl => ?_)
  refine lv_aload_n hC.1 hC.2.1 d_St_measure_52 rfl (lv_at hl 4 rfl) ?_
  refine z_get (ci := 2) (C := R_St) (T := F_St) (N := 2) (v := .ref ql) hC in_St hK hP 0 rfl rfl 0 (by decide) k_27 rfl d_St_measure_53 ?_
  refine lv_iload_n hC.1 hC.2.1 d_St_measure_56 rfl (lv_at hl 6 rfl) ?_
  refine z_iconst hC d_St_measure_57 ?_
  refine z_imul hC d_St_measure_58 ?_
  refine z_topi (z := 5 * n) (by omega) ?_
  refine lv_iload_n hC.1 hC.2.1 d_St_measure_59 rfl (lv_at hl 3 rfl) ?_
  refine z_iadd hC d_St_measure_60 ?_
  refine z_topi (z := 5 * n + 3) (by omega) ?_
  refine lv_lload hC.1 hC.2.1 d_St_measure_61 (lv_at hl 2 rfl) ?_
  refine lv_lload hC.1 hC.2.1 d_St_measure_63 (lv_at hl 1 rfl) ?_
  refine lv_lload hC.1 hC.2.1 d_St_measure_65 (lv_at hl 0 rfl) ?_
  refine z_lmin hC k_161 hl.1 (by decide) (Nat.le_of_ble_eq_true rfl) ⟨Nat.le_of_ble_eq_true rfl, Nat.le_of_ble_eq_true rfl⟩ (by have := hZ_in hF 3 (12 * n + 4); omega) (by have := hZ_in hF 3 (12 * n + 8); omega) d_St_measure_67 ?_
  refine z_lmin hC k_161 hl.1 (by decide) (Nat.le_of_ble_eq_true rfl) ⟨Nat.le_of_ble_eq_true rfl, Nat.le_of_ble_eq_true rfl⟩ (by have := hZ_in hF 3 (12 * n); omega) (by have := hZ_in hF 3 (12 * n + 4); have := hZ_in hF 3 (12 * n + 8); omega) d_St_measure_70 ?_
  refine z_last (ws' := [(o, .inr (2, [.ref ql, .ref qh])), (ql, eL t.2.1 2000 (uZ (uZ (uZ (uZ Lo (5 * n) (min (hZ 0 F (12 * n)) (min (hZ 0 F (12 * n + 4)) (hZ 0 F (12 * n + 8))))) (5 * n + 1) (min (hZ 1 F (12 * n)) (min (hZ 1 F (12 * n + 4)) (hZ 1 F (12 * n + 8))))) (5 * n + 2) (min (hZ 2 F (12 * n)) (min (hZ 2 F (12 * n + 4)) (hZ 2 F (12 * n + 8))))) (5 * n + 3) (min (hZ 3 F (12 * n)) (min (hZ 3 F (12 * n + 4)) (hZ 3 F (12 * n + 8)))))), (qh, eL t.2.1 2000 (uZ (uZ (uZ Hi (5 * n) (max (hZ 0 F (12 * n)) (max (hZ 0 F (12 * n + 4)) (hZ 0 F (12 * n + 8))))) (5 * n + 1) (max (hZ 1 F (12 * n)) (max (hZ 1 F (12 * n + 4)) (hZ 1 F (12 * n + 8))))) (5 * n + 2) (max (hZ 2 F (12 * n)) (max (hZ 2 F (12 * n + 4)) (hZ 2 F (12 * n + 8)))))), (hp, .inr (0, [.ref qt, .ref qn, .int (iI z)])), (qn, eI t.1 4800 F)]) hC hK hP hD hS 1 rfl (by omega) rfl d_St_measure_73 (fun H locs hP hD hS => ?_)
  refine lv_aload_n hC.1 hC.2.1 d_St_measure_74 rfl (lv_at hl 4 rfl) ?_
  refine z_get (ci := 2) (C := R_St) (T := F_St) (N := 2) (v := .ref qh) hC in_St hK hP 0 rfl rfl 1 (by decide) k_28 rfl d_St_measure_75 ?_
  refine lv_iload_n hC.1 hC.2.1 d_St_measure_78 rfl (lv_at hl 6 rfl) ?_
  refine z_iconst hC d_St_measure_79 ?_
  refine z_imul hC d_St_measure_80 ?_
  refine z_topi (z := 5 * n) (by omega) ?_
  refine lv_iload_n hC.1 hC.2.1 d_St_measure_81 rfl (lv_at hl 3 rfl) ?_
  refine z_iadd hC d_St_measure_82 ?_
  refine z_topi (z := 5 * n + 3) (by omega) ?_
  refine lv_lload hC.1 hC.2.1 d_St_measure_83 (lv_at hl 2 rfl) ?_
  refine lv_lload hC.1 hC.2.1 d_St_measure_85 (lv_at hl 1 rfl) ?_
  refine lv_lload hC.1 hC.2.1 d_St_measure_87 (lv_at hl 0 rfl) ?_
  refine z_lmax hC k_164 hl.1 (by decide) (Nat.le_of_ble_eq_true rfl) ⟨Nat.le_of_ble_eq_true rfl, Nat.le_of_ble_eq_true rfl⟩ (by have := hZ_in hF 3 (12 * n + 4); omega) (by have := hZ_in hF 3 (12 * n + 8); omega) d_St_measure_89 ?_
  refine z_lmax hC k_164 hl.1 (by decide) (Nat.le_of_ble_eq_true rfl) ⟨Nat.le_of_ble_eq_true rfl, Nat.le_of_ble_eq_true rfl⟩ (by have := hZ_in hF 3 (12 * n); omega) (by have := hZ_in hF 3 (12 * n + 4); have := hZ_in hF 3 (12 * n + 8); omega) d_St_measure_92 ?_
  refine z_last (ws' := [(o, .inr (2, [.ref ql, .ref qh])), (ql, eL t.2.1 2000 (uZ (uZ (uZ (uZ Lo (5 * n) (min (hZ 0 F (12 * n)) (min (hZ 0 F (12 * n + 4)) (hZ 0 F (12 * n + 8))))) (5 * n + 1) (min (hZ 1 F (12 * n)) (min (hZ 1 F (12 * n + 4)) (hZ 1 F (12 * n + 8))))) (5 * n + 2) (min (hZ 2 F (12 * n)) (min (hZ 2 F (12 * n + 4)) (hZ 2 F (12 * n + 8))))) (5 * n + 3) (min (hZ 3 F (12 * n)) (min (hZ 3 F (12 * n + 4)) (hZ 3 F (12 * n + 8)))))), (qh, eL t.2.1 2000 (uZ (uZ (uZ (uZ Hi (5 * n) (max (hZ 0 F (12 * n)) (max (hZ 0 F (12 * n + 4)) (hZ 0 F (12 * n + 8))))) (5 * n + 1) (max (hZ 1 F (12 * n)) (max (hZ 1 F (12 * n + 4)) (hZ 1 F (12 * n + 8))))) (5 * n + 2) (max (hZ 2 F (12 * n)) (max (hZ 2 F (12 * n + 4)) (hZ 2 F (12 * n + 8))))) (5 * n + 3) (max (hZ 3 F (12 * n)) (max (hZ 3 F (12 * n + 4)) (hZ 3 F (12 * n + 8)))))), (hp, .inr (0, [.ref qt, .ref qn, .int (iI z)])), (qn, eI t.1 4800 F)]) hC hK hP hD hS 2 rfl (by omega) rfl d_St_measure_95 (fun H locs hP hD hS => ?_)
  refine lv_iinc (v := iI 4) (lv' := [(3, .int (iI 4)), (8, .long (lI (hZ 3 F (12 * n + 8)))), (6, .long (lI (hZ 3 F (12 * n + 4)))), (4, .long (lI (hZ 3 F (12 * n)))), (0, .ref o), (1, .ref hp), (2, .int (iI n))]) hC.1 hC.2.1 d_St_measure_96 hl (k := 3) rfl (z_inc (by omega)) (by decide) rfl (fun ls hl => ?_)
  refine z_goto (tgt := 2) hC d_St_measure_99 (by decide) ?_
  refine lv_iload_n hC.1 hC.2.1 d_St_measure_2 rfl (lv_at hl 0 rfl) ?_
  refine z_iconst hC d_St_measure_3 ?_
  refine z_icmp_ge (tgt := 102) hC d_St_measure_4 (by decide) (by decide) (by decide) (fun h => absurd h (by decide)) (fun _ => ?_)
  refine lv_iload_n hC.1 hC.2.1 d_St_measure_7 rfl (lv_at hl 0 rfl) ?_
  refine lv_aload_n hC.1 hC.2.1 d_St_measure_8 rfl (lv_at hl 5 rfl) ?_
  refine z_getN (ci := 0) (C := R_Ha) (T := F_Ha) (N := 3) (v := .ref qn) hC in_Ha hK hP 3 rfl rfl 1 (by decide) hE.1.2.1 rfl d_St_measure_9 ?_
  refine lv_iload_n hC.1 hC.2.1 d_St_measure_12 rfl (lv_at hl 6 rfl) ?_
  refine z_iconst hC d_St_measure_13 ?_
  refine z_roSi (As := [.int (iI n), .int (iI 0)]) (rest := [.ref qn, .int (iI 4)]) hC (c_Ha_at l D t ts n 0 (12 * n) (by omega)) (cw_S hC k_155 k_142 k_5 k_143 ye_Ha_at (by decide)) hP hK hE hS [] rfl rfl hl.1 rfl (Nat.le_of_ble_eq_true rfl) ⟨Nat.le_of_ble_eq_true rfl, Nat.le_of_ble_eq_true rfl⟩ d_St_measure_14 ?_
  refine z_roSl (As := [.int (iI 4), .ref qn, .int (iI (12 * n))]) (rest := []) hC (c_Po_height l D t ts 4 qn 4800 F (12 * n) (by omega) (by decide) (by omega) hF) (cw_S hC k_156 k_157 k_8 k_158 ye_Po_height (by decide)) hP hK hE hS [4] rfl rfl hl.1 rfl (Nat.le_of_ble_eq_true rfl) ⟨Nat.le_of_ble_eq_true rfl, Nat.le_of_ble_eq_true rfl⟩ d_St_measure_17 ?_
  refine lv_lstore (lv' := [(4, .long (lI (hZ 4 F (12 * n)))), (3, .int (iI 4)), (8, .long (lI (hZ 3 F (12 * n + 8)))), (6, .long (lI (hZ 3 F (12 * n + 4)))), (0, .ref o), (1, .ref hp), (2, .int (iI n))]) hC.1 hC.2.1 d_St_measure_20 hl (by decide) rfl (fun ls hl => ?_)
  refine lv_iload_n hC.1 hC.2.1 d_St_measure_22 rfl (lv_at hl 1 rfl) ?_
  refine lv_aload_n hC.1 hC.2.1 d_St_measure_23 rfl (lv_at hl 5 rfl) ?_
  refine z_getN (ci := 0) (C := R_Ha) (T := F_Ha) (N := 3) (v := .ref qn) hC in_Ha hK hP 3 rfl rfl 1 (by decide) hE.1.2.1 rfl d_St_measure_24 ?_
  refine lv_iload_n hC.1 hC.2.1 d_St_measure_27 rfl (lv_at hl 6 rfl) ?_
  refine z_iconst hC d_St_measure_28 ?_
  refine z_roSi (As := [.int (iI n), .int (iI 1)]) (rest := [.ref qn, .int (iI 4)]) hC (c_Ha_at l D t ts n 1 (12 * n + 4) (by omega)) (cw_S hC k_155 k_142 k_5 k_143 ye_Ha_at (by decide)) hP hK hE hS [] rfl rfl hl.1 rfl (Nat.le_of_ble_eq_true rfl) ⟨Nat.le_of_ble_eq_true rfl, Nat.le_of_ble_eq_true rfl⟩ d_St_measure_29 ?_
  refine z_roSl (As := [.int (iI 4), .ref qn, .int (iI (12 * n + 4))]) (rest := []) hC (c_Po_height l D t ts 4 qn 4800 F (12 * n + 4) (by omega) (by decide) (by omega) hF) (cw_S hC k_156 k_157 k_8 k_158 ye_Po_height (by decide)) hP hK hE hS [4] rfl rfl hl.1 rfl (Nat.le_of_ble_eq_true rfl) ⟨Nat.le_of_ble_eq_true rfl, Nat.le_of_ble_eq_true rfl⟩ d_St_measure_32 ?_
  refine lv_lstore (lv' := [(6, .long (lI (hZ 4 F (12 * n + 4)))), (4, .long (lI (hZ 4 F (12 * n)))), (3, .int (iI 4)), (8, .long (lI (hZ 3 F (12 * n + 8)))), (0, .ref o), (1, .ref hp), (2, .int (iI n))]) hC.1 hC.2.1 d_St_measure_35 hl (by decide) rfl (fun ls hl => ?_)
  refine lv_iload_n hC.1 hC.2.1 d_St_measure_37 rfl (lv_at hl 2 rfl) ?_
  refine lv_aload_n hC.1 hC.2.1 d_St_measure_38 rfl (lv_at hl 5 rfl) ?_
  refine z_getN (ci := 0) (C := R_Ha) (T := F_Ha) (N := 3) (v := .ref qn) hC in_Ha hK hP 3 rfl rfl 1 (by decide) hE.1.2.1 rfl d_St_measure_39 ?_
  refine lv_iload_n hC.1 hC.2.1 d_St_measure_42 rfl (lv_at hl 6 rfl) ?_
  refine z_iconst hC d_St_measure_43 ?_
  refine z_roSi (As := [.int (iI n), .int (iI 2)]) (rest := [.ref qn, .int (iI 4)]) hC (c_Ha_at l D t ts n 2 (12 * n + 8) (by omega)) (cw_S hC k_155 k_142 k_5 k_143 ye_Ha_at (by decide)) hP hK hE hS [] rfl rfl hl.1 rfl (Nat.le_of_ble_eq_true rfl) ⟨Nat.le_of_ble_eq_true rfl, Nat.le_of_ble_eq_true rfl⟩ d_St_measure_44 ?_
  refine z_roSl (As := [.int (iI 4), .ref qn, .int (iI (12 * n + 8))]) (rest := []) hC (c_Po_height l D t ts 4 qn 4800 F (12 * n + 8) (by omega) (by decide) (by omega) hF) (cw_S hC k_156 k_157 k_8 k_158 ye_Po_height (by decide)) hP hK hE hS [4] rfl rfl hl.1 rfl (Nat.le_of_ble_eq_true rfl) ⟨Nat.le_of_ble_eq_true rfl, Nat.le_of_ble_eq_true rfl⟩ d_St_measure_47 ?_
  refine lv_lstore (lv' := [(8, .long (lI (hZ 4 F (12 * n + 8)))), (6, .long (lI (hZ 4 F (12 * n + 4)))), (4, .long (lI (hZ 4 F (12 * n)))), (3, .int (iI 4)), (0, .ref o), (1, .ref hp), (2, .int (iI n))]) hC.1 hC.2.1 d_St_measure_50 hl (by decide) rfl (fun ls hl => ?_)
  refine lv_aload_n hC.1 hC.2.1 d_St_measure_52 rfl (lv_at hl 4 rfl) ?_
  refine z_get (ci := 2) (C := R_St) (T := F_St) (N := 2) (v := .ref ql) hC in_St hK hP 0 rfl rfl 0 (by decide) k_27 rfl d_St_measure_53 ?_
  refine lv_iload_n hC.1 hC.2.1 d_St_measure_56 rfl (lv_at hl 6 rfl) ?_
  refine z_iconst hC d_St_measure_57 ?_
  refine z_imul hC d_St_measure_58 ?_
  refine z_topi (z := 5 * n) (by omega) ?_
  refine lv_iload_n hC.1 hC.2.1 d_St_measure_59 rfl (lv_at hl 3 rfl) ?_
  refine z_iadd hC d_St_measure_60 ?_
  refine z_topi (z := 5 * n + 4) (by omega) ?_
  refine lv_lload hC.1 hC.2.1 d_St_measure_61 (lv_at hl 2 rfl) ?_
  refine lv_lload hC.1 hC.2.1 d_St_measure_63 (lv_at hl 1 rfl) ?_
  refine lv_lload hC.1 hC.2.1 d_St_measure_65 (lv_at hl 0 rfl) ?_
  refine z_lmin hC k_161 hl.1 (by decide) (Nat.le_of_ble_eq_true rfl) ⟨Nat.le_of_ble_eq_true rfl, Nat.le_of_ble_eq_true rfl⟩ (by have := hZ_in hF 4 (12 * n + 4); omega) (by have := hZ_in hF 4 (12 * n + 8); omega) d_St_measure_67 ?_
  refine z_lmin hC k_161 hl.1 (by decide) (Nat.le_of_ble_eq_true rfl) ⟨Nat.le_of_ble_eq_true rfl, Nat.le_of_ble_eq_true rfl⟩ (by have := hZ_in hF 4 (12 * n); omega) (by have := hZ_in hF 4 (12 * n + 4); have := hZ_in hF 4 (12 * n + 8); omega) d_St_measure_70 ?_
  refine z_last (ws' := [(o, .inr (2, [.ref ql, .ref qh])), (ql, eL t.2.1 2000 (uZ (uZ (uZ (uZ (uZ Lo (5 * n) (min (hZ 0 F (12 * n)) (min (hZ 0 F (12 * n + 4)) (hZ 0 F (12 * n + 8))))) (5 * n + 1) (min (hZ 1 F (12 * n)) (min (hZ 1 F (12 * n + 4)) (hZ 1 F (12 * n + 8))))) (5 * n + 2) (min (hZ 2 F (12 * n)) (min (hZ 2 F (12 * n + 4)) (hZ 2 F (12 * n + 8))))) (5 * n + 3) (min (hZ 3 F (12 * n)) (min (hZ 3 F (12 * n + 4)) (hZ 3 F (12 * n + 8))))) (5 * n + 4) (min (hZ 4 F (12 * n)) (min (hZ 4 F (12 * n + 4)) (hZ 4 F (12 * n + 8)))))), (qh, eL t.2.1 2000 (uZ (uZ (uZ (uZ Hi (5 * n) (max (hZ 0 F (12 * n)) (max (hZ 0 F (12 * n + 4)) (hZ 0 F (12 * n + 8))))) (5 * n + 1) (max (hZ 1 F (12 * n)) (max (hZ 1 F (12 * n + 4)) (hZ 1 F (12 * n + 8))))) (5 * n + 2) (max (hZ 2 F (12 * n)) (max (hZ 2 F (12 * n + 4)) (hZ 2 F (12 * n + 8))))) (5 * n + 3) (max (hZ 3 F (12 * n)) (max (hZ 3 F (12 * n + 4)) (hZ 3 F (12 * n + 8)))))), (hp, .inr (0, [.ref qt, .ref qn, .int (iI z)])), (qn, eI t.1 4800 F)]) hC hK hP hD hS 1 rfl (by omega) rfl d_St_measure_73 (fun H locs hP hD hS => ?_)
  refine lv_aload_n hC.1 hC.2.1 d_St_measure_74 rfl (lv_at hl 4 rfl) ?_
  refine z_get (ci := 2) (C := R_St) (T := F_St) (N := 2) (v := .ref qh) hC in_St hK hP 0 rfl rfl 1 (by decide) k_28 rfl d_St_measure_75 ?_
  refine lv_iload_n hC.1 hC.2.1 d_St_measure_78 rfl (lv_at hl 6 rfl) ?_
  refine z_iconst hC d_St_measure_79 ?_
  refine z_imul hC d_St_measure_80 ?_
  refine z_topi (z := 5 * n) (by omega) ?_
  refine lv_iload_n hC.1 hC.2.1 d_St_measure_81 rfl (lv_at hl 3 rfl) ?_
  refine z_iadd hC d_St_measure_82 ?_
  refine z_topi (z := 5 * n + 4) (by omega) ?_
  refine lv_lload hC.1 hC.2.1 d_St_measure_83 (lv_at hl 2 rfl) ?_
  refine lv_lload hC.1 hC.2.1 d_St_measure_85 (lv_at hl 1 rfl) ?_
  refine lv_lload hC.1 hC.2.1 d_St_measure_87 (lv_at hl 0 rfl) ?_
  refine z_lmax hC k_164 hl.1 (by decide) (Nat.le_of_ble_eq_true rfl) ⟨Nat.le_of_ble_eq_true rfl, Nat.le_of_ble_eq_true rfl⟩ (by have := hZ_in hF 4 (12 * n + 4); omega) (by have := hZ_in hF 4 (12 * n + 8); omega) d_St_measure_89 ?_
  refine z_lmax hC k_164 hl.1 (by decide) (Nat.le_of_ble_eq_true rfl) ⟨Nat.le_of_ble_eq_true rfl, Nat.le_of_ble_eq_true rfl⟩ (by have := hZ_in hF 4 (12 * n); omega) (by have := hZ_in hF 4 (12 * n + 4); have := hZ_in hF 4 (12 * n + 8); omega) d_St_measure_92 ?_
  refine z_last (ws' := [(o, .inr (2, [.ref ql, .ref qh])), (ql, eL t.2.1 2000 (uZ (uZ (uZ (uZ (uZ Lo (5 * n) (min (hZ 0 F (12 * n)) (min (hZ 0 F (12 * n + 4)) (hZ 0 F (12 * n + 8))))) (5 * n + 1) (min (hZ 1 F (12 * n)) (min (hZ 1 F (12 * n + 4)) (hZ 1 F (12 * n + 8))))) (5 * n + 2) (min (hZ 2 F (12 * n)) (min (hZ 2 F (12 * n + 4)) (hZ 2 F (12 * n + 8))))) (5 * n + 3) (min (hZ 3 F (12 * n)) (min (hZ 3 F (12 * n + 4)) (hZ 3 F (12 * n + 8))))) (5 * n + 4) (min (hZ 4 F (12 * n)) (min (hZ 4 F (12 * n + 4)) (hZ 4 F (12 * n + 8)))))), (qh, eL t.2.1 2000 (uZ (uZ (uZ (uZ (uZ Hi (5 * n) (max (hZ 0 F (12 * n)) (max (hZ 0 F (12 * n + 4)) (hZ 0 F (12 * n + 8))))) (5 * n + 1) (max (hZ 1 F (12 * n)) (max (hZ 1 F (12 * n + 4)) (hZ 1 F (12 * n + 8))))) (5 * n + 2) (max (hZ 2 F (12 * n)) (max (hZ 2 F (12 * n + 4)) (hZ 2 F (12 * n + 8))))) (5 * n + 3) (max (hZ 3 F (12 * n)) (max (hZ 3 F (12 * n + 4)) (hZ 3 F (12 * n + 8))))) (5 * n + 4) (max (hZ 4 F (12 * n)) (max (hZ 4 F (12 * n + 4)) (hZ 4 F (12 * n + 8)))))), (hp, .inr (0, [.ref qt, .ref qn, .int (iI z)])), (qn, eI t.1 4800 F)]) hC hK hP hD hS 2 rfl (by omega) rfl d_St_measure_95 (fun H locs hP hD hS => ?_)
  refine lv_iinc (v := iI 5) (lv' := [(3, .int (iI 5)), (8, .long (lI (hZ 4 F (12 * n + 8)))), (6, .long (lI (hZ 4 F (12 * n + 4)))), (4, .long (lI (hZ 4 F (12 * n)))), (0, .ref o), (1, .ref hp), (2, .int (iI n))]) hC.1 hC.2.1 d_St_measure_96 hl (k := 3) rfl (z_inc (by omega)) (by decide) rfl (fun ls hl => ?_)
  refine z_goto (tgt := 2) hC d_St_measure_99 (by decide) ?_
  refine lv_iload_n hC.1 hC.2.1 d_St_measure_2 rfl (lv_at hl 0 rfl) ?_
  refine z_iconst hC d_St_measure_3 ?_
  refine z_icmp_ge (tgt := 102) hC d_St_measure_4 (by decide) (by decide) (by decide) (fun _ => ?_) (fun h => absurd h (by decide))
  have hP9 := hP.sub (ws' := [(o, .inr (2, [.ref ql, .ref qh])), (ql, eL t.2.1 2000 (uZ (uZ (uZ (uZ (uZ Lo (5 * n) (min (hZ 0 F (12 * n)) (min (hZ 0 F (12 * n + 4)) (hZ 0 F (12 * n + 8))))) (5 * n + 1) (min (hZ 1 F (12 * n)) (min (hZ 1 F (12 * n + 4)) (hZ 1 F (12 * n + 8))))) (5 * n + 2) (min (hZ 2 F (12 * n)) (min (hZ 2 F (12 * n + 4)) (hZ 2 F (12 * n + 8))))) (5 * n + 3) (min (hZ 3 F (12 * n)) (min (hZ 3 F (12 * n + 4)) (hZ 3 F (12 * n + 8))))) (5 * n + 4) (min (hZ 4 F (12 * n)) (min (hZ 4 F (12 * n + 4)) (hZ 4 F (12 * n + 8)))))), (qh, eL t.2.1 2000 (uZ (uZ (uZ (uZ (uZ Hi (5 * n) (max (hZ 0 F (12 * n)) (max (hZ 0 F (12 * n + 4)) (hZ 0 F (12 * n + 8))))) (5 * n + 1) (max (hZ 1 F (12 * n)) (max (hZ 1 F (12 * n + 4)) (hZ 1 F (12 * n + 8))))) (5 * n + 2) (max (hZ 2 F (12 * n)) (max (hZ 2 F (12 * n + 4)) (hZ 2 F (12 * n + 8))))) (5 * n + 3) (max (hZ 3 F (12 * n)) (max (hZ 3 F (12 * n + 4)) (hZ 3 F (12 * n + 8))))) (5 * n + 4) (max (hZ 4 F (12 * n)) (max (hZ 4 F (12 * n + 4)) (hZ 4 F (12 * n + 8)))))), (hp, .inr (0, [.ref qt, .ref qn, .int (iI z)])), (qn, eI t.1 4800 F)]) [0, 1, 2, 3, 4] rfl
  have hD9 := hD.sub (ws' := [(o, .inr (2, [.ref ql, .ref qh])), (ql, eL t.2.1 2000 (uZ (uZ (uZ (uZ (uZ Lo (5 * n) (min (hZ 0 F (12 * n)) (min (hZ 0 F (12 * n + 4)) (hZ 0 F (12 * n + 8))))) (5 * n + 1) (min (hZ 1 F (12 * n)) (min (hZ 1 F (12 * n + 4)) (hZ 1 F (12 * n + 8))))) (5 * n + 2) (min (hZ 2 F (12 * n)) (min (hZ 2 F (12 * n + 4)) (hZ 2 F (12 * n + 8))))) (5 * n + 3) (min (hZ 3 F (12 * n)) (min (hZ 3 F (12 * n + 4)) (hZ 3 F (12 * n + 8))))) (5 * n + 4) (min (hZ 4 F (12 * n)) (min (hZ 4 F (12 * n + 4)) (hZ 4 F (12 * n + 8)))))), (qh, eL t.2.1 2000 (uZ (uZ (uZ (uZ (uZ Hi (5 * n) (max (hZ 0 F (12 * n)) (max (hZ 0 F (12 * n + 4)) (hZ 0 F (12 * n + 8))))) (5 * n + 1) (max (hZ 1 F (12 * n)) (max (hZ 1 F (12 * n + 4)) (hZ 1 F (12 * n + 8))))) (5 * n + 2) (max (hZ 2 F (12 * n)) (max (hZ 2 F (12 * n + 4)) (hZ 2 F (12 * n + 8))))) (5 * n + 3) (max (hZ 3 F (12 * n)) (max (hZ 3 F (12 * n + 4)) (hZ 3 F (12 * n + 8))))) (5 * n + 4) (max (hZ 4 F (12 * n)) (max (hZ 4 F (12 * n + 4)) (hZ 4 F (12 * n + 8)))))), (hp, .inr (0, [.ref qt, .ref qn, .int (iI z)])), (qn, eI t.1 4800 F)]) [0, 1, 2, 3, 4] (by decide) rfl
  exact ret ((uZ (uZ (uZ (uZ (uZ Lo (5 * n) (min (hZ 0 F (12 * n)) (min (hZ 0 F (12 * n + 4)) (hZ 0 F (12 * n + 8))))) (5 * n + 1) (min (hZ 1 F (12 * n)) (min (hZ 1 F (12 * n + 4)) (hZ 1 F (12 * n + 8))))) (5 * n + 2) (min (hZ 2 F (12 * n)) (min (hZ 2 F (12 * n + 4)) (hZ 2 F (12 * n + 8))))) (5 * n + 3) (min (hZ 3 F (12 * n)) (min (hZ 3 F (12 * n + 4)) (hZ 3 F (12 * n + 8))))) (5 * n + 4) (min (hZ 4 F (12 * n)) (min (hZ 4 F (12 * n + 4)) (hZ 4 F (12 * n + 8))))), (uZ (uZ (uZ (uZ (uZ Hi (5 * n) (max (hZ 0 F (12 * n)) (max (hZ 0 F (12 * n + 4)) (hZ 0 F (12 * n + 8))))) (5 * n + 1) (max (hZ 1 F (12 * n)) (max (hZ 1 F (12 * n + 4)) (hZ 1 F (12 * n + 8))))) (5 * n + 2) (max (hZ 2 F (12 * n)) (max (hZ 2 F (12 * n + 4)) (hZ 2 F (12 * n + 8))))) (5 * n + 3) (max (hZ 3 F (12 * n)) (max (hZ 3 F (12 * n + 4)) (hZ 3 F (12 * n + 8))))) (5 * n + 4) (max (hZ 4 F (12 * n)) (max (hZ 4 F (12 * n + 4)) (hZ 4 F (12 * n + 8)))))) _ _ 102 _ d_St_measure_102 ⟨rfl, rfl⟩ hP9 hD9 hS
theorem ye_St_measureAll : ye y_St_measureAll R_St 1 := by unfold ye; decide +kernel
abbrev rm_St_measureAll : Room := { frames := 2, cells := 0, slots := 0, locals := 52 }
set_option maxHeartbeats 4000000 in
set_option maxRecDepth 100000 in
theorem c_St_measureAll (l : Launch) (D : va_G) (t : vt) (ts : Nat → Nat) (o ql qh hp qt qn : Nat) (z : Int) (Lo Hi F : Int → Int) (hz : 0 ≤ z ∧ z ≤ 400) (hF : bF F) (sz : Nat) : Met l y_St_measureAll (.code y_St_measureAll b_St_measureAll 3 none :: tb_ws) rm_St_measureAll (MP D t ts [.ref o, .ref hp] [(o, .inr (2, [.ref ql, .ref qh])), (ql, eL t.2.1 2000 Lo), (qh, eL t.2.1 2000 Hi), (hp, .inr (0, [.ref qt, .ref qn, .int (iI z)])), (qn, eI t.1 4800 F)] sz) (va_Qv (fun u : (Int → Int) × (Int → Int) => u.1 = mALo Lo F z.toNat ∧ u.2 = mAHi Hi F z.toNat) (MB D (va_A [(o, .inr (2, [.ref ql, .ref qh])), (ql, eL t.2.1 2000 Lo), (qh, eL t.2.1 2000 Hi), (hp, .inr (0, [.ref qt, .ref qn, .int (iI z)])), (qn, eI t.1 4800 F)] sz) (fun u : (Int → Int) × (Int → Int) => [(o, .inr (2, [.ref ql, .ref qh])), (ql, eL t.2.1 2000 u.1), (qh, eL t.2.1 2000 u.2), (hp, .inr (0, [.ref qt, .ref qn, .int (iI z)])), (qn, eI t.1 4800 F)])) (va_A [(o, .inr (2, [.ref ql, .ref qh])), (ql, eL t.2.1 2000 Lo), (qh, eL t.2.1 2000 Hi), (hp, .inr (0, [.ref qt, .ref qn, .int (iI z)])), (qn, eI t.1 4800 F)] sz)) 0 0 (va_A [(o, .inr (2, [.ref ql, .ref qh])), (ql, eL t.2.1 2000 Lo), (qh, eL t.2.1 2000 Hi), (hp, .inr (0, [.ref qt, .ref qn, .int (iI z)])), (qn, eI t.1 4800 F)] sz) := by
  refine m_v (by decide +kernel) (Nat.le_of_ble_eq_true rfl) ?_
  intro zp ze zs zm zb zt zc zQ A ls hC hA hP hK hD hE hS hl ret
  have hl : lv_has ls 3 [(0, .ref o), (1, .ref hp)] := hl
  refine z_iconst hC d_St_measureAll_0 ?_
  refine lv_istore_n (lv' := [(2, .int (iI 0)), (0, .ref o), (1, .ref hp)]) hC.1 hC.2.1 d_St_measureAll_1 rfl hl (by decide) rfl (fun ls hl => ?_)
  have L2 : ∀ (fu : Nat) (G : Int → Int) (J : Int → Int) (k : Int) (H : Heap) (locs : List Loc) (ls : Array Slot), z - k + 1 ≤ (fu : Int) → (0 ≤ k ∧ k ≤ z) → (G = mALo Lo F k.toNat) → (J = mAHi Hi F k.toNat) → va_P D classes [(o, .inr (2, [.ref ql, .ref qh])), (ql, eL t.2.1 2000 G), (qh, eL t.2.1 2000 J), (hp, .inr (0, [.ref qt, .ref qn, .int (iI z)])), (qn, eI t.1 4800 F)] H → va_D A [(o, .inr (2, [.ref ql, .ref qh])), (ql, eL t.2.1 2000 G), (qh, eL t.2.1 2000 J), (hp, .inr (0, [.ref qt, .ref qn, .int (iI z)])), (qn, eI t.1 4800 F)] → va_S A zs.heap H locs → lv_has ls 3 [(2, .int (iI k)), (0, .ref o), (1, .ref hp)] → W zp l ze rm_St_measureAll zs zm [.ref o, .ref hp].toArray zb zt zc H locs 0 0 zQ (F0 zm 2 ls []) := by
    intro fu
    induction fu with
    | zero =>
      intro G J k H locs ls hm2 hk eG eJ hP hD hS hl
      exact absurd hm2 (by omega)
    | succ fu ih2 =>
      intro G J k H locs ls hm2 hk eG eJ hP hD hS hl
      refine lv_iload_n hC.1 hC.2.1 d_St_measureAll_2 rfl (lv_at hl 0 rfl) ?_
      refine lv_aload_n hC.1 hC.2.1 d_St_measureAll_3 rfl (lv_at hl 2 rfl) ?_
      refine z_getN (ci := 0) (C := R_Ha) (T := F_Ha) (N := 3) (v := .int (iI z)) hC in_Ha hK hP 3 rfl rfl 2 (by decide) hE.1.2.2.2.1 rfl d_St_measureAll_4 ?_
      refine z_icmp_ge (tgt := 22) hC d_St_measureAll_7 (by decide) (by omega) (by omega) (fun h7 => ?_) (fun h7 => ?_)
      · have hP9 := hP.sub (ws' := [(o, .inr (2, [.ref ql, .ref qh])), (ql, eL t.2.1 2000 G), (qh, eL t.2.1 2000 J), (hp, .inr (0, [.ref qt, .ref qn, .int (iI z)])), (qn, eI t.1 4800 F)]) [0, 1, 2, 3, 4] rfl
        have hD9 := hD.sub (ws' := [(o, .inr (2, [.ref ql, .ref qh])), (ql, eL t.2.1 2000 G), (qh, eL t.2.1 2000 J), (hp, .inr (0, [.ref qt, .ref qn, .int (iI z)])), (qn, eI t.1 4800 F)]) [0, 1, 2, 3, 4] (by decide) rfl
        exact ret (G, J) _ _ 22 _ d_St_measureAll_22 ⟨by rw [eG, show k = z by omega], by rw [eJ, show k = z by omega]⟩ hP9 hD9 hS
      · refine lv_aload_n hC.1 hC.2.1 d_St_measureAll_10 rfl (lv_at hl 1 rfl) ?_
        refine lv_aload_n hC.1 hC.2.1 d_St_measureAll_11 rfl (lv_at hl 2 rfl) ?_
        refine lv_iload_n hC.1 hC.2.1 d_St_measureAll_12 rfl (lv_at hl 0 rfl) ?_
        refine z_mVv (As := [.ref hp, .int (iI k)]) (rest := []) (wr := []) hC (c_St_measure l D t ts o ql qh hp qt qn z G J F k (by omega) hF _) (cw_V hC k_151 k_152 k_153 k_2 k_154 ye_St_measure (by decide)) hP hD hK hE hS hA [0, 1, 2, 3, 4] [] (by decide) rfl rfl (by decide) (by decide) 0 (ci := 2) rfl rfl rfl rfl hl.1 rfl (Nat.le_of_ble_eq_true rfl) ⟨Nat.le_of_ble_eq_true rfl, Nat.le_of_ble_eq_true rfl⟩ d_St_measureAll_13 (fun u1 H locs eu1 hP hD hS => ?_)
        obtain ⟨u1L, u1H⟩ := u1
        obtain ⟨eu1L, eu1H⟩ := eu1
        dsimp only at eu1L eu1H hP hD
        have hP : va_P D classes [(o, .inr (2, [.ref ql, .ref qh])), (ql, eL t.2.1 2000 u1L), (qh, eL t.2.1 2000 u1H), (hp, .inr (0, [.ref qt, .ref qn, .int (iI z)])), (qn, eI t.1 4800 F)] H := hP
        have hD : va_D A [(o, .inr (2, [.ref ql, .ref qh])), (ql, eL t.2.1 2000 u1L), (qh, eL t.2.1 2000 u1H), (hp, .inr (0, [.ref qt, .ref qn, .int (iI z)])), (qn, eI t.1 4800 F)] := hD
        refine lv_iinc (v := iI (k + 1)) (lv' := [(2, .int (iI (k + 1))), (0, .ref o), (1, .ref hp)]) hC.1 hC.2.1 d_St_measureAll_16 hl (k := 0) rfl (z_inc (by omega)) (by decide) rfl (fun ls hl => ?_)
        refine z_goto (tgt := 2) hC d_St_measureAll_19 (by decide) ?_
        exact ih2 u1L u1H (k + 1) _ _ _ (by omega) (by omega) (by rw [mALo_s (by omega), ← eG]; exact eu1L) (by rw [mAHi_s (by omega), ← eJ]; exact eu1H) (hP.sub (ws' := [(o, .inr (2, [.ref ql, .ref qh])), (ql, eL t.2.1 2000 u1L), (qh, eL t.2.1 2000 u1H), (hp, .inr (0, [.ref qt, .ref qn, .int (iI z)])), (qn, eI t.1 4800 F)]) [0, 1, 2, 3, 4] rfl) (hD.sub (ws' := [(o, .inr (2, [.ref ql, .ref qh])), (ql, eL t.2.1 2000 u1L), (qh, eL t.2.1 2000 u1H), (hp, .inr (0, [.ref qt, .ref qn, .int (iI z)])), (qn, eI t.1 4800 F)]) [0, 1, 2, 3, 4] (by decide) rfl) hS (lv_sub hl [0, 1, 2] rfl)
  exact L2 (z - 0 + 1 : Int).toNat Lo Hi 0 _ _ _ (by omega) (by omega) (by rfl) (by rfl) hP hD hS (lv_sub hl [0, 1, 2] rfl)
theorem ye_St_closeUp : ye y_St_closeUp R_St 2 := by unfold ye; decide +kernel
abbrev rm_St_closeUp : Room := { frames := 1, cells := 0, slots := 0, locals := 26 }
set_option maxHeartbeats 4000000 in
set_option maxRecDepth 100000 in
theorem c_St_closeUp (l : Launch) (D : va_G) (t : vt) (ts : Nat → Nat) (o ql qh : Nat) (Lo Hi : Int → Int) (n z : Int) (hz : 0 ≤ z ∧ z ≤ 400) (hn : 0 ≤ n ∧ n < z) (sz : Nat) : Met l y_St_closeUp (.code y_St_closeUp b_St_closeUp 4 none :: tb_ws) rm_St_closeUp (MP D t ts [.ref o, .int (iI n), .int (iI z)] [(o, .inr (2, [.ref ql, .ref qh])), (ql, eL t.2.1 2000 Lo), (qh, eL t.2.1 2000 Hi)] sz) (va_Qv (fun u : (Int → Int) × (Int → Int) => u.1 = cZ Lo Lo (5 * n + 5) (5 * n) (5 * (z - n - 1)) ∧ u.2 = cZ Hi Hi (5 * n + 5) (5 * n) (5 * (z - n - 1))) (MB D (va_A [(o, .inr (2, [.ref ql, .ref qh])), (ql, eL t.2.1 2000 Lo), (qh, eL t.2.1 2000 Hi)] sz) (fun u : (Int → Int) × (Int → Int) => [(o, .inr (2, [.ref ql, .ref qh])), (ql, eL t.2.1 2000 u.1), (qh, eL t.2.1 2000 u.2)])) (va_A [(o, .inr (2, [.ref ql, .ref qh])), (ql, eL t.2.1 2000 Lo), (qh, eL t.2.1 2000 Hi)] sz)) 0 0 (va_A [(o, .inr (2, [.ref ql, .ref qh])), (ql, eL t.2.1 2000 Lo), (qh, eL t.2.1 2000 Hi)] sz) := by
  refine m_v (by decide +kernel) (Nat.le_of_ble_eq_true rfl) ?_
  intro zp ze zs zm zb zt zc zQ A ls hC hA hP hK hD hE hS hl ret
  have hl : lv_has ls 4 [(0, .ref o), (1, .int (iI n)), (2, .int (iI z))] := hl
  refine lv_iload_n hC.1 hC.2.1 d_St_closeUp_0 rfl (lv_at hl 2 rfl) ?_
  refine lv_iload_n hC.1 hC.2.1 d_St_closeUp_1 rfl (lv_at hl 1 rfl) ?_
  refine z_isub hC d_St_closeUp_2 ?_
  refine z_topi (z := -n + z) (by omega) ?_
  refine z_iconst hC d_St_closeUp_3 ?_
  refine z_isub hC d_St_closeUp_4 ?_
  refine z_topi (z := -n + z - 1) (by omega) ?_
  refine z_iconst hC d_St_closeUp_5 ?_
  refine z_imul hC d_St_closeUp_6 ?_
  refine z_topi (z := -(5 * n) + 5 * z - 5) (by omega) ?_
  refine lv_istore_n (lv' := [(3, .int (iI (-(5 * n) + 5 * z - 5))), (0, .ref o), (1, .int (iI n)), (2, .int (iI z))]) hC.1 hC.2.1 d_St_closeUp_7 rfl hl (by decide) rfl (fun ls hl => ?_)
  refine lv_aload_n hC.1 hC.2.1 d_St_closeUp_8 rfl (lv_at hl 1 rfl) ?_
  refine z_get (ci := 2) (C := R_St) (T := F_St) (N := 2) (v := .ref ql) hC in_St hK hP 0 rfl rfl 0 (by decide) k_27 rfl d_St_closeUp_9 ?_
  refine lv_iload_n hC.1 hC.2.1 d_St_closeUp_12 rfl (lv_at hl 2 rfl) ?_
  refine z_iconst hC d_St_closeUp_13 ?_
  refine z_iadd hC d_St_closeUp_14 ?_
  refine z_iconst hC d_St_closeUp_15 ?_
  refine z_imul hC d_St_closeUp_16 ?_
  refine z_topi (z := 5 * n + 5) (by omega) ?_
  refine lv_aload_n hC.1 hC.2.1 d_St_closeUp_17 rfl (lv_at hl 1 rfl) ?_
  refine z_get (ci := 2) (C := R_St) (T := F_St) (N := 2) (v := .ref ql) hC in_St hK hP 0 rfl rfl 0 (by decide) k_27 rfl d_St_closeUp_18 ?_
  refine lv_iload_n hC.1 hC.2.1 d_St_closeUp_21 rfl (lv_at hl 2 rfl) ?_
  refine z_iconst hC d_St_closeUp_22 ?_
  refine z_imul hC d_St_closeUp_23 ?_
  refine z_topi (z := 5 * n) (by omega) ?_
  refine lv_iload_n hC.1 hC.2.1 d_St_closeUp_24 rfl (lv_at hl 0 rfl) ?_
  refine z_copyl (ws' := [(o, .inr (2, [.ref ql, .ref qh])), (ql, eL t.2.1 2000 (cZ Lo Lo (5 * n + 5) (5 * n) (-(5 * n) + 5 * z - 5))), (qh, eL t.2.1 2000 Hi)]) hC k_240 hl.1 hK hP hD hS 1 1 rfl rfl (by omega) (by omega) (by decide) (Nat.le_of_ble_eq_true rfl) rfl d_St_closeUp_25 (fun H locs hP hD hS => ?_)
  refine lv_aload_n hC.1 hC.2.1 d_St_closeUp_28 rfl (lv_at hl 1 rfl) ?_
  refine z_get (ci := 2) (C := R_St) (T := F_St) (N := 2) (v := .ref qh) hC in_St hK hP 0 rfl rfl 1 (by decide) k_28 rfl d_St_closeUp_29 ?_
  refine lv_iload_n hC.1 hC.2.1 d_St_closeUp_32 rfl (lv_at hl 2 rfl) ?_
  refine z_iconst hC d_St_closeUp_33 ?_
  refine z_iadd hC d_St_closeUp_34 ?_
  refine z_iconst hC d_St_closeUp_35 ?_
  refine z_imul hC d_St_closeUp_36 ?_
  refine z_topi (z := 5 * n + 5) (by omega) ?_
  refine lv_aload_n hC.1 hC.2.1 d_St_closeUp_37 rfl (lv_at hl 1 rfl) ?_
  refine z_get (ci := 2) (C := R_St) (T := F_St) (N := 2) (v := .ref qh) hC in_St hK hP 0 rfl rfl 1 (by decide) k_28 rfl d_St_closeUp_38 ?_
  refine lv_iload_n hC.1 hC.2.1 d_St_closeUp_41 rfl (lv_at hl 2 rfl) ?_
  refine z_iconst hC d_St_closeUp_42 ?_
  refine z_imul hC d_St_closeUp_43 ?_
  refine z_topi (z := 5 * n) (by omega) ?_
  refine lv_iload_n hC.1 hC.2.1 d_St_closeUp_44 rfl (lv_at hl 0 rfl) ?_
  refine z_copyl (ws' := [(o, .inr (2, [.ref ql, .ref qh])), (ql, eL t.2.1 2000 (cZ Lo Lo (5 * n + 5) (5 * n) (-(5 * n) + 5 * z - 5))), (qh, eL t.2.1 2000 (cZ Hi Hi (5 * n + 5) (5 * n) (-(5 * n) + 5 * z - 5)))]) hC k_240 hl.1 hK hP hD hS 2 2 rfl rfl (by omega) (by omega) (by decide) (Nat.le_of_ble_eq_true rfl) rfl d_St_closeUp_45 (fun H locs hP hD hS => ?_)
  have hP9 := hP.sub (ws' := [(o, .inr (2, [.ref ql, .ref qh])), (ql, eL t.2.1 2000 (cZ Lo Lo (5 * n + 5) (5 * n) (-(5 * n) + 5 * z - 5))), (qh, eL t.2.1 2000 (cZ Hi Hi (5 * n + 5) (5 * n) (-(5 * n) + 5 * z - 5)))]) [0, 1, 2] rfl
  have hD9 := hD.sub (ws' := [(o, .inr (2, [.ref ql, .ref qh])), (ql, eL t.2.1 2000 (cZ Lo Lo (5 * n + 5) (5 * n) (-(5 * n) + 5 * z - 5))), (qh, eL t.2.1 2000 (cZ Hi Hi (5 * n + 5) (5 * n) (-(5 * n) + 5 * z - 5)))]) [0, 1, 2] (by decide) rfl
  exact ret ((cZ Lo Lo (5 * n + 5) (5 * n) (-(5 * n) + 5 * z - 5)), (cZ Hi Hi (5 * n + 5) (5 * n) (-(5 * n) + 5 * z - 5))) _ _ 48 _ d_St_closeUp_48 ⟨by rw [show 5 * (z - n - 1) = -(5 * n) + 5 * z - 5 by omega], by rw [show 5 * (z - n - 1) = -(5 * n) + 5 * z - 5 by omega]⟩ hP9 hD9 hS
