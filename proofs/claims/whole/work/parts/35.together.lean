theorem ye_JA_fill : ye y_JA_fill R_JA 2 := by unfold ye; decide +kernel
abbrev rm_JA_fill : Room := { frames := 0, cells := 0, slots := 0, locals := 0 }
set_option maxHeartbeats 4000000 in
set_option maxRecDepth 100000 in
theorem c_JA_fill (l : Launch) (D : va_G) (t : vt) (ts : Nat → Nat) (q : Nat) (U : Int → Int) (sz : Nat) : Met l y_JA_fill (.code y_JA_fill b_JA_fill 4 none :: tb_ws) rm_JA_fill (MP D t ts [.ref q, .int (iI 0)] [(q, eI t.1 400 U)] sz) (va_Qv (fun u : Int → Int => u = fil U 400) (MB D (va_A [(q, eI t.1 400 U)] sz) (fun u : Int → Int => [(q, eI t.1 400 u)])) (va_A [(q, eI t.1 400 U)] sz)) 0 0 (va_A [(q, eI t.1 400 U)] sz) := by
  refine m_v (by decide +kernel) (Nat.le_of_ble_eq_true rfl) ?_
  intro zp ze zs zm zb zt zc zQ A ls hC hA hP hK hD hE hS hl ret
  have hl : lv_has ls 4 [(0, .ref q), (1, .int (iI 0))] := hl
  refine z_iconst hC d_JA_fill_0 ?_
  refine lv_istore_n (lv' := [(2, .int (iI 0)), (0, .ref q), (1, .int (iI 0))]) hC.1 hC.2.1 d_JA_fill_1 rfl hl (by decide) rfl (fun ls hl => ?_)
  refine lv_aload_n hC.1 hC.2.1 d_JA_fill_2 rfl (lv_at hl 1 rfl) ?_
  refine va_alen (v := iI 400) hC.1 hC.2.1 hK hP 0 0 rfl rfl (iI_nat _) d_JA_fill_3 ?_
  refine lv_istore_n (lv' := [(3, .int (iI 400)), (2, .int (iI 0)), (0, .ref q), (1, .int (iI 0))]) hC.1 hC.2.1 d_JA_fill_4 rfl hl (by decide) rfl (fun ls hl => ?_)
  have L5 : ∀ (fu : Nat) (G : Int → Int) (k : Int) (H : Heap) (locs : List Loc) (ls : Array Slot), 400 - k + 1 ≤ (fu : Int) → (0 ≤ k ∧ k ≤ 400) → (G = fil U k) → va_P D classes [(q, eI t.1 400 G)] H → va_D A [(q, eI t.1 400 G)] → va_S A zs.heap H locs → lv_has ls 4 [(3, .int (iI 400)), (2, .int (iI k)), (0, .ref q), (1, .int (iI 0))] → W zp l ze rm_JA_fill zs zm [.ref q, .int (iI 0)].toArray zb zt zc H locs 0 0 zQ (F0 zm 5 ls []) := by
    intro fu
    induction fu with
    | zero =>
      intro G k H locs ls hm5 hk eG hP hD hS hl
      exact absurd hm5 (by omega)
    | succ fu ih5 =>
      intro G k H locs ls hm5 hk eG hP hD hS hl
      refine lv_iload_n hC.1 hC.2.1 d_JA_fill_5 rfl (lv_at hl 1 rfl) ?_
      refine lv_iload_n hC.1 hC.2.1 d_JA_fill_6 rfl (lv_at hl 0 rfl) ?_
      refine z_icmp_ge (tgt := 20) hC d_JA_fill_7 (by decide) (by omega) (by decide) (fun h7 => ?_) (fun h7 => ?_)
      · have hP9 := hP.sub (ws' := [(q, eI t.1 400 G)]) [0] rfl
        have hD9 := hD.sub (ws' := [(q, eI t.1 400 G)]) [0] (by decide) rfl
        exact ret G _ _ 20 _ d_JA_fill_20 (by rw [eG, show k = 400 by omega]) hP9 hD9 hS
      · refine lv_aload_n hC.1 hC.2.1 d_JA_fill_10 rfl (lv_at hl 2 rfl) ?_
        refine lv_iload_n hC.1 hC.2.1 d_JA_fill_11 rfl (lv_at hl 1 rfl) ?_
        refine lv_iload_n hC.1 hC.2.1 d_JA_fill_12 rfl (lv_at hl 3 rfl) ?_
        refine z_iast (ws' := [(q, eI t.1 400 (uZ G k 0))]) hC hK hP hD hS 0 rfl (by omega) rfl d_JA_fill_13 (fun H locs hP hD hS => ?_)
        refine lv_iinc (v := iI (k + 1)) (lv' := [(2, .int (iI (k + 1))), (3, .int (iI 400)), (0, .ref q), (1, .int (iI 0))]) hC.1 hC.2.1 d_JA_fill_14 hl (k := 1) rfl (z_inc (by omega)) (by decide) rfl (fun ls hl => ?_)
        refine z_goto (tgt := 5) hC d_JA_fill_17 (by decide) ?_
        exact ih5 (uZ G k 0) (k + 1) _ _ _ (by omega) (by omega) (by rw [eG]; exact fil_s (by omega)) (hP.sub (ws' := [(q, eI t.1 400 (uZ G k 0))]) [0] rfl) (hD.sub (ws' := [(q, eI t.1 400 (uZ G k 0))]) [0] (by decide) rfl) hS (lv_sub hl [1, 0, 2, 3] rfl)
  exact L5 (400 - 0 + 1 : Int).toNat U 0 _ _ _ (by omega) (by omega) (fil_0 U).symm hP hD hS (lv_sub hl [0, 1, 2, 3] rfl)
theorem ye_Ha_shrinkAll : ye y_Ha_shrinkAll R_Ha 0 := by unfold ye; decide +kernel
abbrev rm_Ha_shrinkAll : Room := { frames := 2, cells := 0, slots := 0, locals := 50 }
set_option maxHeartbeats 4000000 in
set_option maxRecDepth 100000 in
theorem c_Ha_shrinkAll (l : Launch) (D : va_G) (t : vt) (ts : Nat → Nat) (o qt qn : Nat) (z : Int) (F : Int → Int) (hz : 0 ≤ z ∧ z ≤ 400) (sz : Nat) : Met l y_Ha_shrinkAll (.code y_Ha_shrinkAll b_Ha_shrinkAll 3 none :: tb_ws) rm_Ha_shrinkAll (MP D t ts [.ref o] [(o, .inr (0, [.ref qt, .ref qn, .int (iI z)])), (qn, eI t.1 4800 F)] sz) (va_Qv (fun u : Int → Int => u = shN F z.toNat) (MB D (va_A [(o, .inr (0, [.ref qt, .ref qn, .int (iI z)])), (qn, eI t.1 4800 F)] sz) (fun u : Int → Int => [(o, .inr (0, [.ref qt, .ref qn, .int (iI z)])), (qn, eI t.1 4800 u)])) (va_A [(o, .inr (0, [.ref qt, .ref qn, .int (iI z)])), (qn, eI t.1 4800 F)] sz)) 0 0 (va_A [(o, .inr (0, [.ref qt, .ref qn, .int (iI z)])), (qn, eI t.1 4800 F)] sz) := by
  refine m_v (by decide +kernel) (Nat.le_of_ble_eq_true rfl) ?_
  intro zp ze zs zm zb zt zc zQ A ls hC hA hP hK hD hE hS hl ret
  have hl : lv_has ls 3 [(0, .ref o)] := hl
  refine z_iconst hC d_Ha_shrinkAll_0 ?_
  refine lv_istore_n (lv' := [(1, .int (iI 0)), (0, .ref o)]) hC.1 hC.2.1 d_Ha_shrinkAll_1 rfl hl (by decide) rfl (fun ls hl => ?_)
  have L2 : ∀ (fu : Nat) (G : Int → Int) (k : Int) (H : Heap) (locs : List Loc) (ls : Array Slot), z - k + 1 ≤ (fu : Int) → (0 ≤ k ∧ k ≤ z) → (G = shN F k.toNat) → va_P D classes [(o, .inr (0, [.ref qt, .ref qn, .int (iI z)])), (qn, eI t.1 4800 G)] H → va_D A [(o, .inr (0, [.ref qt, .ref qn, .int (iI z)])), (qn, eI t.1 4800 G)] → va_S A zs.heap H locs → lv_has ls 3 [(1, .int (iI k)), (0, .ref o)] → W zp l ze rm_Ha_shrinkAll zs zm [.ref o].toArray zb zt zc H locs 0 0 zQ (F0 zm 2 ls []) := by
    intro fu
    induction fu with
    | zero =>
      intro G k H locs ls hm2 hk eG hP hD hS hl
      exact absurd hm2 (by omega)
    | succ fu ih2 =>
      intro G k H locs ls hm2 hk eG hP hD hS hl
      refine lv_iload_n hC.1 hC.2.1 d_Ha_shrinkAll_2 rfl (lv_at hl 0 rfl) ?_
      refine lv_aload_n hC.1 hC.2.1 d_Ha_shrinkAll_3 rfl (lv_at hl 1 rfl) ?_
      refine z_get (ci := 0) (C := R_Ha) (T := F_Ha) (N := 3) (v := .int (iI z)) hC in_Ha hK hP 0 rfl rfl 2 (by decide) k_87 rfl d_Ha_shrinkAll_4 ?_
      refine z_icmp_ge (tgt := 41) hC d_Ha_shrinkAll_7 (by decide) (by omega) (by omega) (fun h7 => ?_) (fun h7 => ?_)
      · have hP9 := hP.sub (ws' := [(o, .inr (0, [.ref qt, .ref qn, .int (iI z)])), (qn, eI t.1 4800 G)]) [0, 1] rfl
        have hD9 := hD.sub (ws' := [(o, .inr (0, [.ref qt, .ref qn, .int (iI z)])), (qn, eI t.1 4800 G)]) [0, 1] (by decide) rfl
        exact ret G _ _ 41 _ d_Ha_shrinkAll_41 (by rw [eG, show k = z by omega]) hP9 hD9 hS
      · refine z_iconst hC d_Ha_shrinkAll_10 ?_
        refine lv_istore_n (lv' := [(2, .int (iI 0)), (1, .int (iI k)), (0, .ref o)]) hC.1 hC.2.1 d_Ha_shrinkAll_11 rfl hl (by decide) rfl (fun ls hl => ?_)
        refine lv_iload_n hC.1 hC.2.1 d_Ha_shrinkAll_12 rfl (lv_at hl 0 rfl) ?_
        refine z_iconst hC d_Ha_shrinkAll_13 ?_
        refine z_icmp_ge (tgt := 35) hC d_Ha_shrinkAll_14 (by decide) (by decide) (by decide) (fun h => absurd h (by decide)) (fun _ => ?_)
        refine lv_aload_n hC.1 hC.2.1 d_Ha_shrinkAll_17 rfl (lv_at hl 2 rfl) ?_
        refine z_get (ci := 0) (C := R_Ha) (T := F_Ha) (N := 3) (v := .ref qn) hC in_Ha hK hP 0 rfl rfl 1 (by decide) k_84 rfl d_Ha_shrinkAll_18 ?_
        refine lv_iload_n hC.1 hC.2.1 d_Ha_shrinkAll_21 rfl (lv_at hl 1 rfl) ?_
        refine lv_iload_n hC.1 hC.2.1 d_Ha_shrinkAll_22 rfl (lv_at hl 0 rfl) ?_
        refine z_roSi (As := [.int (iI k), .int (iI 0)]) (rest := [.ref qn]) hC (c_Ha_at l D t ts k 0 (12 * k) (by omega)) (cw_S hC k_141 k_142 k_5 k_143 ye_Ha_at (by decide)) hP hK hE hS [] rfl rfl hl.1 rfl (Nat.le_of_ble_eq_true rfl) ⟨Nat.le_of_ble_eq_true rfl, Nat.le_of_ble_eq_true rfl⟩ d_Ha_shrinkAll_23 ?_
        refine z_mSv (As := [.ref qn, .int (iI (12 * k))]) (rest := []) (wr := [(o, .inr (0, [.ref qt, .ref qn, .int (iI z)]))]) hC (c_Po_shrink l D t ts qn 4800 G (12 * k) (G (12 * k)) (G (12 * k + 1)) (G (12 * k + 2)) (G (12 * k + 3)) (G (12 * k + 1) - G (12 * k + 3) - G (12 * k)) (G (12 * k + 2) - G (12 * k + 3)) (G (12 * k + 1) - G (12 * k)) (G (12 * k + 2) - G (12 * k) - G (12 * k + 3)) (by decide) (by omega) rfl rfl rfl rfl rfl rfl rfl rfl _) (cw_S hC k_304 k_265 k_8 k_266 ye_Po_shrink (by decide)) hP hD hK hE hS hA [1] [0] (by decide) rfl rfl (by decide) (by decide) rfl hl.1 rfl (Nat.le_of_ble_eq_true rfl) ⟨Nat.le_of_ble_eq_true rfl, Nat.le_of_ble_eq_true rfl⟩ d_Ha_shrinkAll_26 (fun u1 H locs eu1 hP hD hS => ?_)
        have eu1 : u1 = sh4 G (12 * k) := eu1
        have hP : va_P D classes [(o, .inr (0, [.ref qt, .ref qn, .int (iI z)])), (qn, eI t.1 4800 u1)] H := hP
        have hD : va_D A [(o, .inr (0, [.ref qt, .ref qn, .int (iI z)])), (qn, eI t.1 4800 u1)] := hD
        refine lv_iinc (v := iI 1) (lv' := [(2, .int (iI 1)), (1, .int (iI k)), (0, .ref o)]) hC.1 hC.2.1 d_Ha_shrinkAll_29 hl (k := 0) rfl (z_inc (by omega)) (by decide) rfl (fun ls hl => ?_)
        refine z_goto (tgt := 12) hC d_Ha_shrinkAll_32 (by decide) ?_
        refine lv_iload_n hC.1 hC.2.1 d_Ha_shrinkAll_12 rfl (lv_at hl 0 rfl) ?_
        refine z_iconst hC d_Ha_shrinkAll_13 ?_
        refine z_icmp_ge (tgt := 35) hC d_Ha_shrinkAll_14 (by decide) (by decide) (by decide) (fun h => absurd h (by decide)) (fun _ => ?_)
        refine lv_aload_n hC.1 hC.2.1 d_Ha_shrinkAll_17 rfl (lv_at hl 2 rfl) ?_
        refine z_get (ci := 0) (C := R_Ha) (T := F_Ha) (N := 3) (v := .ref qn) hC in_Ha hK hP 0 rfl rfl 1 (by decide) k_84 rfl d_Ha_shrinkAll_18 ?_
        refine lv_iload_n hC.1 hC.2.1 d_Ha_shrinkAll_21 rfl (lv_at hl 1 rfl) ?_
        refine lv_iload_n hC.1 hC.2.1 d_Ha_shrinkAll_22 rfl (lv_at hl 0 rfl) ?_
        refine z_roSi (As := [.int (iI k), .int (iI 1)]) (rest := [.ref qn]) hC (c_Ha_at l D t ts k 1 (12 * k + 4) (by omega)) (cw_S hC k_141 k_142 k_5 k_143 ye_Ha_at (by decide)) hP hK hE hS [] rfl rfl hl.1 rfl (Nat.le_of_ble_eq_true rfl) ⟨Nat.le_of_ble_eq_true rfl, Nat.le_of_ble_eq_true rfl⟩ d_Ha_shrinkAll_23 ?_
        refine z_mSv (As := [.ref qn, .int (iI (12 * k + 4))]) (rest := []) (wr := [(o, .inr (0, [.ref qt, .ref qn, .int (iI z)]))]) hC (c_Po_shrink l D t ts qn 4800 u1 (12 * k + 4) (u1 (12 * k + 4)) (u1 (12 * k + 4 + 1)) (u1 (12 * k + 4 + 2)) (u1 (12 * k + 4 + 3)) (u1 (12 * k + 4 + 1) - u1 (12 * k + 4 + 3) - u1 (12 * k + 4)) (u1 (12 * k + 4 + 2) - u1 (12 * k + 4 + 3)) (u1 (12 * k + 4 + 1) - u1 (12 * k + 4)) (u1 (12 * k + 4 + 2) - u1 (12 * k + 4) - u1 (12 * k + 4 + 3)) (by decide) (by omega) rfl rfl rfl rfl rfl rfl rfl rfl _) (cw_S hC k_304 k_265 k_8 k_266 ye_Po_shrink (by decide)) hP hD hK hE hS hA [1] [0] (by decide) rfl rfl (by decide) (by decide) rfl hl.1 rfl (Nat.le_of_ble_eq_true rfl) ⟨Nat.le_of_ble_eq_true rfl, Nat.le_of_ble_eq_true rfl⟩ d_Ha_shrinkAll_26 (fun u2 H locs eu2 hP hD hS => ?_)
        have eu2 : u2 = sh4 u1 (12 * k + 4) := eu2
        have hP : va_P D classes [(o, .inr (0, [.ref qt, .ref qn, .int (iI z)])), (qn, eI t.1 4800 u2)] H := hP
        have hD : va_D A [(o, .inr (0, [.ref qt, .ref qn, .int (iI z)])), (qn, eI t.1 4800 u2)] := hD
        refine lv_iinc (v := iI 2) (lv' := [(2, .int (iI 2)), (1, .int (iI k)), (0, .ref o)]) hC.1 hC.2.1 d_Ha_shrinkAll_29 hl (k := 0) rfl (z_inc (by omega)) (by decide) rfl (fun ls hl => ?_)
        refine z_goto (tgt := 12) hC d_Ha_shrinkAll_32 (by decide) ?_
        refine lv_iload_n hC.1 hC.2.1 d_Ha_shrinkAll_12 rfl (lv_at hl 0 rfl) ?_
        refine z_iconst hC d_Ha_shrinkAll_13 ?_
        refine z_icmp_ge (tgt := 35) hC d_Ha_shrinkAll_14 (by decide) (by decide) (by decide) (fun h => absurd h (by decide)) (fun _ => ?_)
        refine lv_aload_n hC.1 hC.2.1 d_Ha_shrinkAll_17 rfl (lv_at hl 2 rfl) ?_
        refine z_get (ci := 0) (C := R_Ha) (T := F_Ha) (N := 3) (v := .ref qn) hC in_Ha hK hP 0 rfl rfl 1 (by decide) k_84 rfl d_Ha_shrinkAll_18 ?_
        refine lv_iload_n hC.1 hC.2.1 d_Ha_shrinkAll_21 rfl (lv_at hl 1 rfl) ?_
        refine lv_iload_n hC.1 hC.2.1 d_Ha_shrinkAll_22 rfl (lv_at hl 0 rfl) ?_
        refine z_roSi (As := [.int (iI k), .int (iI 2)]) (rest := [.ref qn]) hC (c_Ha_at l D t ts k 2 (12 * k + 8) (by omega)) (cw_S hC k_141 k_142 k_5 k_143 ye_Ha_at (by decide)) hP hK hE hS [] rfl rfl hl.1 rfl (Nat.le_of_ble_eq_true rfl) ⟨Nat.le_of_ble_eq_true rfl, Nat.le_of_ble_eq_true rfl⟩ d_Ha_shrinkAll_23 ?_
        refine z_mSv (As := [.ref qn, .int (iI (12 * k + 8))]) (rest := []) (wr := [(o, .inr (0, [.ref qt, .ref qn, .int (iI z)]))]) hC (c_Po_shrink l D t ts qn 4800 u2 (12 * k + 8) (u2 (12 * k + 8)) (u2 (12 * k + 8 + 1)) (u2 (12 * k + 8 + 2)) (u2 (12 * k + 8 + 3)) (u2 (12 * k + 8 + 1) - u2 (12 * k + 8 + 3) - u2 (12 * k + 8)) (u2 (12 * k + 8 + 2) - u2 (12 * k + 8 + 3)) (u2 (12 * k + 8 + 1) - u2 (12 * k + 8)) (u2 (12 * k + 8 + 2) - u2 (12 * k + 8) - u2 (12 * k + 8 + 3)) (by decide) (by omega) rfl rfl rfl rfl rfl rfl rfl rfl _) (cw_S hC k_304 k_265 k_8 k_266 ye_Po_shrink (by decide)) hP hD hK hE hS hA [1] [0] (by decide) rfl rfl (by decide) (by decide) rfl hl.1 rfl (Nat.le_of_ble_eq_true rfl) ⟨Nat.le_of_ble_eq_true rfl, Nat.le_of_ble_eq_true rfl⟩ d_Ha_shrinkAll_26 (fun u3 H locs eu3 hP hD hS => ?_)
        have eu3 : u3 = sh4 u2 (12 * k + 8) := eu3
        have hP : va_P D classes [(o, .inr (0, [.ref qt, .ref qn, .int (iI z)])), (qn, eI t.1 4800 u3)] H := hP
        have hD : va_D A [(o, .inr (0, [.ref qt, .ref qn, .int (iI z)])), (qn, eI t.1 4800 u3)] := hD
        refine lv_iinc (v := iI 3) (lv' := [(2, .int (iI 3)), (1, .int (iI k)), (0, .ref o)]) hC.1 hC.2.1 d_Ha_shrinkAll_29 hl (k := 0) rfl (z_inc (by omega)) (by decide) rfl (fun ls hl => ?_)
        refine z_goto (tgt := 12) hC d_Ha_shrinkAll_32 (by decide) ?_
        refine lv_iload_n hC.1 hC.2.1 d_Ha_shrinkAll_12 rfl (lv_at hl 0 rfl) ?_
        refine z_iconst hC d_Ha_shrinkAll_13 ?_
        refine z_icmp_ge (tgt := 35) hC d_Ha_shrinkAll_14 (by decide) (by decide) (by decide) (fun _ => ?_) (fun h => absurd h (by decide))
        refine lv_iinc (v := iI (k + 1)) (lv' := [(1, .int (iI (k + 1))), (2, .int (iI 3)), (0, .ref o)]) hC.1 hC.2.1 d_Ha_shrinkAll_35 hl (k := 1) rfl (z_inc (by omega)) (by decide) rfl (fun ls hl => ?_)
        refine z_goto (tgt := 2) hC d_Ha_shrinkAll_38 (by decide) ?_
        exact ih2 u3 (k + 1) _ _ _ (by omega) (by omega) (by rw [shN_s (by omega), ← eG, eu3, eu2, eu1]) (hP.sub (ws' := [(o, .inr (0, [.ref qt, .ref qn, .int (iI z)])), (qn, eI t.1 4800 u3)]) [0, 1] rfl) (hD.sub (ws' := [(o, .inr (0, [.ref qt, .ref qn, .int (iI z)])), (qn, eI t.1 4800 u3)]) [0, 1] (by decide) rfl) hS (lv_sub hl [0, 2] rfl)
  exact L2 (z - 0 + 1 : Int).toNat F 0 _ _ _ (by omega) (by omega) (by rfl) hP hD hS (lv_sub hl [0, 1] rfl)
theorem ye_X_putTogether : ye y_X_putTogether R_X 2 := by unfold ye; decide +kernel
abbrev rm_X_putTogether : Room := { frames := 3, cells := 0, slots := 0, locals := 77 }
set_option maxHeartbeats 4000000 in
set_option maxRecDepth 100000 in
theorem c_X_putTogether (l : Launch) (D : va_G) (t : vt) (ts : Nat → Nat) (x qs qr qw qg qu qp ql qh qt qn nx nt nn : Nat) (sp : Value) (lv z zn : Int) (Lo Hi T F U Tn Fn : Int → Int) (hz : 0 ≤ z ∧ z ≤ 400) (hLo : bL Lo) (hHi : bL Hi) (hT : bT T) (hF : bF F) (hU : bF U) (hTn : bT Tn) (hFn : bF Fn) (y : Int) (hy : 0 ≤ y ∧ y < z) (hzn : 0 ≤ zn ∧ zn < 400) (sz : Nat) : Met l y_X_putTogether (.code y_X_putTogether b_X_putTogether 7 none :: tb_ws) rm_X_putTogether (MP D t ts [.ref x, .int (iI y), .ref nx] [(x, .inr (4, [.ref qs, .ref qr, .ref qw, .ref qg, .ref qu, .ref qp, sp, .int (iI lv)])), (qs, .inr (2, [.ref ql, .ref qh])), (ql, eL t.2.1 2000 Lo), (qh, eL t.2.1 2000 Hi), (qp, .inr (0, [.ref qt, .ref qn, .int (iI z)])), (qt, eI t.1 400 T), (qn, eI t.1 4800 F), (qu, eI t.1 400 U), (nx, .inr (0, [.ref nt, .ref nn, .int (iI zn)])), (nt, eI t.1 400 Tn), (nn, eI t.1 4800 Fn)] sz) (va_Qv (fun u : Int × (Int → Int) × (Int → Int) × (Int → Int) => (u.1, u.2.1, u.2.2.1, u.2.2.2) = ptN T F U z y zn Tn Fn ∧ bT u.2.1 ∧ bF u.2.2.1 ∧ bF u.2.2.2) (MB D (va_A [(x, .inr (4, [.ref qs, .ref qr, .ref qw, .ref qg, .ref qu, .ref qp, sp, .int (iI lv)])), (qs, .inr (2, [.ref ql, .ref qh])), (ql, eL t.2.1 2000 Lo), (qh, eL t.2.1 2000 Hi), (qp, .inr (0, [.ref qt, .ref qn, .int (iI z)])), (qt, eI t.1 400 T), (qn, eI t.1 4800 F), (qu, eI t.1 400 U), (nx, .inr (0, [.ref nt, .ref nn, .int (iI zn)])), (nt, eI t.1 400 Tn), (nn, eI t.1 4800 Fn)] sz) (fun u : Int × (Int → Int) × (Int → Int) × (Int → Int) => [(x, .inr (4, [.ref qs, .ref qr, .ref qw, .ref qg, .ref qu, .ref qp, sp, .int (iI lv)])), (qs, .inr (2, [.ref ql, .ref qh])), (ql, eL t.2.1 2000 Lo), (qh, eL t.2.1 2000 Hi), (qp, .inr (0, [.ref qt, .ref qn, .int (iI z)])), (qt, eI t.1 400 T), (qn, eI t.1 4800 F), (qu, eI t.1 400 u.2.2.2), (nx, .inr (0, [.ref nt, .ref nn, .int (iI u.1)])), (nt, eI t.1 400 u.2.1), (nn, eI t.1 4800 u.2.2.1)])) (va_A [(x, .inr (4, [.ref qs, .ref qr, .ref qw, .ref qg, .ref qu, .ref qp, sp, .int (iI lv)])), (qs, .inr (2, [.ref ql, .ref qh])), (ql, eL t.2.1 2000 Lo), (qh, eL t.2.1 2000 Hi), (qp, .inr (0, [.ref qt, .ref qn, .int (iI z)])), (qt, eI t.1 400 T), (qn, eI t.1 4800 F), (qu, eI t.1 400 U), (nx, .inr (0, [.ref nt, .ref nn, .int (iI zn)])), (nt, eI t.1 400 Tn), (nn, eI t.1 4800 Fn)] sz)) 0 0 (va_A [(x, .inr (4, [.ref qs, .ref qr, .ref qw, .ref qg, .ref qu, .ref qp, sp, .int (iI lv)])), (qs, .inr (2, [.ref ql, .ref qh])), (ql, eL t.2.1 2000 Lo), (qh, eL t.2.1 2000 Hi), (qp, .inr (0, [.ref qt, .ref qn, .int (iI z)])), (qt, eI t.1 400 T), (qn, eI t.1 4800 F), (qu, eI t.1 400 U), (nx, .inr (0, [.ref nt, .ref nn, .int (iI zn)])), (nt, eI t.1 400 Tn), (nn, eI t.1 4800 Fn)] sz) := by
  refine m_v (by decide +kernel) (Nat.le_of_ble_eq_true rfl) ?_
  intro zp ze zs zm zb zt zc zQ A ls hC hA hP hK hD hE hS hl ret
  have hl : lv_has ls 7 [(0, .ref x), (1, .int (iI y)), (2, .ref nx)] := hl
  have f1 := flb_in T F z y (by omega)
  have f2 := flc_in F z y (by omega)
  have f3 := hT (flcZ F z y)
  have f4 := hU (flbZ T F z y)
  have f5 := hU (flcZ F z y)
  refine lv_aload_n hC.1 hC.2.1 d_X_putTogether_0 rfl (lv_at hl 0 rfl) ?_
  refine lv_iload_n hC.1 hC.2.1 d_X_putTogether_1 rfl (lv_at hl 1 rfl) ?_
  refine z_roVi (As := [.int (iI y)]) (rest := []) hC (c_X_findAtLegB l D t ts x qs qr qw qg qu qp ql qh qt qn sp lv z Lo Hi T F (by omega) hLo hHi hT hF y (by omega)) (cw_V hC k_287 k_289 kp_8 k_1 k_290 ye_X_findAtLegB (by decide)) hP hK hE hS [0, 1, 2, 3, 4, 5, 6] rfl 0 (ci := 4) rfl rfl rfl rfl hl.1 rfl (Nat.le_of_ble_eq_true rfl) ⟨Nat.le_of_ble_eq_true rfl, Nat.le_of_ble_eq_true rfl⟩ d_X_putTogether_2 ?_
  refine lv_istore_n (lv' := [(3, .int (iI (flbZ T F z y))), (0, .ref x), (1, .int (iI y)), (2, .ref nx)]) hC.1 hC.2.1 d_X_putTogether_5 rfl hl (by decide) rfl (fun ls hl => ?_)
  refine lv_aload_n hC.1 hC.2.1 d_X_putTogether_6 rfl (lv_at hl 1 rfl) ?_
  refine lv_iload_n hC.1 hC.2.1 d_X_putTogether_7 rfl (lv_at hl 2 rfl) ?_
  refine z_roVi (As := [.int (iI y)]) (rest := []) hC (c_X_findAtLegC l D t ts x qs qr qw qg qu qp ql qh qt qn sp lv z Lo Hi T F (by omega) hLo hHi hT hF y (by omega)) (cw_V hC k_296 k_298 kp_9 k_1 k_299 ye_X_findAtLegC (by decide)) hP hK hE hS [0, 1, 2, 3, 4, 5, 6] rfl 0 (ci := 4) rfl rfl rfl rfl hl.1 rfl (Nat.le_of_ble_eq_true rfl) ⟨Nat.le_of_ble_eq_true rfl, Nat.le_of_ble_eq_true rfl⟩ d_X_putTogether_8 ?_
  refine lv_istore (lv' := [(4, .int (iI (flcZ F z y))), (3, .int (iI (flbZ T F z y))), (0, .ref x), (1, .int (iI y)), (2, .ref nx)]) hC.1 hC.2.1 d_X_putTogether_11 hl (by decide) rfl (fun ls hl => ?_)
  refine lv_iload_n hC.1 hC.2.1 d_X_putTogether_13 rfl (lv_at hl 1 rfl) ?_
  refine z_iconst hC d_X_putTogether_14 ?_
  refine z_icmp_eq (tgt := 33) hC d_X_putTogether_15 (by decide) (by have := flb_in T F z y (by omega); omega) (by decide) (fun h15 => ?_) (fun h15 => ?_)
  · have hP9 := hP.sub (ws' := [(x, .inr (4, [.ref qs, .ref qr, .ref qw, .ref qg, .ref qu, .ref qp, sp, .int (iI lv)])), (qs, .inr (2, [.ref ql, .ref qh])), (ql, eL t.2.1 2000 Lo), (qh, eL t.2.1 2000 Hi), (qp, .inr (0, [.ref qt, .ref qn, .int (iI z)])), (qt, eI t.1 400 T), (qn, eI t.1 4800 F), (qu, eI t.1 400 U), (nx, .inr (0, [.ref nt, .ref nn, .int (iI zn)])), (nt, eI t.1 400 Tn), (nn, eI t.1 4800 Fn)]) [0, 1, 2, 3, 4, 5, 6, 7, 8, 9, 10] rfl
    have hD9 := hD.sub (ws' := [(x, .inr (4, [.ref qs, .ref qr, .ref qw, .ref qg, .ref qu, .ref qp, sp, .int (iI lv)])), (qs, .inr (2, [.ref ql, .ref qh])), (ql, eL t.2.1 2000 Lo), (qh, eL t.2.1 2000 Hi), (qp, .inr (0, [.ref qt, .ref qn, .int (iI z)])), (qt, eI t.1 400 T), (qn, eI t.1 4800 F), (qu, eI t.1 400 U), (nx, .inr (0, [.ref nt, .ref nn, .int (iI zn)])), (nt, eI t.1 400 Tn), (nn, eI t.1 4800 Fn)]) [0, 1, 2, 3, 4, 5, 6, 7, 8, 9, 10] (by decide) rfl
    exact ret (zn, Tn, Fn, U) _ _ 33 _ d_X_putTogether_33 ⟨by unfold ptN; rw [if_pos (by omega)], hTn, hFn, hU⟩ hP9 hD9 hS
  · refine lv_iload hC.1 hC.2.1 d_X_putTogether_18 (lv_at hl 0 rfl) ?_
    refine z_iconst hC d_X_putTogether_20 ?_
    refine z_icmp_eq (tgt := 33) hC d_X_putTogether_21 (by decide) (by have := flc_in F z y (by omega); omega) (by decide) (fun h21 => ?_) (fun h21 => ?_)
    · have hP9 := hP.sub (ws' := [(x, .inr (4, [.ref qs, .ref qr, .ref qw, .ref qg, .ref qu, .ref qp, sp, .int (iI lv)])), (qs, .inr (2, [.ref ql, .ref qh])), (ql, eL t.2.1 2000 Lo), (qh, eL t.2.1 2000 Hi), (qp, .inr (0, [.ref qt, .ref qn, .int (iI z)])), (qt, eI t.1 400 T), (qn, eI t.1 4800 F), (qu, eI t.1 400 U), (nx, .inr (0, [.ref nt, .ref nn, .int (iI zn)])), (nt, eI t.1 400 Tn), (nn, eI t.1 4800 Fn)]) [0, 1, 2, 3, 4, 5, 6, 7, 8, 9, 10] rfl
      have hD9 := hD.sub (ws' := [(x, .inr (4, [.ref qs, .ref qr, .ref qw, .ref qg, .ref qu, .ref qp, sp, .int (iI lv)])), (qs, .inr (2, [.ref ql, .ref qh])), (ql, eL t.2.1 2000 Lo), (qh, eL t.2.1 2000 Hi), (qp, .inr (0, [.ref qt, .ref qn, .int (iI z)])), (qt, eI t.1 400 T), (qn, eI t.1 4800 F), (qu, eI t.1 400 U), (nx, .inr (0, [.ref nt, .ref nn, .int (iI zn)])), (nt, eI t.1 400 Tn), (nn, eI t.1 4800 Fn)]) [0, 1, 2, 3, 4, 5, 6, 7, 8, 9, 10] (by decide) rfl
      exact ret (zn, Tn, Fn, U) _ _ 33 _ d_X_putTogether_33 ⟨by unfold ptN; rw [if_pos (by omega)], hTn, hFn, hU⟩ hP9 hD9 hS
    · refine lv_aload_n hC.1 hC.2.1 d_X_putTogether_24 rfl (lv_at hl 2 rfl) ?_
      refine z_get (ci := 4) (C := R_X) (T := F_X) (N := 8) (v := .ref qu) hC in_X hK hP 0 rfl rfl 4 (by decide) k_102 rfl d_X_putTogether_25 ?_
      refine lv_iload_n hC.1 hC.2.1 d_X_putTogether_28 rfl (lv_at hl 1 rfl) ?_
      refine z_iald hC hK hP 7 rfl (by omega) d_X_putTogether_29 ?_
      refine z_if_eq (tgt := 34) hC d_X_putTogether_30 (by decide) (by have := hU (flbZ T F z y); omega) (fun h30 => ?_) (fun h30 => ?_)
      · refine lv_iload_n hC.1 hC.2.1 d_X_putTogether_34 rfl (lv_at hl 3 rfl) ?_
        refine z_iconst hC d_X_putTogether_35 ?_
        refine z_roSi (As := [.int (iI y), .int (iI 2)]) (rest := []) hC (c_Ha_at l D t ts y 2 (12 * y + 8) (by omega)) (cw_S hC k_215 k_142 k_5 k_143 ye_Ha_at (by decide)) hP hK hE hS [] rfl rfl hl.1 rfl (Nat.le_of_ble_eq_true rfl) ⟨Nat.le_of_ble_eq_true rfl, Nat.le_of_ble_eq_true rfl⟩ d_X_putTogether_36 ?_
        refine lv_istore (lv' := [(5, .int (iI (12 * y + 8))), (4, .int (iI (flcZ F z y))), (3, .int (iI (flbZ T F z y))), (0, .ref x), (1, .int (iI y)), (2, .ref nx)]) hC.1 hC.2.1 d_X_putTogether_39 hl (by decide) rfl (fun ls hl => ?_)
        refine lv_iload_n hC.1 hC.2.1 d_X_putTogether_41 rfl (lv_at hl 2 rfl) ?_
        refine z_iconst hC d_X_putTogether_42 ?_
        refine z_roSi (As := [.int (iI (flbZ T F z y)), .int (iI 2)]) (rest := []) hC (c_Ha_at l D t ts (flbZ T F z y) 2 (12 * flbZ T F z y + 8) (by omega)) (cw_S hC k_215 k_142 k_5 k_143 ye_Ha_at (by decide)) hP hK hE hS [] rfl rfl hl.1 rfl (Nat.le_of_ble_eq_true rfl) ⟨Nat.le_of_ble_eq_true rfl, Nat.le_of_ble_eq_true rfl⟩ d_X_putTogether_43 ?_
        refine lv_istore (lv' := [(6, .int (iI (12 * flbZ T F z y + 8))), (5, .int (iI (12 * y + 8))), (4, .int (iI (flcZ F z y))), (3, .int (iI (flbZ T F z y))), (0, .ref x), (1, .int (iI y)), (2, .ref nx)]) hC.1 hC.2.1 d_X_putTogether_46 hl (by decide) rfl (fun ls hl => ?_)
        refine lv_aload_n hC.1 hC.2.1 d_X_putTogether_48 rfl (lv_at hl 4 rfl) ?_
        refine z_get (ci := 4) (C := R_X) (T := F_X) (N := 8) (v := .ref qp) hC in_X hK hP 0 rfl rfl 5 (by decide) k_103 rfl d_X_putTogether_49 ?_
        refine z_getN (ci := 0) (C := R_Ha) (T := F_Ha) (N := 3) (v := .ref qt) hC in_Ha hK hP 4 rfl rfl 0 (by decide) hE.1.1 rfl d_X_putTogether_52 ?_
        refine lv_iload hC.1 hC.2.1 d_X_putTogether_55 (lv_at hl 2 rfl) ?_
        refine z_iald hC hK hP 5 rfl (by omega) d_X_putTogether_57 ?_
        refine z_if_ne (tgt := 85) hC d_X_putTogether_58 (by decide) (by have := hT (flcZ F z y); omega) (fun h58 => ?_) (fun h58 => ?_)
        · refine lv_aload_n hC.1 hC.2.1 d_X_putTogether_85 rfl (lv_at hl 4 rfl) ?_
          refine z_get (ci := 4) (C := R_X) (T := F_X) (N := 8) (v := .ref qu) hC in_X hK hP 0 rfl rfl 4 (by decide) k_102 rfl d_X_putTogether_86 ?_
          refine lv_iload hC.1 hC.2.1 d_X_putTogether_89 (lv_at hl 2 rfl) ?_
          refine z_iald hC hK hP 7 rfl (by omega) d_X_putTogether_91 ?_
          refine z_if_ne (tgt := 128) hC d_X_putTogether_92 (by decide) (by have := hU (flcZ F z y); omega) (fun h92 => ?_) (fun h92 => ?_)
          · have hP9 := hP.sub (ws' := [(x, .inr (4, [.ref qs, .ref qr, .ref qw, .ref qg, .ref qu, .ref qp, sp, .int (iI lv)])), (qs, .inr (2, [.ref ql, .ref qh])), (ql, eL t.2.1 2000 Lo), (qh, eL t.2.1 2000 Hi), (qp, .inr (0, [.ref qt, .ref qn, .int (iI z)])), (qt, eI t.1 400 T), (qn, eI t.1 4800 F), (qu, eI t.1 400 U), (nx, .inr (0, [.ref nt, .ref nn, .int (iI zn)])), (nt, eI t.1 400 Tn), (nn, eI t.1 4800 Fn)]) [0, 1, 2, 3, 4, 5, 6, 7, 8, 9, 10] rfl
            have hD9 := hD.sub (ws' := [(x, .inr (4, [.ref qs, .ref qr, .ref qw, .ref qg, .ref qu, .ref qp, sp, .int (iI lv)])), (qs, .inr (2, [.ref ql, .ref qh])), (ql, eL t.2.1 2000 Lo), (qh, eL t.2.1 2000 Hi), (qp, .inr (0, [.ref qt, .ref qn, .int (iI z)])), (qt, eI t.1 400 T), (qn, eI t.1 4800 F), (qu, eI t.1 400 U), (nx, .inr (0, [.ref nt, .ref nn, .int (iI zn)])), (nt, eI t.1 400 Tn), (nn, eI t.1 4800 Fn)]) [0, 1, 2, 3, 4, 5, 6, 7, 8, 9, 10] (by decide) rfl
            exact ret (zn, Tn, Fn, U) _ _ 128 _ d_X_putTogether_128 ⟨by unfold ptN; rw [if_neg (by omega), if_neg (by omega), if_neg (by omega)], hTn, hFn, hU⟩ hP9 hD9 hS
          · refine lv_aload_n hC.1 hC.2.1 d_X_putTogether_95 rfl (lv_at hl 6 rfl) ?_
            refine z_iconst hC d_X_putTogether_96 ?_
            refine lv_aload_n hC.1 hC.2.1 d_X_putTogether_97 rfl (lv_at hl 4 rfl) ?_
            refine z_get (ci := 4) (C := R_X) (T := F_X) (N := 8) (v := .ref qp) hC in_X hK hP 0 rfl rfl 5 (by decide) k_103 rfl d_X_putTogether_98 ?_
            refine z_getN (ci := 0) (C := R_Ha) (T := F_Ha) (N := 3) (v := .ref qn) hC in_Ha hK hP 4 rfl rfl 1 (by decide) hE.1.2.2.1 rfl d_X_putTogether_101 ?_
            refine lv_iload hC.1 hC.2.1 d_X_putTogether_104 (lv_at hl 1 rfl) ?_
            refine lv_iload hC.1 hC.2.1 d_X_putTogether_106 (lv_at hl 0 rfl) ?_
            refine lv_iload hC.1 hC.2.1 d_X_putTogether_108 (lv_at hl 2 rfl) ?_
            refine z_iconst hC d_X_putTogether_110 ?_
            refine z_roSi (As := [.int (iI (flcZ F z y)), .int (iI 1)]) (rest := [.int (iI (12 * flbZ T F z y + 8)), .int (iI (12 * y + 8)), .ref qn, .int (iI 1), .ref nx]) hC (c_Ha_at l D t ts (flcZ F z y) 1 (12 * flcZ F z y + 4) (by omega)) (cw_S hC k_215 k_142 k_5 k_143 ye_Ha_at (by decide)) hP hK hE hS [] rfl rfl hl.1 rfl (Nat.le_of_ble_eq_true rfl) ⟨Nat.le_of_ble_eq_true rfl, Nat.le_of_ble_eq_true rfl⟩ d_X_putTogether_111 ?_
            refine z_mVv (As := [.int (iI 1), .ref qn, .int (iI (12 * y + 8)), .int (iI (12 * flbZ T F z y + 8)), .int (iI (12 * flcZ F z y + 4))]) (rest := []) (wr := [(x, .inr (4, [.ref qs, .ref qr, .ref qw, .ref qg, .ref qu, .ref qp, sp, .int (iI lv)])), (qs, .inr (2, [.ref ql, .ref qh])), (ql, eL t.2.1 2000 Lo), (qh, eL t.2.1 2000 Hi), (qp, .inr (0, [.ref qt, .ref qn, .int (iI z)])), (qt, eI t.1 400 T), (qu, eI t.1 400 U)]) hC (c_Ha_append l D t ts nx nt nn qn 4800 zn Tn Fn F 1 (12 * y + 8) (12 * flbZ T F z y + 8) (12 * flcZ F z y + 4) (by omega) (by omega) (by omega) (by omega) (by decide) (by decide) hTn hFn hF (zn + 1) (by omega) _) (cw_V hC k_133 k_134 k_135 k_5 k_136 ye_Ha_append (by decide)) hP hD hK hE hS hA [8, 9, 10, 6] [0, 1, 2, 3, 4, 5, 7] (by decide) rfl rfl (by decide) (by decide) 8 (ci := 0) rfl rfl rfl rfl hl.1 rfl (Nat.le_of_ble_eq_true rfl) ⟨Nat.le_of_ble_eq_true rfl, Nat.le_of_ble_eq_true rfl⟩ d_X_putTogether_114 (fun u1 H locs eu1 hP hD hS => ?_)
            obtain ⟨u1T, u1N⟩ := u1
            obtain ⟨eu1T, eu1N⟩ := eu1
            dsimp only at eu1T eu1N hP hD
            have hu1T : bT u1T := by rw [eu1T]; exact bT_uZ hTn (by decide)
            have hu1N : bF u1N := by rw [eu1N]; exact bF_wrN hFn hF
            have hP : va_P D classes [(x, .inr (4, [.ref qs, .ref qr, .ref qw, .ref qg, .ref qu, .ref qp, sp, .int (iI lv)])), (qs, .inr (2, [.ref ql, .ref qh])), (ql, eL t.2.1 2000 Lo), (qh, eL t.2.1 2000 Hi), (qp, .inr (0, [.ref qt, .ref qn, .int (iI z)])), (qt, eI t.1 400 T), (qu, eI t.1 400 U), (nx, .inr (0, [.ref nt, .ref nn, .int (iI (zn + 1))])), (nt, eI t.1 400 u1T), (nn, eI t.1 4800 u1N), (qn, eI t.1 4800 F)] H := hP
            have hD : va_D A [(x, .inr (4, [.ref qs, .ref qr, .ref qw, .ref qg, .ref qu, .ref qp, sp, .int (iI lv)])), (qs, .inr (2, [.ref ql, .ref qh])), (ql, eL t.2.1 2000 Lo), (qh, eL t.2.1 2000 Hi), (qp, .inr (0, [.ref qt, .ref qn, .int (iI z)])), (qt, eI t.1 400 T), (qu, eI t.1 400 U), (nx, .inr (0, [.ref nt, .ref nn, .int (iI (zn + 1))])), (nt, eI t.1 400 u1T), (nn, eI t.1 4800 u1N), (qn, eI t.1 4800 F)] := hD
            refine lv_aload_n hC.1 hC.2.1 d_X_putTogether_117 rfl (lv_at hl 4 rfl) ?_
            refine z_get (ci := 4) (C := R_X) (T := F_X) (N := 8) (v := .ref qu) hC in_X hK hP 0 rfl rfl 4 (by decide) k_102 rfl d_X_putTogether_118 ?_
            refine lv_iload hC.1 hC.2.1 d_X_putTogether_121 (lv_at hl 2 rfl) ?_
            refine z_iconst hC d_X_putTogether_123 ?_
            refine z_iast (ws' := [(x, .inr (4, [.ref qs, .ref qr, .ref qw, .ref qg, .ref qu, .ref qp, sp, .int (iI lv)])), (qs, .inr (2, [.ref ql, .ref qh])), (ql, eL t.2.1 2000 Lo), (qh, eL t.2.1 2000 Hi), (qp, .inr (0, [.ref qt, .ref qn, .int (iI z)])), (qt, eI t.1 400 T), (qu, eI t.1 400 (uZ U (flcZ F z y) 1)), (nx, .inr (0, [.ref nt, .ref nn, .int (iI (zn + 1))])), (nt, eI t.1 400 u1T), (nn, eI t.1 4800 u1N), (qn, eI t.1 4800 F)]) hC hK hP hD hS 6 rfl (by omega) rfl d_X_putTogether_124 (fun H locs hP hD hS => ?_)
            refine z_goto (tgt := 129) hC d_X_putTogether_125 (by decide) ?_
            refine lv_aload_n hC.1 hC.2.1 d_X_putTogether_129 rfl (lv_at hl 4 rfl) ?_
            refine z_get (ci := 4) (C := R_X) (T := F_X) (N := 8) (v := .ref qu) hC in_X hK hP 0 rfl rfl 4 (by decide) k_102 rfl d_X_putTogether_130 ?_
            refine lv_iload_n hC.1 hC.2.1 d_X_putTogether_133 rfl (lv_at hl 5 rfl) ?_
            refine z_iconst hC d_X_putTogether_134 ?_
            refine z_iast (ws' := [(x, .inr (4, [.ref qs, .ref qr, .ref qw, .ref qg, .ref qu, .ref qp, sp, .int (iI lv)])), (qs, .inr (2, [.ref ql, .ref qh])), (ql, eL t.2.1 2000 Lo), (qh, eL t.2.1 2000 Hi), (qp, .inr (0, [.ref qt, .ref qn, .int (iI z)])), (qt, eI t.1 400 T), (qu, eI t.1 400 (uZ (uZ U (flcZ F z y) 1) y 1)), (nx, .inr (0, [.ref nt, .ref nn, .int (iI (zn + 1))])), (nt, eI t.1 400 u1T), (nn, eI t.1 4800 u1N), (qn, eI t.1 4800 F)]) hC hK hP hD hS 6 rfl (by omega) rfl d_X_putTogether_135 (fun H locs hP hD hS => ?_)
            refine lv_aload_n hC.1 hC.2.1 d_X_putTogether_136 rfl (lv_at hl 4 rfl) ?_
            refine z_get (ci := 4) (C := R_X) (T := F_X) (N := 8) (v := .ref qu) hC in_X hK hP 0 rfl rfl 4 (by decide) k_102 rfl d_X_putTogether_137 ?_
            refine lv_iload_n hC.1 hC.2.1 d_X_putTogether_140 rfl (lv_at hl 3 rfl) ?_
            refine z_iconst hC d_X_putTogether_141 ?_
            refine z_iast (ws' := [(x, .inr (4, [.ref qs, .ref qr, .ref qw, .ref qg, .ref qu, .ref qp, sp, .int (iI lv)])), (qs, .inr (2, [.ref ql, .ref qh])), (ql, eL t.2.1 2000 Lo), (qh, eL t.2.1 2000 Hi), (qp, .inr (0, [.ref qt, .ref qn, .int (iI z)])), (qt, eI t.1 400 T), (qu, eI t.1 400 (uZ (uZ (uZ U (flcZ F z y) 1) y 1) (flbZ T F z y) 1)), (nx, .inr (0, [.ref nt, .ref nn, .int (iI (zn + 1))])), (nt, eI t.1 400 u1T), (nn, eI t.1 4800 u1N), (qn, eI t.1 4800 F)]) hC hK hP hD hS 6 rfl (by omega) rfl d_X_putTogether_142 (fun H locs hP hD hS => ?_)
            have hP9 := hP.sub (ws' := [(x, .inr (4, [.ref qs, .ref qr, .ref qw, .ref qg, .ref qu, .ref qp, sp, .int (iI lv)])), (qs, .inr (2, [.ref ql, .ref qh])), (ql, eL t.2.1 2000 Lo), (qh, eL t.2.1 2000 Hi), (qp, .inr (0, [.ref qt, .ref qn, .int (iI z)])), (qt, eI t.1 400 T), (qn, eI t.1 4800 F), (qu, eI t.1 400 (uZ (uZ (uZ U (flcZ F z y) 1) y 1) (flbZ T F z y) 1)), (nx, .inr (0, [.ref nt, .ref nn, .int (iI (zn + 1))])), (nt, eI t.1 400 u1T), (nn, eI t.1 4800 u1N)]) [0, 1, 2, 3, 4, 5, 10, 6, 7, 8, 9] rfl
            have hD9 := hD.sub (ws' := [(x, .inr (4, [.ref qs, .ref qr, .ref qw, .ref qg, .ref qu, .ref qp, sp, .int (iI lv)])), (qs, .inr (2, [.ref ql, .ref qh])), (ql, eL t.2.1 2000 Lo), (qh, eL t.2.1 2000 Hi), (qp, .inr (0, [.ref qt, .ref qn, .int (iI z)])), (qt, eI t.1 400 T), (qn, eI t.1 4800 F), (qu, eI t.1 400 (uZ (uZ (uZ U (flcZ F z y) 1) y 1) (flbZ T F z y) 1)), (nx, .inr (0, [.ref nt, .ref nn, .int (iI (zn + 1))])), (nt, eI t.1 400 u1T), (nn, eI t.1 4800 u1N)]) [0, 1, 2, 3, 4, 5, 10, 6, 7, 8, 9] (by decide) rfl
            exact ret (zn + 1, u1T, u1N, (uZ (uZ (uZ U (flcZ F z y) 1) y 1) (flbZ T F z y) 1)) _ _ 143 _ d_X_putTogether_143 ⟨by unfold ptN; rw [if_neg (by omega), if_neg (by omega), if_pos (by omega), eu1T, eu1N], hu1T, hu1N, bF_uZ (bF_uZ (bF_uZ hU (by decide)) (by decide)) (by decide)⟩ hP9 hD9 hS
        · refine lv_aload_n hC.1 hC.2.1 d_X_putTogether_61 rfl (lv_at hl 6 rfl) ?_
          refine z_iconst hC d_X_putTogether_62 ?_
          refine lv_aload_n hC.1 hC.2.1 d_X_putTogether_63 rfl (lv_at hl 4 rfl) ?_
          refine z_get (ci := 4) (C := R_X) (T := F_X) (N := 8) (v := .ref qp) hC in_X hK hP 0 rfl rfl 5 (by decide) k_103 rfl d_X_putTogether_64 ?_
          refine z_getN (ci := 0) (C := R_Ha) (T := F_Ha) (N := 3) (v := .ref qn) hC in_Ha hK hP 4 rfl rfl 1 (by decide) hE.1.2.2.1 rfl d_X_putTogether_67 ?_
          refine lv_iload hC.1 hC.2.1 d_X_putTogether_70 (lv_at hl 0 rfl) ?_
          refine lv_iload hC.1 hC.2.1 d_X_putTogether_72 (lv_at hl 1 rfl) ?_
          refine lv_iload_n hC.1 hC.2.1 d_X_putTogether_74 rfl (lv_at hl 5 rfl) ?_
          refine z_iconst hC d_X_putTogether_75 ?_
          refine z_roSi (As := [.int (iI y), .int (iI 0)]) (rest := [.int (iI (12 * y + 8)), .int (iI (12 * flbZ T F z y + 8)), .ref qn, .int (iI 0), .ref nx]) hC (c_Ha_at l D t ts y 0 (12 * y) (by omega)) (cw_S hC k_215 k_142 k_5 k_143 ye_Ha_at (by decide)) hP hK hE hS [] rfl rfl hl.1 rfl (Nat.le_of_ble_eq_true rfl) ⟨Nat.le_of_ble_eq_true rfl, Nat.le_of_ble_eq_true rfl⟩ d_X_putTogether_76 ?_
          refine z_mVv (As := [.int (iI 0), .ref qn, .int (iI (12 * flbZ T F z y + 8)), .int (iI (12 * y + 8)), .int (iI (12 * y))]) (rest := []) (wr := [(x, .inr (4, [.ref qs, .ref qr, .ref qw, .ref qg, .ref qu, .ref qp, sp, .int (iI lv)])), (qs, .inr (2, [.ref ql, .ref qh])), (ql, eL t.2.1 2000 Lo), (qh, eL t.2.1 2000 Hi), (qp, .inr (0, [.ref qt, .ref qn, .int (iI z)])), (qt, eI t.1 400 T), (qu, eI t.1 400 U)]) hC (c_Ha_append l D t ts nx nt nn qn 4800 zn Tn Fn F 0 (12 * flbZ T F z y + 8) (12 * y + 8) (12 * y) (by omega) (by omega) (by omega) (by omega) (by decide) (by decide) hTn hFn hF (zn + 1) (by omega) _) (cw_V hC k_133 k_134 k_135 k_5 k_136 ye_Ha_append (by decide)) hP hD hK hE hS hA [8, 9, 10, 6] [0, 1, 2, 3, 4, 5, 7] (by decide) rfl rfl (by decide) (by decide) 8 (ci := 0) rfl rfl rfl rfl hl.1 rfl (Nat.le_of_ble_eq_true rfl) ⟨Nat.le_of_ble_eq_true rfl, Nat.le_of_ble_eq_true rfl⟩ d_X_putTogether_79 (fun u2 H locs eu2 hP hD hS => ?_)
          obtain ⟨u2T, u2N⟩ := u2
          obtain ⟨eu2T, eu2N⟩ := eu2
          dsimp only at eu2T eu2N hP hD
          have hu2T : bT u2T := by rw [eu2T]; exact bT_uZ hTn (by decide)
          have hu2N : bF u2N := by rw [eu2N]; exact bF_wrN hFn hF
          have hP : va_P D classes [(x, .inr (4, [.ref qs, .ref qr, .ref qw, .ref qg, .ref qu, .ref qp, sp, .int (iI lv)])), (qs, .inr (2, [.ref ql, .ref qh])), (ql, eL t.2.1 2000 Lo), (qh, eL t.2.1 2000 Hi), (qp, .inr (0, [.ref qt, .ref qn, .int (iI z)])), (qt, eI t.1 400 T), (qu, eI t.1 400 U), (nx, .inr (0, [.ref nt, .ref nn, .int (iI (zn + 1))])), (nt, eI t.1 400 u2T), (nn, eI t.1 4800 u2N), (qn, eI t.1 4800 F)] H := hP
          have hD : va_D A [(x, .inr (4, [.ref qs, .ref qr, .ref qw, .ref qg, .ref qu, .ref qp, sp, .int (iI lv)])), (qs, .inr (2, [.ref ql, .ref qh])), (ql, eL t.2.1 2000 Lo), (qh, eL t.2.1 2000 Hi), (qp, .inr (0, [.ref qt, .ref qn, .int (iI z)])), (qt, eI t.1 400 T), (qu, eI t.1 400 U), (nx, .inr (0, [.ref nt, .ref nn, .int (iI (zn + 1))])), (nt, eI t.1 400 u2T), (nn, eI t.1 4800 u2N), (qn, eI t.1 4800 F)] := hD
          refine z_goto (tgt := 129) hC d_X_putTogether_82 (by decide) ?_
          refine lv_aload_n hC.1 hC.2.1 d_X_putTogether_129 rfl (lv_at hl 4 rfl) ?_
          refine z_get (ci := 4) (C := R_X) (T := F_X) (N := 8) (v := .ref qu) hC in_X hK hP 0 rfl rfl 4 (by decide) k_102 rfl d_X_putTogether_130 ?_
          refine lv_iload_n hC.1 hC.2.1 d_X_putTogether_133 rfl (lv_at hl 5 rfl) ?_
          refine z_iconst hC d_X_putTogether_134 ?_
          refine z_iast (ws' := [(x, .inr (4, [.ref qs, .ref qr, .ref qw, .ref qg, .ref qu, .ref qp, sp, .int (iI lv)])), (qs, .inr (2, [.ref ql, .ref qh])), (ql, eL t.2.1 2000 Lo), (qh, eL t.2.1 2000 Hi), (qp, .inr (0, [.ref qt, .ref qn, .int (iI z)])), (qt, eI t.1 400 T), (qu, eI t.1 400 (uZ U y 1)), (nx, .inr (0, [.ref nt, .ref nn, .int (iI (zn + 1))])), (nt, eI t.1 400 u2T), (nn, eI t.1 4800 u2N), (qn, eI t.1 4800 F)]) hC hK hP hD hS 6 rfl (by omega) rfl d_X_putTogether_135 (fun H locs hP hD hS => ?_)
          refine lv_aload_n hC.1 hC.2.1 d_X_putTogether_136 rfl (lv_at hl 4 rfl) ?_
          refine z_get (ci := 4) (C := R_X) (T := F_X) (N := 8) (v := .ref qu) hC in_X hK hP 0 rfl rfl 4 (by decide) k_102 rfl d_X_putTogether_137 ?_
          refine lv_iload_n hC.1 hC.2.1 d_X_putTogether_140 rfl (lv_at hl 3 rfl) ?_
          refine z_iconst hC d_X_putTogether_141 ?_
          refine z_iast (ws' := [(x, .inr (4, [.ref qs, .ref qr, .ref qw, .ref qg, .ref qu, .ref qp, sp, .int (iI lv)])), (qs, .inr (2, [.ref ql, .ref qh])), (ql, eL t.2.1 2000 Lo), (qh, eL t.2.1 2000 Hi), (qp, .inr (0, [.ref qt, .ref qn, .int (iI z)])), (qt, eI t.1 400 T), (qu, eI t.1 400 (uZ (uZ U y 1) (flbZ T F z y) 1)), (nx, .inr (0, [.ref nt, .ref nn, .int (iI (zn + 1))])), (nt, eI t.1 400 u2T), (nn, eI t.1 4800 u2N), (qn, eI t.1 4800 F)]) hC hK hP hD hS 6 rfl (by omega) rfl d_X_putTogether_142 (fun H locs hP hD hS => ?_)
          have hP9 := hP.sub (ws' := [(x, .inr (4, [.ref qs, .ref qr, .ref qw, .ref qg, .ref qu, .ref qp, sp, .int (iI lv)])), (qs, .inr (2, [.ref ql, .ref qh])), (ql, eL t.2.1 2000 Lo), (qh, eL t.2.1 2000 Hi), (qp, .inr (0, [.ref qt, .ref qn, .int (iI z)])), (qt, eI t.1 400 T), (qn, eI t.1 4800 F), (qu, eI t.1 400 (uZ (uZ U y 1) (flbZ T F z y) 1)), (nx, .inr (0, [.ref nt, .ref nn, .int (iI (zn + 1))])), (nt, eI t.1 400 u2T), (nn, eI t.1 4800 u2N)]) [0, 1, 2, 3, 4, 5, 10, 6, 7, 8, 9] rfl
          have hD9 := hD.sub (ws' := [(x, .inr (4, [.ref qs, .ref qr, .ref qw, .ref qg, .ref qu, .ref qp, sp, .int (iI lv)])), (qs, .inr (2, [.ref ql, .ref qh])), (ql, eL t.2.1 2000 Lo), (qh, eL t.2.1 2000 Hi), (qp, .inr (0, [.ref qt, .ref qn, .int (iI z)])), (qt, eI t.1 400 T), (qn, eI t.1 4800 F), (qu, eI t.1 400 (uZ (uZ U y 1) (flbZ T F z y) 1)), (nx, .inr (0, [.ref nt, .ref nn, .int (iI (zn + 1))])), (nt, eI t.1 400 u2T), (nn, eI t.1 4800 u2N)]) [0, 1, 2, 3, 4, 5, 10, 6, 7, 8, 9] (by decide) rfl
          exact ret (zn + 1, u2T, u2N, (uZ (uZ U y 1) (flbZ T F z y) 1)) _ _ 143 _ d_X_putTogether_143 ⟨by unfold ptN; rw [if_neg (by omega), if_pos (by omega), eu2T, eu2N], hu2T, hu2N, bF_uZ (bF_uZ hU (by decide)) (by decide)⟩ hP9 hD9 hS
      · have hP9 := hP.sub (ws' := [(x, .inr (4, [.ref qs, .ref qr, .ref qw, .ref qg, .ref qu, .ref qp, sp, .int (iI lv)])), (qs, .inr (2, [.ref ql, .ref qh])), (ql, eL t.2.1 2000 Lo), (qh, eL t.2.1 2000 Hi), (qp, .inr (0, [.ref qt, .ref qn, .int (iI z)])), (qt, eI t.1 400 T), (qn, eI t.1 4800 F), (qu, eI t.1 400 U), (nx, .inr (0, [.ref nt, .ref nn, .int (iI zn)])), (nt, eI t.1 400 Tn), (nn, eI t.1 4800 Fn)]) [0, 1, 2, 3, 4, 5, 6, 7, 8, 9, 10] rfl
        have hD9 := hD.sub (ws' := [(x, .inr (4, [.ref qs, .ref qr, .ref qw, .ref qg, .ref qu, .ref qp, sp, .int (iI lv)])), (qs, .inr (2, [.ref ql, .ref qh])), (ql, eL t.2.1 2000 Lo), (qh, eL t.2.1 2000 Hi), (qp, .inr (0, [.ref qt, .ref qn, .int (iI z)])), (qt, eI t.1 400 T), (qn, eI t.1 4800 F), (qu, eI t.1 400 U), (nx, .inr (0, [.ref nt, .ref nn, .int (iI zn)])), (nt, eI t.1 400 Tn), (nn, eI t.1 4800 Fn)]) [0, 1, 2, 3, 4, 5, 6, 7, 8, 9, 10] (by decide) rfl
        exact ret (zn, Tn, Fn, U) _ _ 33 _ d_X_putTogether_33 ⟨by unfold ptN; rw [if_pos (by omega)], hTn, hFn, hU⟩ hP9 hD9 hS
