theorem ye_X_layOutSun : ye y_X_layOutSun R_X 0 := by unfold ye; decide +kernel
abbrev rm_X_layOutSun : Room := { frames := 3, cells := 0, slots := 0, locals := 77 }
set_option maxHeartbeats 4000000 in
set_option maxRecDepth 100000 in
theorem c_X_layOutSun (l : Launch) (D : va_G) (t : vt) (ts : Nat → Nat) (x qs qr qw qg qu qp qt qn : Nat) (sp : Value) (lv : Int) (T F : Int → Int) (hT : bT T) (hF : bF F) (sz : Nat) : Met l y_X_layOutSun (.code y_X_layOutSun b_X_layOutSun 4 none :: tb_ws) rm_X_layOutSun (MP D t ts [.ref x] [(x, .inr (4, [.ref qs, .ref qr, .ref qw, .ref qg, .ref qu, .ref qp, sp, .int (iI lv)])), (qp, .inr (0, [.ref qt, .ref qn, .int (iI 0)])), (qt, eI t.1 400 T), (qn, eI t.1 4800 F)] sz) (va_Qv (fun u : Int × (Int → Int) × (Int → Int) => u.1 = 10 ∧ u.2.1 = sunT T ∧ u.2.2 = sunF F ∧ bT u.2.1 ∧ bF u.2.2) (MB D (va_A [(x, .inr (4, [.ref qs, .ref qr, .ref qw, .ref qg, .ref qu, .ref qp, sp, .int (iI lv)])), (qp, .inr (0, [.ref qt, .ref qn, .int (iI 0)])), (qt, eI t.1 400 T), (qn, eI t.1 4800 F)] sz) (fun u : Int × (Int → Int) × (Int → Int) => [(x, .inr (4, [.ref qs, .ref qr, .ref qw, .ref qg, .ref qu, .ref qp, sp, .int (iI lv)])), (qp, .inr (0, [.ref qt, .ref qn, .int (iI u.1)])), (qt, eI t.1 400 u.2.1), (qn, eI t.1 4800 u.2.2)])) (va_A [(x, .inr (4, [.ref qs, .ref qr, .ref qw, .ref qg, .ref qu, .ref qp, sp, .int (iI lv)])), (qp, .inr (0, [.ref qt, .ref qn, .int (iI 0)])), (qt, eI t.1 400 T), (qn, eI t.1 4800 F)] sz)) 0 0 (va_A [(x, .inr (4, [.ref qs, .ref qr, .ref qw, .ref qg, .ref qu, .ref qp, sp, .int (iI lv)])), (qp, .inr (0, [.ref qt, .ref qn, .int (iI 0)])), (qt, eI t.1 400 T), (qn, eI t.1 4800 F)] sz) := by
  refine m_v (by decide +kernel) (Nat.le_of_ble_eq_true rfl) ?_
  intro zp ze zs zm zb zt zc zQ A ls hC hA hP hK hD hE hS hl ret
  have hl : lv_has ls 4 [(0, .ref x)] := hl
  refine z_iconst hC d_X_layOutSun_0 ?_
  refine lv_istore_n (lv' := [(1, .int (iI 0)), (0, .ref x)]) hC.1 hC.2.1 d_X_layOutSun_1 rfl hl (by decide) rfl (fun ls hl => ?_)
  refine lv_iload_n hC.1 hC.2.1 d_X_layOutSun_2 rfl (lv_at hl 0 rfl) ?_
  refine z_bipush hC d_X_layOutSun_3 (by decide) ?_
  refine z_icmp_ge (tgt := 66) hC d_X_layOutSun_5 (by decide) (by decide) (by decide) (fun h => absurd h (by decide)) (fun _ => ?_)
  refine lv_iload_n hC.1 hC.2.1 d_X_layOutSun_8 rfl (lv_at hl 0 rfl) ?_
  refine z_iconst hC d_X_layOutSun_9 ?_
  refine z_imul hC d_X_layOutSun_10 ?_
  refine z_topi (z := 0) (by omega) ?_
  refine lv_istore_n (lv' := [(2, .int (iI 0)), (1, .int (iI 0)), (0, .ref x)]) hC.1 hC.2.1 d_X_layOutSun_11 rfl hl (by decide) rfl (fun ls hl => ?_)
  refine lv_iload_n hC.1 hC.2.1 d_X_layOutSun_12 rfl (lv_at hl 1 rfl) ?_
  refine z_iconst hC d_X_layOutSun_13 ?_
  refine z_iadd hC d_X_layOutSun_14 ?_
  refine z_topi (z := 1) (by omega) ?_
  refine z_bipush hC d_X_layOutSun_15 (by decide) ?_
  refine z_irem hC d_X_layOutSun_17 (by omega) (by omega) ?_
  refine z_topi (z := 1) (by decide) ?_
  refine z_iconst hC d_X_layOutSun_18 ?_
  refine z_imul hC d_X_layOutSun_19 ?_
  refine z_topi (z := 4) (by omega) ?_
  refine lv_istore_n (lv' := [(3, .int (iI 4)), (2, .int (iI 0)), (1, .int (iI 0)), (0, .ref x)]) hC.1 hC.2.1 d_X_layOutSun_20 rfl hl (by decide) rfl (fun ls hl => ?_)
  refine lv_iload_n hC.1 hC.2.1 d_X_layOutSun_21 rfl (lv_at hl 2 rfl) ?_
  refine z_iconst hC d_X_layOutSun_22 ?_
  refine z_irem hC d_X_layOutSun_23 (by omega) (by omega) ?_
  refine z_topi (z := 0) (by decide) ?_
  refine z_if_ne (tgt := 45) hC d_X_layOutSun_24 (by decide) (by decide) (fun h => absurd h (by decide)) (fun _ => ?_)
  refine lv_aload_n hC.1 hC.2.1 d_X_layOutSun_27 rfl (lv_at hl 3 rfl) ?_
  refine z_get (ci := 4) (C := R_X) (T := F_X) (N := 8) (v := .ref qp) hC in_X hK hP 0 rfl rfl 5 (by decide) k_103 rfl d_X_layOutSun_28 ?_
  refine z_iconst hC d_X_layOutSun_31 ?_
  refine z_gets hC hE.2.1 hS k_131 d_X_layOutSun_32 ?_
  refine z_bipush hC d_X_layOutSun_35 (by decide) ?_
  refine lv_iload_n hC.1 hC.2.1 d_X_layOutSun_37 rfl (lv_at hl 1 rfl) ?_
  refine lv_iload_n hC.1 hC.2.1 d_X_layOutSun_38 rfl (lv_at hl 0 rfl) ?_
  refine z_mVv (As := [.int (iI 0), .ref (ts 0), .int (iI 40), .int (iI 0), .int (iI 4)]) (rest := []) (wr := [(x, .inr (4, [.ref qs, .ref qr, .ref qw, .ref qg, .ref qu, .ref qp, sp, .int (iI lv)]))]) hC (c_Ha_appendU l D t ts qp qt qn 0 T F 0 40 0 4 (by omega) (by omega) (by omega) (by omega) (by decide) hT hF 1 (by omega) _) (cw_V hC k_133 k_134 k_135 k_5 k_136 ye_Ha_append (by decide)) hP hD hK hE hS hA [1, 2, 3] [0] (by decide) rfl rfl (by decide) (by decide) 1 (ci := 0) rfl rfl rfl rfl hl.1 rfl (Nat.le_of_ble_eq_true rfl) ⟨Nat.le_of_ble_eq_true rfl, Nat.le_of_ble_eq_true rfl⟩ d_X_layOutSun_39 (fun u1 H locs eu1 hP hD hS => ?_)
  obtain ⟨u1T, u1N⟩ := u1
  obtain ⟨eu1T, eu1N⟩ := eu1
  dsimp only at eu1T eu1N hP hD
  have hu1T : bT u1T := by rw [eu1T]; exact bT_uZ hT (by decide)
  have hu1N : bF u1N := by rw [eu1N]; exact bF_wrN hF bF_UNITS
  have hP : va_P D classes [(x, .inr (4, [.ref qs, .ref qr, .ref qw, .ref qg, .ref qu, .ref qp, sp, .int (iI lv)])), (qp, .inr (0, [.ref qt, .ref qn, .int (iI 1)])), (qt, eI t.1 400 u1T), (qn, eI t.1 4800 u1N)] H := hP
  have hD : va_D A [(x, .inr (4, [.ref qs, .ref qr, .ref qw, .ref qg, .ref qu, .ref qp, sp, .int (iI lv)])), (qp, .inr (0, [.ref qt, .ref qn, .int (iI 1)])), (qt, eI t.1 400 u1T), (qn, eI t.1 4800 u1N)] := hD
  refine z_goto (tgt := 60) hC d_X_layOutSun_42 (by decide) ?_
  refine lv_iinc (v := iI 1) (lv' := [(1, .int (iI 1)), (3, .int (iI 4)), (2, .int (iI 0)), (0, .ref x)]) hC.1 hC.2.1 d_X_layOutSun_60 hl (k := 2) rfl (z_inc (by omega)) (by decide) rfl (fun ls hl => ?_)
  refine z_goto (tgt := 2) hC d_X_layOutSun_63 (by decide) ?_
  refine lv_iload_n hC.1 hC.2.1 d_X_layOutSun_2 rfl (lv_at hl 0 rfl) ?_
  refine z_bipush hC d_X_layOutSun_3 (by decide) ?_
  refine z_icmp_ge (tgt := 66) hC d_X_layOutSun_5 (by decide) (by decide) (by decide) (fun h => absurd h (by decide)) (fun _ => ?_)
  refine lv_iload_n hC.1 hC.2.1 d_X_layOutSun_8 rfl (lv_at hl 0 rfl) ?_
  refine z_iconst hC d_X_layOutSun_9 ?_
  refine z_imul hC d_X_layOutSun_10 ?_
  refine z_topi (z := 4) (by omega) ?_
  refine lv_istore_n (lv' := [(2, .int (iI 4)), (1, .int (iI 1)), (3, .int (iI 4)), (0, .ref x)]) hC.1 hC.2.1 d_X_layOutSun_11 rfl hl (by decide) rfl (fun ls hl => ?_)
  refine lv_iload_n hC.1 hC.2.1 d_X_layOutSun_12 rfl (lv_at hl 1 rfl) ?_
  refine z_iconst hC d_X_layOutSun_13 ?_
  refine z_iadd hC d_X_layOutSun_14 ?_
  refine z_topi (z := 2) (by omega) ?_
  refine z_bipush hC d_X_layOutSun_15 (by decide) ?_
  refine z_irem hC d_X_layOutSun_17 (by omega) (by omega) ?_
  refine z_topi (z := 2) (by decide) ?_
  refine z_iconst hC d_X_layOutSun_18 ?_
  refine z_imul hC d_X_layOutSun_19 ?_
  refine z_topi (z := 8) (by omega) ?_
  refine lv_istore_n (lv' := [(3, .int (iI 8)), (2, .int (iI 4)), (1, .int (iI 1)), (0, .ref x)]) hC.1 hC.2.1 d_X_layOutSun_20 rfl hl (by decide) rfl (fun ls hl => ?_)
  refine lv_iload_n hC.1 hC.2.1 d_X_layOutSun_21 rfl (lv_at hl 2 rfl) ?_
  refine z_iconst hC d_X_layOutSun_22 ?_
  refine z_irem hC d_X_layOutSun_23 (by omega) (by omega) ?_
  refine z_topi (z := 1) (by decide) ?_
  refine z_if_ne (tgt := 45) hC d_X_layOutSun_24 (by decide) (by decide) (fun _ => ?_) (fun h => absurd h (by decide))
  refine lv_aload_n hC.1 hC.2.1 d_X_layOutSun_45 rfl (lv_at hl 3 rfl) ?_
  refine z_get (ci := 4) (C := R_X) (T := F_X) (N := 8) (v := .ref qp) hC in_X hK hP 0 rfl rfl 5 (by decide) k_103 rfl d_X_layOutSun_46 ?_
  refine z_iconst hC d_X_layOutSun_49 ?_
  refine z_gets hC hE.2.1 hS k_131 d_X_layOutSun_50 ?_
  refine z_bipush hC d_X_layOutSun_53 (by decide) ?_
  refine lv_iload_n hC.1 hC.2.1 d_X_layOutSun_55 rfl (lv_at hl 0 rfl) ?_
  refine lv_iload_n hC.1 hC.2.1 d_X_layOutSun_56 rfl (lv_at hl 1 rfl) ?_
  refine z_mVv (As := [.int (iI 0), .ref (ts 0), .int (iI 40), .int (iI 8), .int (iI 4)]) (rest := []) (wr := [(x, .inr (4, [.ref qs, .ref qr, .ref qw, .ref qg, .ref qu, .ref qp, sp, .int (iI lv)]))]) hC (c_Ha_appendU l D t ts qp qt qn 1 u1T u1N 0 40 8 4 (by omega) (by omega) (by omega) (by omega) (by decide) hu1T hu1N 2 (by omega) _) (cw_V hC k_133 k_134 k_135 k_5 k_136 ye_Ha_append (by decide)) hP hD hK hE hS hA [1, 2, 3] [0] (by decide) rfl rfl (by decide) (by decide) 1 (ci := 0) rfl rfl rfl rfl hl.1 rfl (Nat.le_of_ble_eq_true rfl) ⟨Nat.le_of_ble_eq_true rfl, Nat.le_of_ble_eq_true rfl⟩ d_X_layOutSun_57 (fun u2 H locs eu2 hP hD hS => ?_)
  obtain ⟨u2T, u2N⟩ := u2
  obtain ⟨eu2T, eu2N⟩ := eu2
  dsimp only at eu2T eu2N hP hD
  have hu2T : bT u2T := by rw [eu2T]; exact bT_uZ hu1T (by decide)
  have hu2N : bF u2N := by rw [eu2N]; exact bF_wrN hu1N bF_UNITS
  have hP : va_P D classes [(x, .inr (4, [.ref qs, .ref qr, .ref qw, .ref qg, .ref qu, .ref qp, sp, .int (iI lv)])), (qp, .inr (0, [.ref qt, .ref qn, .int (iI 2)])), (qt, eI t.1 400 u2T), (qn, eI t.1 4800 u2N)] H := hP
  have hD : va_D A [(x, .inr (4, [.ref qs, .ref qr, .ref qw, .ref qg, .ref qu, .ref qp, sp, .int (iI lv)])), (qp, .inr (0, [.ref qt, .ref qn, .int (iI 2)])), (qt, eI t.1 400 u2T), (qn, eI t.1 4800 u2N)] := hD
  refine lv_iinc (v := iI 2) (lv' := [(1, .int (iI 2)), (3, .int (iI 8)), (2, .int (iI 4)), (0, .ref x)]) hC.1 hC.2.1 d_X_layOutSun_60 hl (k := 2) rfl (z_inc (by omega)) (by decide) rfl (fun ls hl => ?_)
  refine z_goto (tgt := 2) hC d_X_layOutSun_63 (by decide) ?_
  refine lv_iload_n hC.1 hC.2.1 d_X_layOutSun_2 rfl (lv_at hl 0 rfl) ?_
  refine z_bipush hC d_X_layOutSun_3 (by decide) ?_
  refine z_icmp_ge (tgt := 66) hC d_X_layOutSun_5 (by decide) (by decide) (by decide) (fun h => absurd h (by decide)) (fun _ => ?_)
  refine lv_iload_n hC.1 hC.2.1 d_X_layOutSun_8 rfl (lv_at hl 0 rfl) ?_
  refine z_iconst hC d_X_layOutSun_9 ?_
  refine z_imul hC d_X_layOutSun_10 ?_
  refine z_topi (z := 8) (by omega) ?_
  refine lv_istore_n (lv' := [(2, .int (iI 8)), (1, .int (iI 2)), (3, .int (iI 8)), (0, .ref x)]) hC.1 hC.2.1 d_X_layOutSun_11 rfl hl (by decide) rfl (fun ls hl => ?_)
  refine lv_iload_n hC.1 hC.2.1 d_X_layOutSun_12 rfl (lv_at hl 1 rfl) ?_
  refine z_iconst hC d_X_layOutSun_13 ?_
  refine z_iadd hC d_X_layOutSun_14 ?_
  refine z_topi (z := 3) (by omega) ?_
  refine z_bipush hC d_X_layOutSun_15 (by decide) ?_
  refine z_irem hC d_X_layOutSun_17 (by omega) (by omega) ?_
  refine z_topi (z := 3) (by decide) ?_
  refine z_iconst hC d_X_layOutSun_18 ?_
  refine z_imul hC d_X_layOutSun_19 ?_
  refine z_topi (z := 12) (by omega) ?_
  refine lv_istore_n (lv' := [(3, .int (iI 12)), (2, .int (iI 8)), (1, .int (iI 2)), (0, .ref x)]) hC.1 hC.2.1 d_X_layOutSun_20 rfl hl (by decide) rfl (fun ls hl => ?_)
  refine lv_iload_n hC.1 hC.2.1 d_X_layOutSun_21 rfl (lv_at hl 2 rfl) ?_
  refine z_iconst hC d_X_layOutSun_22 ?_
  refine z_irem hC d_X_layOutSun_23 (by omega) (by omega) ?_
  refine z_topi (z := 0) (by decide) ?_
  refine z_if_ne (tgt := 45) hC d_X_layOutSun_24 (by decide) (by decide) (fun h => absurd h (by decide)) (fun _ => ?_)
  refine lv_aload_n hC.1 hC.2.1 d_X_layOutSun_27 rfl (lv_at hl 3 rfl) ?_
  refine z_get (ci := 4) (C := R_X) (T := F_X) (N := 8) (v := .ref qp) hC in_X hK hP 0 rfl rfl 5 (by decide) k_103 rfl d_X_layOutSun_28 ?_
  refine z_iconst hC d_X_layOutSun_31 ?_
  refine z_gets hC hE.2.1 hS k_131 d_X_layOutSun_32 ?_
  refine z_bipush hC d_X_layOutSun_35 (by decide) ?_
  refine lv_iload_n hC.1 hC.2.1 d_X_layOutSun_37 rfl (lv_at hl 1 rfl) ?_
  refine lv_iload_n hC.1 hC.2.1 d_X_layOutSun_38 rfl (lv_at hl 0 rfl) ?_
  refine z_mVv (As := [.int (iI 0), .ref (ts 0), .int (iI 40), .int (iI 8), .int (iI 12)]) (rest := []) (wr := [(x, .inr (4, [.ref qs, .ref qr, .ref qw, .ref qg, .ref qu, .ref qp, sp, .int (iI lv)]))]) hC (c_Ha_appendU l D t ts qp qt qn 2 u2T u2N 0 40 8 12 (by omega) (by omega) (by omega) (by omega) (by decide) hu2T hu2N 3 (by omega) _) (cw_V hC k_133 k_134 k_135 k_5 k_136 ye_Ha_append (by decide)) hP hD hK hE hS hA [1, 2, 3] [0] (by decide) rfl rfl (by decide) (by decide) 1 (ci := 0) rfl rfl rfl rfl hl.1 rfl (Nat.le_of_ble_eq_true rfl) ⟨Nat.le_of_ble_eq_true rfl, Nat.le_of_ble_eq_true rfl⟩ d_X_layOutSun_39 (fun u3 H locs eu3 hP hD hS => ?_)
  obtain ⟨u3T, u3N⟩ := u3
  obtain ⟨eu3T, eu3N⟩ := eu3
  dsimp only at eu3T eu3N hP hD
  have hu3T : bT u3T := by rw [eu3T]; exact bT_uZ hu2T (by decide)
  have hu3N : bF u3N := by rw [eu3N]; exact bF_wrN hu2N bF_UNITS
  have hP : va_P D classes [(x, .inr (4, [.ref qs, .ref qr, .ref qw, .ref qg, .ref qu, .ref qp, sp, .int (iI lv)])), (qp, .inr (0, [.ref qt, .ref qn, .int (iI 3)])), (qt, eI t.1 400 u3T), (qn, eI t.1 4800 u3N)] H := hP
  have hD : va_D A [(x, .inr (4, [.ref qs, .ref qr, .ref qw, .ref qg, .ref qu, .ref qp, sp, .int (iI lv)])), (qp, .inr (0, [.ref qt, .ref qn, .int (iI 3)])), (qt, eI t.1 400 u3T), (qn, eI t.1 4800 u3N)] := hD
  refine z_goto (tgt := 60) hC d_X_layOutSun_42 (by decide) ?_
  refine lv_iinc (v := iI 3) (lv' := [(1, .int (iI 3)), (3, .int (iI 12)), (2, .int (iI 8)), (0, .ref x)]) hC.1 hC.2.1 d_X_layOutSun_60 hl (k := 2) rfl (z_inc (by omega)) (by decide) rfl (fun ls hl => ?_)
  refine z_goto (tgt := 2) hC d_X_layOutSun_63 (by decide) ?_
  refine lv_iload_n hC.1 hC.2.1 d_X_layOutSun_2 rfl (lv_at hl 0 rfl) ?_
  refine z_bipush hC d_X_layOutSun_3 (by decide) ?_
  refine z_icmp_ge (tgt := 66) hC d_X_layOutSun_5 (by decide) (by decide) (by decide) (fun h => absurd h (by decide)) (fun _ => ?_)
  refine lv_iload_n hC.1 hC.2.1 d_X_layOutSun_8 rfl (lv_at hl 0 rfl) ?_
  refine z_iconst hC d_X_layOutSun_9 ?_
  refine z_imul hC d_X_layOutSun_10 ?_
  refine z_topi (z := 12) (by omega) ?_
  refine lv_istore_n (lv' := [(2, .int (iI 12)), (1, .int (iI 3)), (3, .int (iI 12)), (0, .ref x)]) hC.1 hC.2.1 d_X_layOutSun_11 rfl hl (by decide) rfl (fun ls hl => ?_)
  refine lv_iload_n hC.1 hC.2.1 d_X_layOutSun_12 rfl (lv_at hl 1 rfl) ?_
  refine z_iconst hC d_X_layOutSun_13 ?_
  refine z_iadd hC d_X_layOutSun_14 ?_
  refine z_topi (z := 4) (by omega) ?_
  refine z_bipush hC d_X_layOutSun_15 (by decide) ?_
  refine z_irem hC d_X_layOutSun_17 (by omega) (by omega) ?_
  refine z_topi (z := 4) (by decide) ?_
  refine z_iconst hC d_X_layOutSun_18 ?_
  refine z_imul hC d_X_layOutSun_19 ?_
  refine z_topi (z := 16) (by omega) ?_
  refine lv_istore_n (lv' := [(3, .int (iI 16)), (2, .int (iI 12)), (1, .int (iI 3)), (0, .ref x)]) hC.1 hC.2.1 d_X_layOutSun_20 rfl hl (by decide) rfl (fun ls hl => ?_)
  refine lv_iload_n hC.1 hC.2.1 d_X_layOutSun_21 rfl (lv_at hl 2 rfl) ?_
  refine z_iconst hC d_X_layOutSun_22 ?_
  refine z_irem hC d_X_layOutSun_23 (by omega) (by omega) ?_
  refine z_topi (z := 1) (by decide) ?_
  refine z_if_ne (tgt := 45) hC d_X_layOutSun_24 (by decide) (by decide) (fun _ => ?_) (fun h => absurd h (by decide))
  refine lv_aload_n hC.1 hC.2.1 d_X_layOutSun_45 rfl (lv_at hl 3 rfl) ?_
  refine z_get (ci := 4) (C := R_X) (T := F_X) (N := 8) (v := .ref qp) hC in_X hK hP 0 rfl rfl 5 (by decide) k_103 rfl d_X_layOutSun_46 ?_
  refine z_iconst hC d_X_layOutSun_49 ?_
  refine z_gets hC hE.2.1 hS k_131 d_X_layOutSun_50 ?_
  refine z_bipush hC d_X_layOutSun_53 (by decide) ?_
  refine lv_iload_n hC.1 hC.2.1 d_X_layOutSun_55 rfl (lv_at hl 0 rfl) ?_
  refine lv_iload_n hC.1 hC.2.1 d_X_layOutSun_56 rfl (lv_at hl 1 rfl) ?_
  refine z_mVv (As := [.int (iI 0), .ref (ts 0), .int (iI 40), .int (iI 16), .int (iI 12)]) (rest := []) (wr := [(x, .inr (4, [.ref qs, .ref qr, .ref qw, .ref qg, .ref qu, .ref qp, sp, .int (iI lv)]))]) hC (c_Ha_appendU l D t ts qp qt qn 3 u3T u3N 0 40 16 12 (by omega) (by omega) (by omega) (by omega) (by decide) hu3T hu3N 4 (by omega) _) (cw_V hC k_133 k_134 k_135 k_5 k_136 ye_Ha_append (by decide)) hP hD hK hE hS hA [1, 2, 3] [0] (by decide) rfl rfl (by decide) (by decide) 1 (ci := 0) rfl rfl rfl rfl hl.1 rfl (Nat.le_of_ble_eq_true rfl) ⟨Nat.le_of_ble_eq_true rfl, Nat.le_of_ble_eq_true rfl⟩ d_X_layOutSun_57 (fun u4 H locs eu4 hP hD hS => ?_)
  obtain ⟨u4T, u4N⟩ := u4
  obtain ⟨eu4T, eu4N⟩ := eu4
  dsimp only at eu4T eu4N hP hD
  have hu4T : bT u4T := by rw [eu4T]; exact bT_uZ hu3T (by decide)
  have hu4N : bF u4N := by rw [eu4N]; exact bF_wrN hu3N bF_UNITS
  have hP : va_P D classes [(x, .inr (4, [.ref qs, .ref qr, .ref qw, .ref qg, .ref qu, .ref qp, sp, .int (iI lv)])), (qp, .inr (0, [.ref qt, .ref qn, .int (iI 4)])), (qt, eI t.1 400 u4T), (qn, eI t.1 4800 u4N)] H := hP
  have hD : va_D A [(x, .inr (4, [.ref qs, .ref qr, .ref qw, .ref qg, .ref qu, .ref qp, sp, .int (iI lv)])), (qp, .inr (0, [.ref qt, .ref qn, .int (iI 4)])), (qt, eI t.1 400 u4T), (qn, eI t.1 4800 u4N)] := hD
  refine lv_iinc (v := iI 4) (lv' := [(1, .int (iI 4)), (3, .int (iI 16)), (2, .int (iI 12)), (0, .ref x)]) hC.1 hC.2.1 d_X_layOutSun_60 hl (k := 2) rfl (z_inc (by omega)) (by decide) rfl (fun ls hl => ?_)
  refine z_goto (tgt := 2) hC d_X_layOutSun_63 (by decide) ?_
  refine lv_iload_n hC.1 hC.2.1 d_X_layOutSun_2 rfl (lv_at hl 0 rfl) ?_
  refine z_bipush hC d_X_layOutSun_3 (by decide) ?_
  refine z_icmp_ge (tgt := 66) hC d_X_layOutSun_5 (by decide) (by decide) (by decide) (fun h => absurd h (by decide)) (fun _ => ?_)
  refine lv_iload_n hC.1 hC.2.1 d_X_layOutSun_8 rfl (lv_at hl 0 rfl) ?_
  refine z_iconst hC d_X_layOutSun_9 ?_
  refine z_imul hC d_X_layOutSun_10 ?_
  refine z_topi (z := 16) (by omega) ?_
  refine lv_istore_n (lv' := [(2, .int (iI 16)), (1, .int (iI 4)), (3, .int (iI 16)), (0, .ref x)]) hC.1 hC.2.1 d_X_layOutSun_11 rfl hl (by decide) rfl (fun ls hl => ?_)
  refine lv_iload_n hC.1 hC.2.1 d_X_layOutSun_12 rfl (lv_at hl 1 rfl) ?_
  refine z_iconst hC d_X_layOutSun_13 ?_
  refine z_iadd hC d_X_layOutSun_14 ?_
  refine z_topi (z := 5) (by omega) ?_
  refine z_bipush hC d_X_layOutSun_15 (by decide) ?_
  refine z_irem hC d_X_layOutSun_17 (by omega) (by omega) ?_
  refine z_topi (z := 5) (by decide) ?_
  refine z_iconst hC d_X_layOutSun_18 ?_
  refine z_imul hC d_X_layOutSun_19 ?_
  refine z_topi (z := 20) (by omega) ?_
  refine lv_istore_n (lv' := [(3, .int (iI 20)), (2, .int (iI 16)), (1, .int (iI 4)), (0, .ref x)]) hC.1 hC.2.1 d_X_layOutSun_20 rfl hl (by decide) rfl (fun ls hl => ?_)
  refine lv_iload_n hC.1 hC.2.1 d_X_layOutSun_21 rfl (lv_at hl 2 rfl) ?_
  refine z_iconst hC d_X_layOutSun_22 ?_
  refine z_irem hC d_X_layOutSun_23 (by omega) (by omega) ?_
  refine z_topi (z := 0) (by decide) ?_
  refine z_if_ne (tgt := 45) hC d_X_layOutSun_24 (by decide) (by decide) (fun h => absurd h (by decide)) (fun _ => ?_)
  refine lv_aload_n hC.1 hC.2.1 d_X_layOutSun_27 rfl (lv_at hl 3 rfl) ?_
  refine z_get (ci := 4) (C := R_X) (T := F_X) (N := 8) (v := .ref qp) hC in_X hK hP 0 rfl rfl 5 (by decide) k_103 rfl d_X_layOutSun_28 ?_
  refine z_iconst hC d_X_layOutSun_31 ?_
  refine z_gets hC hE.2.1 hS k_131 d_X_layOutSun_32 ?_
  refine z_bipush hC d_X_layOutSun_35 (by decide) ?_
  refine lv_iload_n hC.1 hC.2.1 d_X_layOutSun_37 rfl (lv_at hl 1 rfl) ?_
  refine lv_iload_n hC.1 hC.2.1 d_X_layOutSun_38 rfl (lv_at hl 0 rfl) ?_
  refine z_mVv (As := [.int (iI 0), .ref (ts 0), .int (iI 40), .int (iI 16), .int (iI 20)]) (rest := []) (wr := [(x, .inr (4, [.ref qs, .ref qr, .ref qw, .ref qg, .ref qu, .ref qp, sp, .int (iI lv)]))]) hC (c_Ha_appendU l D t ts qp qt qn 4 u4T u4N 0 40 16 20 (by omega) (by omega) (by omega) (by omega) (by decide) hu4T hu4N 5 (by omega) _) (cw_V hC k_133 k_134 k_135 k_5 k_136 ye_Ha_append (by decide)) hP hD hK hE hS hA [1, 2, 3] [0] (by decide) rfl rfl (by decide) (by decide) 1 (ci := 0) rfl rfl rfl rfl hl.1 rfl (Nat.le_of_ble_eq_true rfl) ⟨Nat.le_of_ble_eq_true rfl, Nat.le_of_ble_eq_true rfl⟩ d_X_layOutSun_39 (fun u5 H locs eu5 hP hD hS => ?_)
  obtain ⟨u5T, u5N⟩ := u5
  obtain ⟨eu5T, eu5N⟩ := eu5
  dsimp only at eu5T eu5N hP hD
  have hu5T : bT u5T := by rw [eu5T]; exact bT_uZ hu4T (by decide)
  have hu5N : bF u5N := by rw [eu5N]; exact bF_wrN hu4N bF_UNITS
  have hP : va_P D classes [(x, .inr (4, [.ref qs, .ref qr, .ref qw, .ref qg, .ref qu, .ref qp, sp, .int (iI lv)])), (qp, .inr (0, [.ref qt, .ref qn, .int (iI 5)])), (qt, eI t.1 400 u5T), (qn, eI t.1 4800 u5N)] H := hP
  have hD : va_D A [(x, .inr (4, [.ref qs, .ref qr, .ref qw, .ref qg, .ref qu, .ref qp, sp, .int (iI lv)])), (qp, .inr (0, [.ref qt, .ref qn, .int (iI 5)])), (qt, eI t.1 400 u5T), (qn, eI t.1 4800 u5N)] := hD
  refine z_goto (tgt := 60) hC d_X_layOutSun_42 (by decide) ?_
  refine lv_iinc (v := iI 5) (lv' := [(1, .int (iI 5)), (3, .int (iI 20)), (2, .int (iI 16)), (0, .ref x)]) hC.1 hC.2.1 d_X_layOutSun_60 hl (k := 2) rfl (z_inc (by omega)) (by decide) rfl (fun ls hl => ?_)
  refine z_goto (tgt := 2) hC d_X_layOutSun_63 (by decide) ?_
  refine lv_iload_n hC.1 hC.2.1 d_X_layOutSun_2 rfl (lv_at hl 0 rfl) ?_
  refine z_bipush hC d_X_layOutSun_3 (by decide) ?_
  refine z_icmp_ge (tgt := 66) hC d_X_layOutSun_5 (by decide) (by decide) (by decide) (fun h => absurd h (by decide)) (fun _ => ?_)
  refine lv_iload_n hC.1 hC.2.1 d_X_layOutSun_8 rfl (lv_at hl 0 rfl) ?_
  refine z_iconst hC d_X_layOutSun_9 ?_
  refine z_imul hC d_X_layOutSun_10 ?_
  refine z_topi (z := 20) (by omega) ?_
  refine lv_istore_n (lv' := [(2, .int (iI 20)), (1, .int (iI 5)), (3, .int (iI 20)), (0, .ref x)]) hC.1 hC.2.1 d_X_layOutSun_11 rfl hl (by decide) rfl (fun ls hl => ?_)
  refine lv_iload_n hC.1 hC.2.1 d_X_layOutSun_12 rfl (lv_at hl 1 rfl) ?_
  refine z_iconst hC d_X_layOutSun_13 ?_
  refine z_iadd hC d_X_layOutSun_14 ?_
  refine z_topi (z := 6) (by omega) ?_
  refine z_bipush hC d_X_layOutSun_15 (by decide) ?_
  refine z_irem hC d_X_layOutSun_17 (by omega) (by omega) ?_
  refine z_topi (z := 6) (by decide) ?_
  refine z_iconst hC d_X_layOutSun_18 ?_
  refine z_imul hC d_X_layOutSun_19 ?_
  refine z_topi (z := 24) (by omega) ?_
  refine lv_istore_n (lv' := [(3, .int (iI 24)), (2, .int (iI 20)), (1, .int (iI 5)), (0, .ref x)]) hC.1 hC.2.1 d_X_layOutSun_20 rfl hl (by decide) rfl (fun ls hl => ?_)
  refine lv_iload_n hC.1 hC.2.1 d_X_layOutSun_21 rfl (lv_at hl 2 rfl) ?_
  refine z_iconst hC d_X_layOutSun_22 ?_
  refine z_irem hC d_X_layOutSun_23 (by omega) (by omega) ?_
  refine z_topi (z := 1) (by decide) ?_
  refine z_if_ne (tgt := 45) hC d_X_layOutSun_24 (by decide) (by decide) (fun _ => ?_) (fun h => absurd h (by decide))
  refine lv_aload_n hC.1 hC.2.1 d_X_layOutSun_45 rfl (lv_at hl 3 rfl) ?_
  refine z_get (ci := 4) (C := R_X) (T := F_X) (N := 8) (v := .ref qp) hC in_X hK hP 0 rfl rfl 5 (by decide) k_103 rfl d_X_layOutSun_46 ?_
  refine z_iconst hC d_X_layOutSun_49 ?_
  refine z_gets hC hE.2.1 hS k_131 d_X_layOutSun_50 ?_
  refine z_bipush hC d_X_layOutSun_53 (by decide) ?_
  refine lv_iload_n hC.1 hC.2.1 d_X_layOutSun_55 rfl (lv_at hl 0 rfl) ?_
  refine lv_iload_n hC.1 hC.2.1 d_X_layOutSun_56 rfl (lv_at hl 1 rfl) ?_
  refine z_mVv (As := [.int (iI 0), .ref (ts 0), .int (iI 40), .int (iI 24), .int (iI 20)]) (rest := []) (wr := [(x, .inr (4, [.ref qs, .ref qr, .ref qw, .ref qg, .ref qu, .ref qp, sp, .int (iI lv)]))]) hC (c_Ha_appendU l D t ts qp qt qn 5 u5T u5N 0 40 24 20 (by omega) (by omega) (by omega) (by omega) (by decide) hu5T hu5N 6 (by omega) _) (cw_V hC k_133 k_134 k_135 k_5 k_136 ye_Ha_append (by decide)) hP hD hK hE hS hA [1, 2, 3] [0] (by decide) rfl rfl (by decide) (by decide) 1 (ci := 0) rfl rfl rfl rfl hl.1 rfl (Nat.le_of_ble_eq_true rfl) ⟨Nat.le_of_ble_eq_true rfl, Nat.le_of_ble_eq_true rfl⟩ d_X_layOutSun_57 (fun u6 H locs eu6 hP hD hS => ?_)
  obtain ⟨u6T, u6N⟩ := u6
  obtain ⟨eu6T, eu6N⟩ := eu6
  dsimp only at eu6T eu6N hP hD
  have hu6T : bT u6T := by rw [eu6T]; exact bT_uZ hu5T (by decide)
  have hu6N : bF u6N := by rw [eu6N]; exact bF_wrN hu5N bF_UNITS
  have hP : va_P D classes [(x, .inr (4, [.ref qs, .ref qr, .ref qw, .ref qg, .ref qu, .ref qp, sp, .int (iI lv)])), (qp, .inr (0, [.ref qt, .ref qn, .int (iI 6)])), (qt, eI t.1 400 u6T), (qn, eI t.1 4800 u6N)] H := hP
  have hD : va_D A [(x, .inr (4, [.ref qs, .ref qr, .ref qw, .ref qg, .ref qu, .ref qp, sp, .int (iI lv)])), (qp, .inr (0, [.ref qt, .ref qn, .int (iI 6)])), (qt, eI t.1 400 u6T), (qn, eI t.1 4800 u6N)] := hD
  refine lv_iinc (v := iI 6) (lv' := [(1, .int (iI 6)), (3, .int (iI 24)), (2, .int (iI 20)), (0, .ref x)]) hC.1 hC.2.1 d_X_layOutSun_60 hl (k := 2) rfl (z_inc (by omega)) (by decide) rfl (fun ls hl => ?_)
  refine z_goto (tgt := 2) hC d_X_layOutSun_63 (by decide) ?_
  refine lv_iload_n hC.1 hC.2.1 d_X_layOutSun_2 rfl (lv_at hl 0 rfl) ?_
  refine z_bipush hC d_X_layOutSun_3 (by decide) ?_
  refine z_icmp_ge (tgt := 66) hC d_X_layOutSun_5 (by decide) (by decide) (by decide) (fun h => absurd h (by decide)) (fun _ => ?_)
  refine lv_iload_n hC.1 hC.2.1 d_X_layOutSun_8 rfl (lv_at hl 0 rfl) ?_
  refine z_iconst hC d_X_layOutSun_9 ?_
  refine z_imul hC d_X_layOutSun_10 ?_
  refine z_topi (z := 24) (by omega) ?_
  refine lv_istore_n (lv' := [(2, .int (iI 24)), (1, .int (iI 6)), (3, .int (iI 24)), (0, .ref x)]) hC.1 hC.2.1 d_X_layOutSun_11 rfl hl (by decide) rfl (fun ls hl => ?_)
  refine lv_iload_n hC.1 hC.2.1 d_X_layOutSun_12 rfl (lv_at hl 1 rfl) ?_
  refine z_iconst hC d_X_layOutSun_13 ?_
  refine z_iadd hC d_X_layOutSun_14 ?_
  refine z_topi (z := 7) (by omega) ?_
  refine z_bipush hC d_X_layOutSun_15 (by decide) ?_
  refine z_irem hC d_X_layOutSun_17 (by omega) (by omega) ?_
  refine z_topi (z := 7) (by decide) ?_
  refine z_iconst hC d_X_layOutSun_18 ?_
  refine z_imul hC d_X_layOutSun_19 ?_
  refine z_topi (z := 28) (by omega) ?_
  refine lv_istore_n (lv' := [(3, .int (iI 28)), (2, .int (iI 24)), (1, .int (iI 6)), (0, .ref x)]) hC.1 hC.2.1 d_X_layOutSun_20 rfl hl (by decide) rfl (fun ls hl => ?_)
  refine lv_iload_n hC.1 hC.2.1 d_X_layOutSun_21 rfl (lv_at hl 2 rfl) ?_
  refine z_iconst hC d_X_layOutSun_22 ?_
  refine z_irem hC d_X_layOutSun_23 (by omega) (by omega) ?_
  refine z_topi (z := 0) (by decide) ?_
  refine z_if_ne (tgt := 45) hC d_X_layOutSun_24 (by decide) (by decide) (fun h => absurd h (by decide)) (fun _ => ?_)
  refine lv_aload_n hC.1 hC.2.1 d_X_layOutSun_27 rfl (lv_at hl 3 rfl) ?_
  refine z_get (ci := 4) (C := R_X) (T := F_X) (N := 8) (v := .ref qp) hC in_X hK hP 0 rfl rfl 5 (by decide) k_103 rfl d_X_layOutSun_28 ?_
  refine z_iconst hC d_X_layOutSun_31 ?_
  refine z_gets hC hE.2.1 hS k_131 d_X_layOutSun_32 ?_
  refine z_bipush hC d_X_layOutSun_35 (by decide) ?_
  refine lv_iload_n hC.1 hC.2.1 d_X_layOutSun_37 rfl (lv_at hl 1 rfl) ?_
  refine lv_iload_n hC.1 hC.2.1 d_X_layOutSun_38 rfl (lv_at hl 0 rfl) ?_
  refine z_mVv (As := [.int (iI 0), .ref (ts 0), .int (iI 40), .int (iI 24), .int (iI 28)]) (rest := []) (wr := [(x, .inr (4, [.ref qs, .ref qr, .ref qw, .ref qg, .ref qu, .ref qp, sp, .int (iI lv)]))]) hC (c_Ha_appendU l D t ts qp qt qn 6 u6T u6N 0 40 24 28 (by omega) (by omega) (by omega) (by omega) (by decide) hu6T hu6N 7 (by omega) _) (cw_V hC k_133 k_134 k_135 k_5 k_136 ye_Ha_append (by decide)) hP hD hK hE hS hA [1, 2, 3] [0] (by decide) rfl rfl (by decide) (by decide) 1 (ci := 0) rfl rfl rfl rfl hl.1 rfl (Nat.le_of_ble_eq_true rfl) ⟨Nat.le_of_ble_eq_true rfl, Nat.le_of_ble_eq_true rfl⟩ d_X_layOutSun_39 (fun u7 H locs eu7 hP hD hS => ?_)
  obtain ⟨u7T, u7N⟩ := u7
  obtain ⟨eu7T, eu7N⟩ := eu7
  dsimp only at eu7T eu7N hP hD
  have hu7T : bT u7T := by rw [eu7T]; exact bT_uZ hu6T (by decide)
  have hu7N : bF u7N := by rw [eu7N]; exact bF_wrN hu6N bF_UNITS
  have hP : va_P D classes [(x, .inr (4, [.ref qs, .ref qr, .ref qw, .ref qg, .ref qu, .ref qp, sp, .int (iI lv)])), (qp, .inr (0, [.ref qt, .ref qn, .int (iI 7)])), (qt, eI t.1 400 u7T), (qn, eI t.1 4800 u7N)] H := hP
  have hD : va_D A [(x, .inr (4, [.ref qs, .ref qr, .ref qw, .ref qg, .ref qu, .ref qp, sp, .int (iI lv)])), (qp, .inr (0, [.ref qt, .ref qn, .int (iI 7)])), (qt, eI t.1 400 u7T), (qn, eI t.1 4800 u7N)] := hD
  refine z_goto (tgt := 60) hC d_X_layOutSun_42 (by decide) ?_
  refine lv_iinc (v := iI 7) (lv' := [(1, .int (iI 7)), (3, .int (iI 28)), (2, .int (iI 24)), (0, .ref x)]) hC.1 hC.2.1 d_X_layOutSun_60 hl (k := 2) rfl (z_inc (by omega)) (by decide) rfl (fun ls hl => ?_)
  refine z_goto (tgt := 2) hC d_X_layOutSun_63 (by decide) ?_
  refine lv_iload_n hC.1 hC.2.1 d_X_layOutSun_2 rfl (lv_at hl 0 rfl) ?_
  refine z_bipush hC d_X_layOutSun_3 (by decide) ?_
  refine z_icmp_ge (tgt := 66) hC d_X_layOutSun_5 (by decide) (by decide) (by decide) (fun h => absurd h (by decide)) (fun _ => ?_)
  refine lv_iload_n hC.1 hC.2.1 d_X_layOutSun_8 rfl (lv_at hl 0 rfl) ?_
  refine z_iconst hC d_X_layOutSun_9 ?_
  refine z_imul hC d_X_layOutSun_10 ?_
  refine z_topi (z := 28) (by omega) ?_
  refine lv_istore_n (lv' := [(2, .int (iI 28)), (1, .int (iI 7)), (3, .int (iI 28)), (0, .ref x)]) hC.1 hC.2.1 d_X_layOutSun_11 rfl hl (by decide) rfl (fun ls hl => ?_)
  refine lv_iload_n hC.1 hC.2.1 d_X_layOutSun_12 rfl (lv_at hl 1 rfl) ?_
  refine z_iconst hC d_X_layOutSun_13 ?_
  refine z_iadd hC d_X_layOutSun_14 ?_
  refine z_topi (z := 8) (by omega) ?_
  refine z_bipush hC d_X_layOutSun_15 (by decide) ?_
  refine z_irem hC d_X_layOutSun_17 (by omega) (by omega) ?_
  refine z_topi (z := 8) (by decide) ?_
  refine z_iconst hC d_X_layOutSun_18 ?_
  refine z_imul hC d_X_layOutSun_19 ?_
  refine z_topi (z := 32) (by omega) ?_
  refine lv_istore_n (lv' := [(3, .int (iI 32)), (2, .int (iI 28)), (1, .int (iI 7)), (0, .ref x)]) hC.1 hC.2.1 d_X_layOutSun_20 rfl hl (by decide) rfl (fun ls hl => ?_)
  refine lv_iload_n hC.1 hC.2.1 d_X_layOutSun_21 rfl (lv_at hl 2 rfl) ?_
  refine z_iconst hC d_X_layOutSun_22 ?_
  refine z_irem hC d_X_layOutSun_23 (by omega) (by omega) ?_
  refine z_topi (z := 1) (by decide) ?_
  refine z_if_ne (tgt := 45) hC d_X_layOutSun_24 (by decide) (by decide) (fun _ => ?_) (fun h => absurd h (by decide))
  refine lv_aload_n hC.1 hC.2.1 d_X_layOutSun_45 rfl (lv_at hl 3 rfl) ?_
  refine z_get (ci := 4) (C := R_X) (T := F_X) (N := 8) (v := .ref qp) hC in_X hK hP 0 rfl rfl 5 (by decide) k_103 rfl d_X_layOutSun_46 ?_
  refine z_iconst hC d_X_layOutSun_49 ?_
  refine z_gets hC hE.2.1 hS k_131 d_X_layOutSun_50 ?_
  refine z_bipush hC d_X_layOutSun_53 (by decide) ?_
  refine lv_iload_n hC.1 hC.2.1 d_X_layOutSun_55 rfl (lv_at hl 0 rfl) ?_
  refine lv_iload_n hC.1 hC.2.1 d_X_layOutSun_56 rfl (lv_at hl 1 rfl) ?_
  refine z_mVv (As := [.int (iI 0), .ref (ts 0), .int (iI 40), .int (iI 32), .int (iI 28)]) (rest := []) (wr := [(x, .inr (4, [.ref qs, .ref qr, .ref qw, .ref qg, .ref qu, .ref qp, sp, .int (iI lv)]))]) hC (c_Ha_appendU l D t ts qp qt qn 7 u7T u7N 0 40 32 28 (by omega) (by omega) (by omega) (by omega) (by decide) hu7T hu7N 8 (by omega) _) (cw_V hC k_133 k_134 k_135 k_5 k_136 ye_Ha_append (by decide)) hP hD hK hE hS hA [1, 2, 3] [0] (by decide) rfl rfl (by decide) (by decide) 1 (ci := 0) rfl rfl rfl rfl hl.1 rfl (Nat.le_of_ble_eq_true rfl) ⟨Nat.le_of_ble_eq_true rfl, Nat.le_of_ble_eq_true rfl⟩ d_X_layOutSun_57 (fun u8 H locs eu8 hP hD hS => ?_)
  obtain ⟨u8T, u8N⟩ := u8
  obtain ⟨eu8T, eu8N⟩ := eu8
  dsimp only at eu8T eu8N hP hD
  have hu8T : bT u8T := by rw [eu8T]; exact bT_uZ hu7T (by decide)
  have hu8N : bF u8N := by rw [eu8N]; exact bF_wrN hu7N bF_UNITS
  have hP : va_P D classes [(x, .inr (4, [.ref qs, .ref qr, .ref qw, .ref qg, .ref qu, .ref qp, sp, .int (iI lv)])), (qp, .inr (0, [.ref qt, .ref qn, .int (iI 8)])), (qt, eI t.1 400 u8T), (qn, eI t.1 4800 u8N)] H := hP
  have hD : va_D A [(x, .inr (4, [.ref qs, .ref qr, .ref qw, .ref qg, .ref qu, .ref qp, sp, .int (iI lv)])), (qp, .inr (0, [.ref qt, .ref qn, .int (iI 8)])), (qt, eI t.1 400 u8T), (qn, eI t.1 4800 u8N)] := hD
  refine lv_iinc (v := iI 8) (lv' := [(1, .int (iI 8)), (3, .int (iI 32)), (2, .int (iI 28)), (0, .ref x)]) hC.1 hC.2.1 d_X_layOutSun_60 hl (k := 2) rfl (z_inc (by omega)) (by decide) rfl (fun ls hl => ?_)
  refine z_goto (tgt := 2) hC d_X_layOutSun_63 (by decide) ?_
  refine lv_iload_n hC.1 hC.2.1 d_X_layOutSun_2 rfl (lv_at hl 0 rfl) ?_
  refine z_bipush hC d_X_layOutSun_3 (by decide) ?_
  refine z_icmp_ge (tgt := 66) hC d_X_layOutSun_5 (by decide) (by decide) (by decide) (fun h => absurd h (by decide)) (fun _ => ?_)
  refine lv_iload_n hC.1 hC.2.1 d_X_layOutSun_8 rfl (lv_at hl 0 rfl) ?_
  refine z_iconst hC d_X_layOutSun_9 ?_
  refine z_imul hC d_X_layOutSun_10 ?_
  refine z_topi (z := 32) (by omega) ?_
  refine lv_istore_n (lv' := [(2, .int (iI 32)), (1, .int (iI 8)), (3, .int (iI 32)), (0, .ref x)]) hC.1 hC.2.1 d_X_layOutSun_11 rfl hl (by decide) rfl (fun ls hl => ?_)
  refine lv_iload_n hC.1 hC.2.1 d_X_layOutSun_12 rfl (lv_at hl 1 rfl) ?_
  refine z_iconst hC d_X_layOutSun_13 ?_
  refine z_iadd hC d_X_layOutSun_14 ?_
  refine z_topi (z := 9) (by omega) ?_
  refine z_bipush hC d_X_layOutSun_15 (by decide) ?_
  refine z_irem hC d_X_layOutSun_17 (by omega) (by omega) ?_
  refine z_topi (z := 9) (by decide) ?_
  refine z_iconst hC d_X_layOutSun_18 ?_
  refine z_imul hC d_X_layOutSun_19 ?_
  refine z_topi (z := 36) (by omega) ?_
  refine lv_istore_n (lv' := [(3, .int (iI 36)), (2, .int (iI 32)), (1, .int (iI 8)), (0, .ref x)]) hC.1 hC.2.1 d_X_layOutSun_20 rfl hl (by decide) rfl (fun ls hl => ?_)
  refine lv_iload_n hC.1 hC.2.1 d_X_layOutSun_21 rfl (lv_at hl 2 rfl) ?_
  refine z_iconst hC d_X_layOutSun_22 ?_
  refine z_irem hC d_X_layOutSun_23 (by omega) (by omega) ?_
  refine z_topi (z := 0) (by decide) ?_
  refine z_if_ne (tgt := 45) hC d_X_layOutSun_24 (by decide) (by decide) (fun h => absurd h (by decide)) (fun _ => ?_)
  refine lv_aload_n hC.1 hC.2.1 d_X_layOutSun_27 rfl (lv_at hl 3 rfl) ?_
  refine z_get (ci := 4) (C := R_X) (T := F_X) (N := 8) (v := .ref qp) hC in_X hK hP 0 rfl rfl 5 (by decide) k_103 rfl d_X_layOutSun_28 ?_
  refine z_iconst hC d_X_layOutSun_31 ?_
  refine z_gets hC hE.2.1 hS k_131 d_X_layOutSun_32 ?_
  refine z_bipush hC d_X_layOutSun_35 (by decide) ?_
  refine lv_iload_n hC.1 hC.2.1 d_X_layOutSun_37 rfl (lv_at hl 1 rfl) ?_
  refine lv_iload_n hC.1 hC.2.1 d_X_layOutSun_38 rfl (lv_at hl 0 rfl) ?_
  refine z_mVv (As := [.int (iI 0), .ref (ts 0), .int (iI 40), .int (iI 32), .int (iI 36)]) (rest := []) (wr := [(x, .inr (4, [.ref qs, .ref qr, .ref qw, .ref qg, .ref qu, .ref qp, sp, .int (iI lv)]))]) hC (c_Ha_appendU l D t ts qp qt qn 8 u8T u8N 0 40 32 36 (by omega) (by omega) (by omega) (by omega) (by decide) hu8T hu8N 9 (by omega) _) (cw_V hC k_133 k_134 k_135 k_5 k_136 ye_Ha_append (by decide)) hP hD hK hE hS hA [1, 2, 3] [0] (by decide) rfl rfl (by decide) (by decide) 1 (ci := 0) rfl rfl rfl rfl hl.1 rfl (Nat.le_of_ble_eq_true rfl) ⟨Nat.le_of_ble_eq_true rfl, Nat.le_of_ble_eq_true rfl⟩ d_X_layOutSun_39 (fun u9 H locs eu9 hP hD hS => ?_)
  obtain ⟨u9T, u9N⟩ := u9
  obtain ⟨eu9T, eu9N⟩ := eu9
  dsimp only at eu9T eu9N hP hD
  have hu9T : bT u9T := by rw [eu9T]; exact bT_uZ hu8T (by decide)
  have hu9N : bF u9N := by rw [eu9N]; exact bF_wrN hu8N bF_UNITS
  have hP : va_P D classes [(x, .inr (4, [.ref qs, .ref qr, .ref qw, .ref qg, .ref qu, .ref qp, sp, .int (iI lv)])), (qp, .inr (0, [.ref qt, .ref qn, .int (iI 9)])), (qt, eI t.1 400 u9T), (qn, eI t.1 4800 u9N)] H := hP
  have hD : va_D A [(x, .inr (4, [.ref qs, .ref qr, .ref qw, .ref qg, .ref qu, .ref qp, sp, .int (iI lv)])), (qp, .inr (0, [.ref qt, .ref qn, .int (iI 9)])), (qt, eI t.1 400 u9T), (qn, eI t.1 4800 u9N)] := hD
  refine z_goto (tgt := 60) hC d_X_layOutSun_42 (by decide) ?_
  refine lv_iinc (v := iI 9) (lv' := [(1, .int (iI 9)), (3, .int (iI 36)), (2, .int (iI 32)), (0, .ref x)]) hC.1 hC.2.1 d_X_layOutSun_60 hl (k := 2) rfl (z_inc (by omega)) (by decide) rfl (fun ls hl => ?_)
  refine z_goto (tgt := 2) hC d_X_layOutSun_63 (by decide) ?_
  refine lv_iload_n hC.1 hC.2.1 d_X_layOutSun_2 rfl (lv_at hl 0 rfl) ?_
  refine z_bipush hC d_X_layOutSun_3 (by decide) ?_
  refine z_icmp_ge (tgt := 66) hC d_X_layOutSun_5 (by decide) (by decide) (by decide) (fun h => absurd h (by decide)) (fun _ => ?_)
  refine lv_iload_n hC.1 hC.2.1 d_X_layOutSun_8 rfl (lv_at hl 0 rfl) ?_
  refine z_iconst hC d_X_layOutSun_9 ?_
  refine z_imul hC d_X_layOutSun_10 ?_
  refine z_topi (z := 36) (by omega) ?_
  refine lv_istore_n (lv' := [(2, .int (iI 36)), (1, .int (iI 9)), (3, .int (iI 36)), (0, .ref x)]) hC.1 hC.2.1 d_X_layOutSun_11 rfl hl (by decide) rfl (fun ls hl => ?_)
  refine lv_iload_n hC.1 hC.2.1 d_X_layOutSun_12 rfl (lv_at hl 1 rfl) ?_
  refine z_iconst hC d_X_layOutSun_13 ?_
  refine z_iadd hC d_X_layOutSun_14 ?_
  refine z_topi (z := 10) (by omega) ?_
  refine z_bipush hC d_X_layOutSun_15 (by decide) ?_
  refine z_irem hC d_X_layOutSun_17 (by omega) (by omega) ?_
  refine z_topi (z := 0) (by decide) ?_
  refine z_iconst hC d_X_layOutSun_18 ?_
  refine z_imul hC d_X_layOutSun_19 ?_
  refine z_topi (z := 0) (by omega) ?_
  refine lv_istore_n (lv' := [(3, .int (iI 0)), (2, .int (iI 36)), (1, .int (iI 9)), (0, .ref x)]) hC.1 hC.2.1 d_X_layOutSun_20 rfl hl (by decide) rfl (fun ls hl => ?_)
  refine lv_iload_n hC.1 hC.2.1 d_X_layOutSun_21 rfl (lv_at hl 2 rfl) ?_
  refine z_iconst hC d_X_layOutSun_22 ?_
  refine z_irem hC d_X_layOutSun_23 (by omega) (by omega) ?_
  refine z_topi (z := 1) (by decide) ?_
  refine z_if_ne (tgt := 45) hC d_X_layOutSun_24 (by decide) (by decide) (fun _ => ?_) (fun h => absurd h (by decide))
  refine lv_aload_n hC.1 hC.2.1 d_X_layOutSun_45 rfl (lv_at hl 3 rfl) ?_
  refine z_get (ci := 4) (C := R_X) (T := F_X) (N := 8) (v := .ref qp) hC in_X hK hP 0 rfl rfl 5 (by decide) k_103 rfl d_X_layOutSun_46 ?_
  refine z_iconst hC d_X_layOutSun_49 ?_
  refine z_gets hC hE.2.1 hS k_131 d_X_layOutSun_50 ?_
  refine z_bipush hC d_X_layOutSun_53 (by decide) ?_
  refine lv_iload_n hC.1 hC.2.1 d_X_layOutSun_55 rfl (lv_at hl 0 rfl) ?_
  refine lv_iload_n hC.1 hC.2.1 d_X_layOutSun_56 rfl (lv_at hl 1 rfl) ?_
  refine z_mVv (As := [.int (iI 0), .ref (ts 0), .int (iI 40), .int (iI 0), .int (iI 36)]) (rest := []) (wr := [(x, .inr (4, [.ref qs, .ref qr, .ref qw, .ref qg, .ref qu, .ref qp, sp, .int (iI lv)]))]) hC (c_Ha_appendU l D t ts qp qt qn 9 u9T u9N 0 40 0 36 (by omega) (by omega) (by omega) (by omega) (by decide) hu9T hu9N 10 (by omega) _) (cw_V hC k_133 k_134 k_135 k_5 k_136 ye_Ha_append (by decide)) hP hD hK hE hS hA [1, 2, 3] [0] (by decide) rfl rfl (by decide) (by decide) 1 (ci := 0) rfl rfl rfl rfl hl.1 rfl (Nat.le_of_ble_eq_true rfl) ⟨Nat.le_of_ble_eq_true rfl, Nat.le_of_ble_eq_true rfl⟩ d_X_layOutSun_57 (fun u10 H locs eu10 hP hD hS => ?_)
  obtain ⟨u10T, u10N⟩ := u10
  obtain ⟨eu10T, eu10N⟩ := eu10
  dsimp only at eu10T eu10N hP hD
  have hu10T : bT u10T := by rw [eu10T]; exact bT_uZ hu9T (by decide)
  have hu10N : bF u10N := by rw [eu10N]; exact bF_wrN hu9N bF_UNITS
  have hP : va_P D classes [(x, .inr (4, [.ref qs, .ref qr, .ref qw, .ref qg, .ref qu, .ref qp, sp, .int (iI lv)])), (qp, .inr (0, [.ref qt, .ref qn, .int (iI 10)])), (qt, eI t.1 400 u10T), (qn, eI t.1 4800 u10N)] H := hP
  have hD : va_D A [(x, .inr (4, [.ref qs, .ref qr, .ref qw, .ref qg, .ref qu, .ref qp, sp, .int (iI lv)])), (qp, .inr (0, [.ref qt, .ref qn, .int (iI 10)])), (qt, eI t.1 400 u10T), (qn, eI t.1 4800 u10N)] := hD
  refine lv_iinc (v := iI 10) (lv' := [(1, .int (iI 10)), (3, .int (iI 0)), (2, .int (iI 36)), (0, .ref x)]) hC.1 hC.2.1 d_X_layOutSun_60 hl (k := 2) rfl (z_inc (by omega)) (by decide) rfl (fun ls hl => ?_)
  refine z_goto (tgt := 2) hC d_X_layOutSun_63 (by decide) ?_
  refine lv_iload_n hC.1 hC.2.1 d_X_layOutSun_2 rfl (lv_at hl 0 rfl) ?_
  refine z_bipush hC d_X_layOutSun_3 (by decide) ?_
  refine z_icmp_ge (tgt := 66) hC d_X_layOutSun_5 (by decide) (by decide) (by decide) (fun _ => ?_) (fun h => absurd h (by decide))
  have hP9 := hP.sub (ws' := [(x, .inr (4, [.ref qs, .ref qr, .ref qw, .ref qg, .ref qu, .ref qp, sp, .int (iI lv)])), (qp, .inr (0, [.ref qt, .ref qn, .int (iI 10)])), (qt, eI t.1 400 u10T), (qn, eI t.1 4800 u10N)]) [0, 1, 2, 3] rfl
  have hD9 := hD.sub (ws' := [(x, .inr (4, [.ref qs, .ref qr, .ref qw, .ref qg, .ref qu, .ref qp, sp, .int (iI lv)])), (qp, .inr (0, [.ref qt, .ref qn, .int (iI 10)])), (qt, eI t.1 400 u10T), (qn, eI t.1 4800 u10N)]) [0, 1, 2, 3] (by decide) rfl
  exact ret (10, u10T, u10N) _ _ 66 _ d_X_layOutSun_66 ⟨rfl, by rw [eu10T, eu9T, eu8T, eu7T, eu6T, eu5T, eu4T, eu3T, eu2T, eu1T]; rfl, by rw [eu10N, eu9N, eu8N, eu7N, eu6N, eu5N, eu4N, eu3N, eu2N, eu1N]; rfl, hu10T, hu10N⟩ hP9 hD9 hS
theorem ye_X_seed : ye y_X_seed R_X 1 := by unfold ye; decide +kernel
abbrev rm_X_seed : Room := { frames := 4, cells := 0, slots := 0, locals := 100 }
set_option maxHeartbeats 4000000 in
set_option maxRecDepth 100000 in
theorem c_X_seed (l : Launch) (D : va_G) (t : vt) (ts : Nat → Nat) (x qs qr qw qg qu qp ql qh qt qn : Nat) (sp : Value) (lv z : Int) (Lo Hi T F : Int → Int) (hz : 0 ≤ z ∧ z ≤ 400) (hLo : bL Lo) (hHi : bL Hi) (hT : bT T) (hF : bF F) (k : Int) (hk : inI k) (sz : Nat) : Met l y_X_seed (.code y_X_seed b_X_seed 2 (some .int) :: tb_ws) rm_X_seed (MP D t ts [.ref x, .int (iI k)] [(x, .inr (4, [.ref qs, .ref qr, .ref qw, .ref qg, .ref qu, .ref qp, sp, .int (iI lv)])), (qs, .inr (2, [.ref ql, .ref qh])), (ql, eL t.2.1 2000 Lo), (qh, eL t.2.1 2000 Hi), (qp, .inr (0, [.ref qt, .ref qn, .int (iI z)])), (qt, eI t.1 400 T), (qn, eI t.1 4800 F)] sz) (va_Qi (fun zr u => zr = iI ((fun u : Int × Int × Int × (Int → Int) × (Int → Int) × (Int → Int) × (Int → Int) => u.1) u) ∧ ((fun u : Int × Int × Int × (Int → Int) × (Int → Int) × (Int → Int) × (Int → Int) => (¬ (0 ≤ k ∧ k ≤ 3) ∧ u.1 = -1 ∧ u.2.1 = z ∧ u.2.2.1 = lv ∧ u.2.2.2.1 = T ∧ u.2.2.2.2.1 = F ∧ u.2.2.2.2.2.1 = Lo ∧ u.2.2.2.2.2.2 = Hi) ∨ ((0 ≤ k ∧ k ≤ 3) ∧ u.1 = sdZ k ∧ u.2.1 = sdZ k ∧ u.2.2.1 = 0 ∧ u.2.2.2.1 = sdT T k ∧ u.2.2.2.2.1 = sdF F k ∧ u.2.2.2.2.2.1 = mALo Lo (sdF F k) (sdZ k).toNat ∧ u.2.2.2.2.2.2 = mAHi Hi (sdF F k) (sdZ k).toNat ∧ bT u.2.2.2.1 ∧ bF u.2.2.2.2.1))) u) (MB D (va_A [(x, .inr (4, [.ref qs, .ref qr, .ref qw, .ref qg, .ref qu, .ref qp, sp, .int (iI lv)])), (qs, .inr (2, [.ref ql, .ref qh])), (ql, eL t.2.1 2000 Lo), (qh, eL t.2.1 2000 Hi), (qp, .inr (0, [.ref qt, .ref qn, .int (iI z)])), (qt, eI t.1 400 T), (qn, eI t.1 4800 F)] sz) (fun u : Int × Int × Int × (Int → Int) × (Int → Int) × (Int → Int) × (Int → Int) => [(x, .inr (4, [.ref qs, .ref qr, .ref qw, .ref qg, .ref qu, .ref qp, sp, .int (iI u.2.2.1)])), (qs, .inr (2, [.ref ql, .ref qh])), (ql, eL t.2.1 2000 u.2.2.2.2.2.1), (qh, eL t.2.1 2000 u.2.2.2.2.2.2), (qp, .inr (0, [.ref qt, .ref qn, .int (iI u.2.1)])), (qt, eI t.1 400 u.2.2.2.1), (qn, eI t.1 4800 u.2.2.2.2.1)])) (va_A [(x, .inr (4, [.ref qs, .ref qr, .ref qw, .ref qg, .ref qu, .ref qp, sp, .int (iI lv)])), (qs, .inr (2, [.ref ql, .ref qh])), (ql, eL t.2.1 2000 Lo), (qh, eL t.2.1 2000 Hi), (qp, .inr (0, [.ref qt, .ref qn, .int (iI z)])), (qt, eI t.1 400 T), (qn, eI t.1 4800 F)] sz)) 0 0 (va_A [(x, .inr (4, [.ref qs, .ref qr, .ref qw, .ref qg, .ref qu, .ref qp, sp, .int (iI lv)])), (qs, .inr (2, [.ref ql, .ref qh])), (ql, eL t.2.1 2000 Lo), (qh, eL t.2.1 2000 Hi), (qp, .inr (0, [.ref qt, .ref qn, .int (iI z)])), (qt, eI t.1 400 T), (qn, eI t.1 4800 F)] sz) := by
  refine m_i (by decide +kernel) (Nat.le_of_ble_eq_true rfl) ?_
  intro zp ze zs zm zb zt zc zQ A ls hC hA hP hK hD hE hS hl ret
  have hl : lv_has ls 2 [(0, .ref x), (1, .int (iI k))] := hl
  have retv : ∀ (u : Int × Int × Int × (Int → Int) × (Int → Int) × (Int → Int) × (Int → Int)) (H : Heap) (locs : List Loc) (pc : Nat) (ls : Array Slot) (zv : Int), decode b_X_seed pc = .ok (.ireturn, 1) → (zv = u.1 ∧ ((¬ (0 ≤ k ∧ k ≤ 3) ∧ u.1 = -1 ∧ u.2.1 = z ∧ u.2.2.1 = lv ∧ u.2.2.2.1 = T ∧ u.2.2.2.2.1 = F ∧ u.2.2.2.2.2.1 = Lo ∧ u.2.2.2.2.2.2 = Hi) ∨ ((0 ≤ k ∧ k ≤ 3) ∧ u.1 = sdZ k ∧ u.2.1 = sdZ k ∧ u.2.2.1 = 0 ∧ u.2.2.2.1 = sdT T k ∧ u.2.2.2.2.1 = sdF F k ∧ u.2.2.2.2.2.1 = mALo Lo (sdF F k) (sdZ k).toNat ∧ u.2.2.2.2.2.2 = mAHi Hi (sdF F k) (sdZ k).toNat ∧ bT u.2.2.2.1 ∧ bF u.2.2.2.2.1))) → va_P D classes ([(x, .inr (4, [.ref qs, .ref qr, .ref qw, .ref qg, .ref qu, .ref qp, sp, .int (iI u.2.2.1)])), (qs, .inr (2, [.ref ql, .ref qh])), (ql, eL t.2.1 2000 u.2.2.2.2.2.1), (qh, eL t.2.1 2000 u.2.2.2.2.2.2), (qp, .inr (0, [.ref qt, .ref qn, .int (iI u.2.1)])), (qt, eI t.1 400 u.2.2.2.1), (qn, eI t.1 4800 u.2.2.2.2.1)]) H → va_D A ([(x, .inr (4, [.ref qs, .ref qr, .ref qw, .ref qg, .ref qu, .ref qp, sp, .int (iI u.2.2.1)])), (qs, .inr (2, [.ref ql, .ref qh])), (ql, eL t.2.1 2000 u.2.2.2.2.2.1), (qh, eL t.2.1 2000 u.2.2.2.2.2.2), (qp, .inr (0, [.ref qt, .ref qn, .int (iI u.2.1)])), (qt, eI t.1 400 u.2.2.2.1), (qn, eI t.1 4800 u.2.2.2.2.1)]) → va_S A zs.heap H locs → W zp l ze rm_X_seed zs zm [.ref x, .int (iI k)].toArray zb zt zc H locs 0 0 zQ (F0 zm pc ls [.int (iI zv)]) := fun u H locs pc ls v d h hP hD hS => by rw [h.1]; exact ret u H locs pc ls d h.2 hP hD hS
  refine lv_iload_n hC.1 hC.2.1 d_X_seed_0 rfl (lv_at hl 1 rfl) ?_
  refine z_if_lt (tgt := 9) hC d_X_seed_1 (by decide) (by omega) (fun h1 => ?_) (fun h1 => ?_)
  · refine z_iconst hC d_X_seed_9 ?_
    have hP9 := hP.sub (ws' := [(x, .inr (4, [.ref qs, .ref qr, .ref qw, .ref qg, .ref qu, .ref qp, sp, .int (iI lv)])), (qs, .inr (2, [.ref ql, .ref qh])), (ql, eL t.2.1 2000 Lo), (qh, eL t.2.1 2000 Hi), (qp, .inr (0, [.ref qt, .ref qn, .int (iI z)])), (qt, eI t.1 400 T), (qn, eI t.1 4800 F)]) [0, 1, 2, 3, 4, 5, 6] rfl
    have hD9 := hD.sub (ws' := [(x, .inr (4, [.ref qs, .ref qr, .ref qw, .ref qg, .ref qu, .ref qp, sp, .int (iI lv)])), (qs, .inr (2, [.ref ql, .ref qh])), (ql, eL t.2.1 2000 Lo), (qh, eL t.2.1 2000 Hi), (qp, .inr (0, [.ref qt, .ref qn, .int (iI z)])), (qt, eI t.1 400 T), (qn, eI t.1 4800 F)]) [0, 1, 2, 3, 4, 5, 6] (by decide) rfl
    exact retv (-1, z, lv, T, F, Lo, Hi) _ _ 10 _ _ d_X_seed_10 ⟨rfl, Or.inl ⟨by omega, rfl, rfl, rfl, rfl, rfl, rfl, rfl⟩⟩ hP9 hD9 hS
  · refine lv_iload_n hC.1 hC.2.1 d_X_seed_4 rfl (lv_at hl 1 rfl) ?_
    refine z_iconst hC d_X_seed_5 ?_
    refine z_icmp_le (tgt := 11) hC d_X_seed_6 (by decide) (by omega) (by decide) (fun h6 => ?_) (fun h6 => ?_)
    · refine lv_aload_n hC.1 hC.2.1 d_X_seed_11 rfl (lv_at hl 0 rfl) ?_
      refine z_get (ci := 4) (C := R_X) (T := F_X) (N := 8) (v := .ref qp) hC in_X hK hP 0 rfl rfl 5 (by decide) k_103 rfl d_X_seed_12 ?_
      refine z_iconst hC d_X_seed_15 ?_
      refine z_putN (ci := 0) (C := R_Ha) (T := F_Ha) (N := 3) (v := .int (iI 0)) (ws' := [(x, .inr (4, [.ref qs, .ref qr, .ref qw, .ref qg, .ref qu, .ref qp, sp, .int (iI lv)])), (qs, .inr (2, [.ref ql, .ref qh])), (ql, eL t.2.1 2000 Lo), (qh, eL t.2.1 2000 Hi), (qp, .inr (0, [.ref qt, .ref qn, .int (iI 0)])), (qt, eI t.1 400 T), (qn, eI t.1 4800 F)]) hC in_Ha t_Ha t_Ha_ok n_Ha hK hP hD hS 4 rfl rfl 2 (by decide) hE.1.2.2.2.2.1 rfl rfl rfl (Nat.le_of_ble_eq_true rfl) rfl d_X_seed_16 (fun H locs hP hD hS => ?_)
      refine lv_aload_n hC.1 hC.2.1 d_X_seed_19 rfl (lv_at hl 0 rfl) ?_
      refine z_iconst hC d_X_seed_20 ?_
      refine z_put (ci := 4) (C := R_X) (T := F_X) (N := 8) (v := .int (iI 0)) (ws' := [(x, .inr (4, [.ref qs, .ref qr, .ref qw, .ref qg, .ref qu, .ref qp, sp, .int (iI 0)])), (qs, .inr (2, [.ref ql, .ref qh])), (ql, eL t.2.1 2000 Lo), (qh, eL t.2.1 2000 Hi), (qp, .inr (0, [.ref qt, .ref qn, .int (iI 0)])), (qt, eI t.1 400 T), (qn, eI t.1 4800 F)]) hC in_X t_X t_X_ok n_X hK hP hD hS 0 rfl rfl 7 (by decide) k_105 rfl rfl rfl (Nat.le_of_ble_eq_true rfl) rfl d_X_seed_21 (fun H locs hP hD hS => ?_)
      refine lv_iload_n hC.1 hC.2.1 d_X_seed_24 rfl (lv_at hl 1 rfl) ?_
      refine z_if_ne (tgt := 35) hC d_X_seed_25 (by decide) (by omega) (fun h25 => ?_) (fun h25 => ?_)
      · refine lv_iload_n hC.1 hC.2.1 d_X_seed_35 rfl (lv_at hl 1 rfl) ?_
        refine z_iconst hC d_X_seed_36 ?_
        refine z_icmp_ne (tgt := 58) hC d_X_seed_37 (by decide) (by omega) (by decide) (fun h37 => ?_) (fun h37 => ?_)
        · refine lv_iload_n hC.1 hC.2.1 d_X_seed_58 rfl (lv_at hl 1 rfl) ?_
          refine z_iconst hC d_X_seed_59 ?_
          refine z_icmp_ne (tgt := 79) hC d_X_seed_60 (by decide) (by omega) (by decide) (fun h60 => ?_) (fun h60 => ?_)
          · refine lv_aload_n hC.1 hC.2.1 d_X_seed_79 rfl (lv_at hl 0 rfl) ?_
            refine z_get (ci := 4) (C := R_X) (T := F_X) (N := 8) (v := .ref qs) hC in_X hK hP 0 rfl rfl 0 (by decide) k_98 rfl d_X_seed_80 ?_
            refine lv_aload_n hC.1 hC.2.1 d_X_seed_83 rfl (lv_at hl 0 rfl) ?_
            refine z_get (ci := 4) (C := R_X) (T := F_X) (N := 8) (v := .ref qp) hC in_X hK hP 0 rfl rfl 5 (by decide) k_103 rfl d_X_seed_84 ?_
            refine z_mVv (As := [.ref qp]) (rest := []) (wr := [(x, .inr (4, [.ref qs, .ref qr, .ref qw, .ref qg, .ref qu, .ref qp, sp, .int (iI 0)])), (qt, eI t.1 400 T)]) hC (c_St_measureAll l D t ts qs ql qh qp qt qn 0 Lo Hi F (by omega) hF _) (cw_V hC k_147 k_148 k_149 k_2 k_150 ye_St_measureAll (by decide)) hP hD hK hE hS hA [1, 2, 3, 4, 6] [0, 5] (by decide) rfl rfl (by decide) (by decide) 1 (ci := 2) rfl rfl rfl rfl hl.1 rfl (Nat.le_of_ble_eq_true rfl) ⟨Nat.le_of_ble_eq_true rfl, Nat.le_of_ble_eq_true rfl⟩ d_X_seed_87 (fun u1 H locs eu1 hP hD hS => ?_)
            obtain ⟨u1L, u1H⟩ := u1
            obtain ⟨eu1L, eu1H⟩ := eu1
            dsimp only at eu1L eu1H hP hD
            have hP : va_P D classes [(x, .inr (4, [.ref qs, .ref qr, .ref qw, .ref qg, .ref qu, .ref qp, sp, .int (iI 0)])), (qt, eI t.1 400 T), (qs, .inr (2, [.ref ql, .ref qh])), (ql, eL t.2.1 2000 u1L), (qh, eL t.2.1 2000 u1H), (qp, .inr (0, [.ref qt, .ref qn, .int (iI 0)])), (qn, eI t.1 4800 F)] H := hP
            have hD : va_D A [(x, .inr (4, [.ref qs, .ref qr, .ref qw, .ref qg, .ref qu, .ref qp, sp, .int (iI 0)])), (qt, eI t.1 400 T), (qs, .inr (2, [.ref ql, .ref qh])), (ql, eL t.2.1 2000 u1L), (qh, eL t.2.1 2000 u1H), (qp, .inr (0, [.ref qt, .ref qn, .int (iI 0)])), (qn, eI t.1 4800 F)] := hD
            refine lv_aload_n hC.1 hC.2.1 d_X_seed_90 rfl (lv_at hl 0 rfl) ?_
            refine z_get (ci := 4) (C := R_X) (T := F_X) (N := 8) (v := .ref qp) hC in_X hK hP 0 rfl rfl 5 (by decide) k_103 rfl d_X_seed_91 ?_
            refine z_getN (ci := 0) (C := R_Ha) (T := F_Ha) (N := 3) (v := .int (iI 0)) hC in_Ha hK hP 5 rfl rfl 2 (by decide) hE.1.2.2.2.2.1 rfl d_X_seed_94 ?_
            have hP9 := hP.sub (ws' := [(x, .inr (4, [.ref qs, .ref qr, .ref qw, .ref qg, .ref qu, .ref qp, sp, .int (iI 0)])), (qs, .inr (2, [.ref ql, .ref qh])), (ql, eL t.2.1 2000 u1L), (qh, eL t.2.1 2000 u1H), (qp, .inr (0, [.ref qt, .ref qn, .int (iI 0)])), (qt, eI t.1 400 T), (qn, eI t.1 4800 F)]) [0, 2, 3, 4, 5, 1, 6] rfl
            have hD9 := hD.sub (ws' := [(x, .inr (4, [.ref qs, .ref qr, .ref qw, .ref qg, .ref qu, .ref qp, sp, .int (iI 0)])), (qs, .inr (2, [.ref ql, .ref qh])), (ql, eL t.2.1 2000 u1L), (qh, eL t.2.1 2000 u1H), (qp, .inr (0, [.ref qt, .ref qn, .int (iI 0)])), (qt, eI t.1 400 T), (qn, eI t.1 4800 F)]) [0, 2, 3, 4, 5, 1, 6] (by decide) rfl
            exact retv (0, 0, 0, T, F, u1L, u1H) _ _ 97 _ _ d_X_seed_97 (by have ek : k = 3 := (by omega); exact ⟨rfl, Or.inr ⟨by omega, by rw [ek]; rfl, by rw [ek]; rfl, rfl, by rw [ek]; rfl, by rw [ek]; rfl, by rw [ek]; rw [eu1L]; rfl, by rw [ek]; rw [eu1H]; rfl, hT, hF⟩⟩) hP9 hD9 hS
          · refine lv_aload_n hC.1 hC.2.1 d_X_seed_63 rfl (lv_at hl 0 rfl) ?_
            refine z_get (ci := 4) (C := R_X) (T := F_X) (N := 8) (v := .ref qp) hC in_X hK hP 0 rfl rfl 5 (by decide) k_103 rfl d_X_seed_64 ?_
            refine z_iconst hC d_X_seed_67 ?_
            refine z_gets hC hE.2.1 hS k_131 d_X_seed_68 ?_
            refine z_bipush hC d_X_seed_71 (by decide) ?_
            refine z_iconst hC d_X_seed_73 ?_
            refine z_bipush hC d_X_seed_74 (by decide) ?_
            refine z_mVv (As := [.int (iI 1), .ref (ts 0), .int (iI 40), .int (iI 0), .int (iI 12)]) (rest := []) (wr := [(x, .inr (4, [.ref qs, .ref qr, .ref qw, .ref qg, .ref qu, .ref qp, sp, .int (iI 0)])), (qs, .inr (2, [.ref ql, .ref qh])), (ql, eL t.2.1 2000 Lo), (qh, eL t.2.1 2000 Hi)]) hC (c_Ha_appendU l D t ts qp qt qn 0 T F 1 40 0 12 (by omega) (by omega) (by omega) (by omega) (by decide) hT hF 1 (by omega) _) (cw_V hC k_133 k_134 k_135 k_5 k_136 ye_Ha_append (by decide)) hP hD hK hE hS hA [4, 5, 6] [0, 1, 2, 3] (by decide) rfl rfl (by decide) (by decide) 4 (ci := 0) rfl rfl rfl rfl hl.1 rfl (Nat.le_of_ble_eq_true rfl) ⟨Nat.le_of_ble_eq_true rfl, Nat.le_of_ble_eq_true rfl⟩ d_X_seed_76 (fun u2 H locs eu2 hP hD hS => ?_)
            obtain ⟨u2T, u2N⟩ := u2
            obtain ⟨eu2T, eu2N⟩ := eu2
            dsimp only at eu2T eu2N hP hD
            have hu2T : bT u2T := by rw [eu2T]; exact bT_uZ hT (by decide)
            have hu2N : bF u2N := by rw [eu2N]; exact bF_wrN hF bF_UNITS
            have hP : va_P D classes [(x, .inr (4, [.ref qs, .ref qr, .ref qw, .ref qg, .ref qu, .ref qp, sp, .int (iI 0)])), (qs, .inr (2, [.ref ql, .ref qh])), (ql, eL t.2.1 2000 Lo), (qh, eL t.2.1 2000 Hi), (qp, .inr (0, [.ref qt, .ref qn, .int (iI 1)])), (qt, eI t.1 400 u2T), (qn, eI t.1 4800 u2N)] H := hP
            have hD : va_D A [(x, .inr (4, [.ref qs, .ref qr, .ref qw, .ref qg, .ref qu, .ref qp, sp, .int (iI 0)])), (qs, .inr (2, [.ref ql, .ref qh])), (ql, eL t.2.1 2000 Lo), (qh, eL t.2.1 2000 Hi), (qp, .inr (0, [.ref qt, .ref qn, .int (iI 1)])), (qt, eI t.1 400 u2T), (qn, eI t.1 4800 u2N)] := hD
            refine lv_aload_n hC.1 hC.2.1 d_X_seed_79 rfl (lv_at hl 0 rfl) ?_
            refine z_get (ci := 4) (C := R_X) (T := F_X) (N := 8) (v := .ref qs) hC in_X hK hP 0 rfl rfl 0 (by decide) k_98 rfl d_X_seed_80 ?_
            refine lv_aload_n hC.1 hC.2.1 d_X_seed_83 rfl (lv_at hl 0 rfl) ?_
            refine z_get (ci := 4) (C := R_X) (T := F_X) (N := 8) (v := .ref qp) hC in_X hK hP 0 rfl rfl 5 (by decide) k_103 rfl d_X_seed_84 ?_
            refine z_mVv (As := [.ref qp]) (rest := []) (wr := [(x, .inr (4, [.ref qs, .ref qr, .ref qw, .ref qg, .ref qu, .ref qp, sp, .int (iI 0)])), (qt, eI t.1 400 u2T)]) hC (c_St_measureAll l D t ts qs ql qh qp qt qn 1 Lo Hi u2N (by omega) hu2N _) (cw_V hC k_147 k_148 k_149 k_2 k_150 ye_St_measureAll (by decide)) hP hD hK hE hS hA [1, 2, 3, 4, 6] [0, 5] (by decide) rfl rfl (by decide) (by decide) 1 (ci := 2) rfl rfl rfl rfl hl.1 rfl (Nat.le_of_ble_eq_true rfl) ⟨Nat.le_of_ble_eq_true rfl, Nat.le_of_ble_eq_true rfl⟩ d_X_seed_87 (fun u3 H locs eu3 hP hD hS => ?_)
            obtain ⟨u3L, u3H⟩ := u3
            obtain ⟨eu3L, eu3H⟩ := eu3
            dsimp only at eu3L eu3H hP hD
            have hP : va_P D classes [(x, .inr (4, [.ref qs, .ref qr, .ref qw, .ref qg, .ref qu, .ref qp, sp, .int (iI 0)])), (qt, eI t.1 400 u2T), (qs, .inr (2, [.ref ql, .ref qh])), (ql, eL t.2.1 2000 u3L), (qh, eL t.2.1 2000 u3H), (qp, .inr (0, [.ref qt, .ref qn, .int (iI 1)])), (qn, eI t.1 4800 u2N)] H := hP
            have hD : va_D A [(x, .inr (4, [.ref qs, .ref qr, .ref qw, .ref qg, .ref qu, .ref qp, sp, .int (iI 0)])), (qt, eI t.1 400 u2T), (qs, .inr (2, [.ref ql, .ref qh])), (ql, eL t.2.1 2000 u3L), (qh, eL t.2.1 2000 u3H), (qp, .inr (0, [.ref qt, .ref qn, .int (iI 1)])), (qn, eI t.1 4800 u2N)] := hD
            refine lv_aload_n hC.1 hC.2.1 d_X_seed_90 rfl (lv_at hl 0 rfl) ?_
            refine z_get (ci := 4) (C := R_X) (T := F_X) (N := 8) (v := .ref qp) hC in_X hK hP 0 rfl rfl 5 (by decide) k_103 rfl d_X_seed_91 ?_
            refine z_getN (ci := 0) (C := R_Ha) (T := F_Ha) (N := 3) (v := .int (iI 1)) hC in_Ha hK hP 5 rfl rfl 2 (by decide) hE.1.2.2.2.2.1 rfl d_X_seed_94 ?_
            have hP9 := hP.sub (ws' := [(x, .inr (4, [.ref qs, .ref qr, .ref qw, .ref qg, .ref qu, .ref qp, sp, .int (iI 0)])), (qs, .inr (2, [.ref ql, .ref qh])), (ql, eL t.2.1 2000 u3L), (qh, eL t.2.1 2000 u3H), (qp, .inr (0, [.ref qt, .ref qn, .int (iI 1)])), (qt, eI t.1 400 u2T), (qn, eI t.1 4800 u2N)]) [0, 2, 3, 4, 5, 1, 6] rfl
            have hD9 := hD.sub (ws' := [(x, .inr (4, [.ref qs, .ref qr, .ref qw, .ref qg, .ref qu, .ref qp, sp, .int (iI 0)])), (qs, .inr (2, [.ref ql, .ref qh])), (ql, eL t.2.1 2000 u3L), (qh, eL t.2.1 2000 u3H), (qp, .inr (0, [.ref qt, .ref qn, .int (iI 1)])), (qt, eI t.1 400 u2T), (qn, eI t.1 4800 u2N)]) [0, 2, 3, 4, 5, 1, 6] (by decide) rfl
            exact retv (1, 1, 0, u2T, u2N, u3L, u3H) _ _ 97 _ _ d_X_seed_97 (by have ek : k = 2 := (by omega); exact ⟨rfl, Or.inr ⟨by omega, by rw [ek]; rfl, by rw [ek]; rfl, rfl, by rw [ek]; exact eu2T, by rw [ek]; exact eu2N, by rw [ek]; rw [eu3L, eu2N]; rfl, by rw [ek]; rw [eu3H, eu2N]; rfl, hu2T, hu2N⟩⟩) hP9 hD9 hS
        · refine lv_aload_n hC.1 hC.2.1 d_X_seed_40 rfl (lv_at hl 0 rfl) ?_
          refine z_get (ci := 4) (C := R_X) (T := F_X) (N := 8) (v := .ref qp) hC in_X hK hP 0 rfl rfl 5 (by decide) k_103 rfl d_X_seed_41 ?_
          refine z_iconst hC d_X_seed_44 ?_
          refine z_gets hC hE.2.1 hS k_131 d_X_seed_45 ?_
          refine z_bipush hC d_X_seed_48 (by decide) ?_
          refine z_iconst hC d_X_seed_50 ?_
          refine z_iconst hC d_X_seed_51 ?_
          refine z_mVv (As := [.int (iI 0), .ref (ts 0), .int (iI 40), .int (iI 0), .int (iI 4)]) (rest := []) (wr := [(x, .inr (4, [.ref qs, .ref qr, .ref qw, .ref qg, .ref qu, .ref qp, sp, .int (iI 0)])), (qs, .inr (2, [.ref ql, .ref qh])), (ql, eL t.2.1 2000 Lo), (qh, eL t.2.1 2000 Hi)]) hC (c_Ha_appendU l D t ts qp qt qn 0 T F 0 40 0 4 (by omega) (by omega) (by omega) (by omega) (by decide) hT hF 1 (by omega) _) (cw_V hC k_133 k_134 k_135 k_5 k_136 ye_Ha_append (by decide)) hP hD hK hE hS hA [4, 5, 6] [0, 1, 2, 3] (by decide) rfl rfl (by decide) (by decide) 4 (ci := 0) rfl rfl rfl rfl hl.1 rfl (Nat.le_of_ble_eq_true rfl) ⟨Nat.le_of_ble_eq_true rfl, Nat.le_of_ble_eq_true rfl⟩ d_X_seed_52 (fun u4 H locs eu4 hP hD hS => ?_)
          obtain ⟨u4T, u4N⟩ := u4
          obtain ⟨eu4T, eu4N⟩ := eu4
          dsimp only at eu4T eu4N hP hD
          have hu4T : bT u4T := by rw [eu4T]; exact bT_uZ hT (by decide)
          have hu4N : bF u4N := by rw [eu4N]; exact bF_wrN hF bF_UNITS
          have hP : va_P D classes [(x, .inr (4, [.ref qs, .ref qr, .ref qw, .ref qg, .ref qu, .ref qp, sp, .int (iI 0)])), (qs, .inr (2, [.ref ql, .ref qh])), (ql, eL t.2.1 2000 Lo), (qh, eL t.2.1 2000 Hi), (qp, .inr (0, [.ref qt, .ref qn, .int (iI 1)])), (qt, eI t.1 400 u4T), (qn, eI t.1 4800 u4N)] H := hP
          have hD : va_D A [(x, .inr (4, [.ref qs, .ref qr, .ref qw, .ref qg, .ref qu, .ref qp, sp, .int (iI 0)])), (qs, .inr (2, [.ref ql, .ref qh])), (ql, eL t.2.1 2000 Lo), (qh, eL t.2.1 2000 Hi), (qp, .inr (0, [.ref qt, .ref qn, .int (iI 1)])), (qt, eI t.1 400 u4T), (qn, eI t.1 4800 u4N)] := hD
          refine z_goto (tgt := 79) hC d_X_seed_55 (by decide) ?_
          refine lv_aload_n hC.1 hC.2.1 d_X_seed_79 rfl (lv_at hl 0 rfl) ?_
          refine z_get (ci := 4) (C := R_X) (T := F_X) (N := 8) (v := .ref qs) hC in_X hK hP 0 rfl rfl 0 (by decide) k_98 rfl d_X_seed_80 ?_
          refine lv_aload_n hC.1 hC.2.1 d_X_seed_83 rfl (lv_at hl 0 rfl) ?_
          refine z_get (ci := 4) (C := R_X) (T := F_X) (N := 8) (v := .ref qp) hC in_X hK hP 0 rfl rfl 5 (by decide) k_103 rfl d_X_seed_84 ?_
          refine z_mVv (As := [.ref qp]) (rest := []) (wr := [(x, .inr (4, [.ref qs, .ref qr, .ref qw, .ref qg, .ref qu, .ref qp, sp, .int (iI 0)])), (qt, eI t.1 400 u4T)]) hC (c_St_measureAll l D t ts qs ql qh qp qt qn 1 Lo Hi u4N (by omega) hu4N _) (cw_V hC k_147 k_148 k_149 k_2 k_150 ye_St_measureAll (by decide)) hP hD hK hE hS hA [1, 2, 3, 4, 6] [0, 5] (by decide) rfl rfl (by decide) (by decide) 1 (ci := 2) rfl rfl rfl rfl hl.1 rfl (Nat.le_of_ble_eq_true rfl) ⟨Nat.le_of_ble_eq_true rfl, Nat.le_of_ble_eq_true rfl⟩ d_X_seed_87 (fun u5 H locs eu5 hP hD hS => ?_)
          obtain ⟨u5L, u5H⟩ := u5
          obtain ⟨eu5L, eu5H⟩ := eu5
          dsimp only at eu5L eu5H hP hD
          have hP : va_P D classes [(x, .inr (4, [.ref qs, .ref qr, .ref qw, .ref qg, .ref qu, .ref qp, sp, .int (iI 0)])), (qt, eI t.1 400 u4T), (qs, .inr (2, [.ref ql, .ref qh])), (ql, eL t.2.1 2000 u5L), (qh, eL t.2.1 2000 u5H), (qp, .inr (0, [.ref qt, .ref qn, .int (iI 1)])), (qn, eI t.1 4800 u4N)] H := hP
          have hD : va_D A [(x, .inr (4, [.ref qs, .ref qr, .ref qw, .ref qg, .ref qu, .ref qp, sp, .int (iI 0)])), (qt, eI t.1 400 u4T), (qs, .inr (2, [.ref ql, .ref qh])), (ql, eL t.2.1 2000 u5L), (qh, eL t.2.1 2000 u5H), (qp, .inr (0, [.ref qt, .ref qn, .int (iI 1)])), (qn, eI t.1 4800 u4N)] := hD
          refine lv_aload_n hC.1 hC.2.1 d_X_seed_90 rfl (lv_at hl 0 rfl) ?_
          refine z_get (ci := 4) (C := R_X) (T := F_X) (N := 8) (v := .ref qp) hC in_X hK hP 0 rfl rfl 5 (by decide) k_103 rfl d_X_seed_91 ?_
          refine z_getN (ci := 0) (C := R_Ha) (T := F_Ha) (N := 3) (v := .int (iI 1)) hC in_Ha hK hP 5 rfl rfl 2 (by decide) hE.1.2.2.2.2.1 rfl d_X_seed_94 ?_
          have hP9 := hP.sub (ws' := [(x, .inr (4, [.ref qs, .ref qr, .ref qw, .ref qg, .ref qu, .ref qp, sp, .int (iI 0)])), (qs, .inr (2, [.ref ql, .ref qh])), (ql, eL t.2.1 2000 u5L), (qh, eL t.2.1 2000 u5H), (qp, .inr (0, [.ref qt, .ref qn, .int (iI 1)])), (qt, eI t.1 400 u4T), (qn, eI t.1 4800 u4N)]) [0, 2, 3, 4, 5, 1, 6] rfl
          have hD9 := hD.sub (ws' := [(x, .inr (4, [.ref qs, .ref qr, .ref qw, .ref qg, .ref qu, .ref qp, sp, .int (iI 0)])), (qs, .inr (2, [.ref ql, .ref qh])), (ql, eL t.2.1 2000 u5L), (qh, eL t.2.1 2000 u5H), (qp, .inr (0, [.ref qt, .ref qn, .int (iI 1)])), (qt, eI t.1 400 u4T), (qn, eI t.1 4800 u4N)]) [0, 2, 3, 4, 5, 1, 6] (by decide) rfl
          exact retv (1, 1, 0, u4T, u4N, u5L, u5H) _ _ 97 _ _ d_X_seed_97 (by have ek : k = 1 := (by omega); exact ⟨rfl, Or.inr ⟨by omega, by rw [ek]; rfl, by rw [ek]; rfl, rfl, by rw [ek]; exact eu4T, by rw [ek]; exact eu4N, by rw [ek]; rw [eu5L, eu4N]; rfl, by rw [ek]; rw [eu5H, eu4N]; rfl, hu4T, hu4N⟩⟩) hP9 hD9 hS
      · refine lv_aload_n hC.1 hC.2.1 d_X_seed_28 rfl (lv_at hl 0 rfl) ?_
        refine z_mVv (As := []) (rest := []) (wr := [(qs, .inr (2, [.ref ql, .ref qh])), (ql, eL t.2.1 2000 Lo), (qh, eL t.2.1 2000 Hi)]) hC (c_X_layOutSun l D t ts x qs qr qw qg qu qp qt qn sp 0 T F hT hF _) (cw_V hC k_127 k_129 kp_0 k_1 k_130 ye_X_layOutSun (by decide)) hP hD hK hE hS hA [0, 4, 5, 6] [1, 2, 3] (by decide) rfl rfl (by decide) (by decide) 0 (ci := 4) rfl rfl rfl rfl hl.1 rfl (Nat.le_of_ble_eq_true rfl) ⟨Nat.le_of_ble_eq_true rfl, Nat.le_of_ble_eq_true rfl⟩ d_X_seed_29 (fun u6 H locs eu6 hP hD hS => ?_)
        obtain ⟨u6Z, u6T, u6N⟩ := u6
        obtain ⟨eu6Z, eu6T, eu6N, hu6T, hu6N⟩ := eu6
        dsimp only at eu6Z eu6T eu6N hu6T hu6N hP hD
        subst eu6Z
        have hP : va_P D classes [(qs, .inr (2, [.ref ql, .ref qh])), (ql, eL t.2.1 2000 Lo), (qh, eL t.2.1 2000 Hi), (x, .inr (4, [.ref qs, .ref qr, .ref qw, .ref qg, .ref qu, .ref qp, sp, .int (iI 0)])), (qp, .inr (0, [.ref qt, .ref qn, .int (iI 10)])), (qt, eI t.1 400 u6T), (qn, eI t.1 4800 u6N)] H := hP
        have hD : va_D A [(qs, .inr (2, [.ref ql, .ref qh])), (ql, eL t.2.1 2000 Lo), (qh, eL t.2.1 2000 Hi), (x, .inr (4, [.ref qs, .ref qr, .ref qw, .ref qg, .ref qu, .ref qp, sp, .int (iI 0)])), (qp, .inr (0, [.ref qt, .ref qn, .int (iI 10)])), (qt, eI t.1 400 u6T), (qn, eI t.1 4800 u6N)] := hD
        refine z_goto (tgt := 79) hC d_X_seed_32 (by decide) ?_
        refine lv_aload_n hC.1 hC.2.1 d_X_seed_79 rfl (lv_at hl 0 rfl) ?_
        refine z_get (ci := 4) (C := R_X) (T := F_X) (N := 8) (v := .ref qs) hC in_X hK hP 3 rfl rfl 0 (by decide) k_98 rfl d_X_seed_80 ?_
        refine lv_aload_n hC.1 hC.2.1 d_X_seed_83 rfl (lv_at hl 0 rfl) ?_
        refine z_get (ci := 4) (C := R_X) (T := F_X) (N := 8) (v := .ref qp) hC in_X hK hP 3 rfl rfl 5 (by decide) k_103 rfl d_X_seed_84 ?_
        refine z_mVv (As := [.ref qp]) (rest := []) (wr := [(x, .inr (4, [.ref qs, .ref qr, .ref qw, .ref qg, .ref qu, .ref qp, sp, .int (iI 0)])), (qt, eI t.1 400 u6T)]) hC (c_St_measureAll l D t ts qs ql qh qp qt qn 10 Lo Hi u6N (by omega) hu6N _) (cw_V hC k_147 k_148 k_149 k_2 k_150 ye_St_measureAll (by decide)) hP hD hK hE hS hA [0, 1, 2, 4, 6] [3, 5] (by decide) rfl rfl (by decide) (by decide) 0 (ci := 2) rfl rfl rfl rfl hl.1 rfl (Nat.le_of_ble_eq_true rfl) ⟨Nat.le_of_ble_eq_true rfl, Nat.le_of_ble_eq_true rfl⟩ d_X_seed_87 (fun u7 H locs eu7 hP hD hS => ?_)
        obtain ⟨u7L, u7H⟩ := u7
        obtain ⟨eu7L, eu7H⟩ := eu7
        dsimp only at eu7L eu7H hP hD
        have hP : va_P D classes [(x, .inr (4, [.ref qs, .ref qr, .ref qw, .ref qg, .ref qu, .ref qp, sp, .int (iI 0)])), (qt, eI t.1 400 u6T), (qs, .inr (2, [.ref ql, .ref qh])), (ql, eL t.2.1 2000 u7L), (qh, eL t.2.1 2000 u7H), (qp, .inr (0, [.ref qt, .ref qn, .int (iI 10)])), (qn, eI t.1 4800 u6N)] H := hP
        have hD : va_D A [(x, .inr (4, [.ref qs, .ref qr, .ref qw, .ref qg, .ref qu, .ref qp, sp, .int (iI 0)])), (qt, eI t.1 400 u6T), (qs, .inr (2, [.ref ql, .ref qh])), (ql, eL t.2.1 2000 u7L), (qh, eL t.2.1 2000 u7H), (qp, .inr (0, [.ref qt, .ref qn, .int (iI 10)])), (qn, eI t.1 4800 u6N)] := hD
        refine lv_aload_n hC.1 hC.2.1 d_X_seed_90 rfl (lv_at hl 0 rfl) ?_
        refine z_get (ci := 4) (C := R_X) (T := F_X) (N := 8) (v := .ref qp) hC in_X hK hP 0 rfl rfl 5 (by decide) k_103 rfl d_X_seed_91 ?_
        refine z_getN (ci := 0) (C := R_Ha) (T := F_Ha) (N := 3) (v := .int (iI 10)) hC in_Ha hK hP 5 rfl rfl 2 (by decide) hE.1.2.2.2.2.1 rfl d_X_seed_94 ?_
        have hP9 := hP.sub (ws' := [(x, .inr (4, [.ref qs, .ref qr, .ref qw, .ref qg, .ref qu, .ref qp, sp, .int (iI 0)])), (qs, .inr (2, [.ref ql, .ref qh])), (ql, eL t.2.1 2000 u7L), (qh, eL t.2.1 2000 u7H), (qp, .inr (0, [.ref qt, .ref qn, .int (iI 10)])), (qt, eI t.1 400 u6T), (qn, eI t.1 4800 u6N)]) [0, 2, 3, 4, 5, 1, 6] rfl
        have hD9 := hD.sub (ws' := [(x, .inr (4, [.ref qs, .ref qr, .ref qw, .ref qg, .ref qu, .ref qp, sp, .int (iI 0)])), (qs, .inr (2, [.ref ql, .ref qh])), (ql, eL t.2.1 2000 u7L), (qh, eL t.2.1 2000 u7H), (qp, .inr (0, [.ref qt, .ref qn, .int (iI 10)])), (qt, eI t.1 400 u6T), (qn, eI t.1 4800 u6N)]) [0, 2, 3, 4, 5, 1, 6] (by decide) rfl
        exact retv (10, 10, 0, u6T, u6N, u7L, u7H) _ _ 97 _ _ d_X_seed_97 (by have ek : k = 0 := (by omega); exact ⟨rfl, Or.inr ⟨by omega, by rw [ek]; rfl, by rw [ek]; rfl, rfl, by rw [ek]; exact eu6T, by rw [ek]; exact eu6N, by rw [ek]; rw [eu7L, eu6N]; rfl, by rw [ek]; rw [eu7H, eu6N]; rfl, hu6T, hu6N⟩⟩) hP9 hD9 hS
    · refine z_iconst hC d_X_seed_9 ?_
      have hP9 := hP.sub (ws' := [(x, .inr (4, [.ref qs, .ref qr, .ref qw, .ref qg, .ref qu, .ref qp, sp, .int (iI lv)])), (qs, .inr (2, [.ref ql, .ref qh])), (ql, eL t.2.1 2000 Lo), (qh, eL t.2.1 2000 Hi), (qp, .inr (0, [.ref qt, .ref qn, .int (iI z)])), (qt, eI t.1 400 T), (qn, eI t.1 4800 F)]) [0, 1, 2, 3, 4, 5, 6] rfl
      have hD9 := hD.sub (ws' := [(x, .inr (4, [.ref qs, .ref qr, .ref qw, .ref qg, .ref qu, .ref qp, sp, .int (iI lv)])), (qs, .inr (2, [.ref ql, .ref qh])), (ql, eL t.2.1 2000 Lo), (qh, eL t.2.1 2000 Hi), (qp, .inr (0, [.ref qt, .ref qn, .int (iI z)])), (qt, eI t.1 400 T), (qn, eI t.1 4800 F)]) [0, 1, 2, 3, 4, 5, 6] (by decide) rfl
      exact retv (-1, z, lv, T, F, Lo, Hi) _ _ 10 _ _ d_X_seed_10 ⟨rfl, Or.inl ⟨by omega, rfl, rfl, rfl, rfl, rfl, rfl, rfl⟩⟩ hP9 hD9 hS
theorem ye_Po_cut : ye y_Po_cut R_Po 4 := by unfold ye; decide +kernel
abbrev rm_Po_cut_a : Room := { frames := 2, cells := 0, slots := 0, locals := 50 }
set_option maxHeartbeats 4000000 in
set_option maxRecDepth 100000 in
theorem c_Po_cut_a (l : Launch) (D : va_G) (t : vt) (ts : Nat → Nat) (q : Nat) (F : Int → Int) (x0 x1 x2 x3 y0 y1 y2 y3 w0 w1 w2 w3 : Int) (ex0 : F 0 = x0) (ex1 : F 1 = x1) (ex2 : F 2 = x2) (ex3 : F 3 = x3) (ey0 : F 4 = y0) (ey1 : F 5 = y1) (ey2 : F 6 = y2) (ey3 : F 7 = y3) (f0 : w0 = (y1 - x1) - (y3 - x3) - (y0 - x0) + x0) (f1 : w1 = (y2 - x2) - (y3 - x3) + x1) (f2 : w2 = (y1 - x1) - (y0 - x0) + x2) (f3 : w3 = (y2 - x2) - (y0 - x0) - (y3 - x3) + x3) (sz : Nat) : Met l y_Po_cut (.code y_Po_cut b_Po_cut 5 none :: tb_ws) rm_Po_cut_a (MP D t ts [.ref q, .int (iI 0), .int (iI 4), .int (iI 12)] [(q, eI t.1 20 F)] sz) (va_Qv (fun u : Int → Int => u = st4 F 12 w0 w1 w2 w3) (MB D (va_A [(q, eI t.1 20 F)] sz) (fun u : Int → Int => [(q, eI t.1 20 u)])) (va_A [(q, eI t.1 20 F)] sz)) 0 0 (va_A [(q, eI t.1 20 F)] sz) := by
  refine m_v (by decide +kernel) (Nat.le_of_ble_eq_true rfl) ?_
  intro zp ze zs zm zb zt zc zQ A ls hC hA hP hK hD hE hS hl ret
  have hl : lv_has ls 5 [(0, .ref q), (1, .int (iI 0)), (2, .int (iI 4)), (3, .int (iI 12))] := hl
  refine z_iconst hC d_Po_cut_0 ?_
  refine lv_istore (lv' := [(4, .int (iI 0)), (0, .ref q), (1, .int (iI 0)), (2, .int (iI 4)), (3, .int (iI 12))]) hC.1 hC.2.1 d_Po_cut_1 hl (by decide) rfl (fun ls hl => ?_)
  refine lv_iload hC.1 hC.2.1 d_Po_cut_3 (lv_at hl 0 rfl) ?_
  refine z_iconst hC d_Po_cut_5 ?_
  refine z_icmp_ge (tgt := 34) hC d_Po_cut_6 (by decide) (by decide) (by decide) (fun h => absurd h (by decide)) (fun _ => ?_)
  refine lv_aload_n hC.1 hC.2.1 d_Po_cut_9 rfl (lv_at hl 1 rfl) ?_
  refine lv_iload_n hC.1 hC.2.1 d_Po_cut_10 rfl (lv_at hl 4 rfl) ?_
  refine lv_iload hC.1 hC.2.1 d_Po_cut_11 (lv_at hl 0 rfl) ?_
  refine z_iadd hC d_Po_cut_13 ?_
  refine z_topi (z := 12) (by omega) ?_
  refine lv_aload_n hC.1 hC.2.1 d_Po_cut_14 rfl (lv_at hl 1 rfl) ?_
  refine lv_iload_n hC.1 hC.2.1 d_Po_cut_15 rfl (lv_at hl 3 rfl) ?_
  refine lv_iload hC.1 hC.2.1 d_Po_cut_16 (lv_at hl 0 rfl) ?_
  refine z_iadd hC d_Po_cut_18 ?_
  refine z_topi (z := 4) (by omega) ?_
  refine z_iald hC hK hP 0 rfl (by omega) d_Po_cut_19 ?_
  refine lv_aload_n hC.1 hC.2.1 d_Po_cut_20 rfl (lv_at hl 1 rfl) ?_
  refine lv_iload_n hC.1 hC.2.1 d_Po_cut_21 rfl (lv_at hl 2 rfl) ?_
  refine lv_iload hC.1 hC.2.1 d_Po_cut_22 (lv_at hl 0 rfl) ?_
  refine z_iadd hC d_Po_cut_24 ?_
  refine z_topi (z := 0) (by omega) ?_
  refine z_iald hC hK hP 0 rfl (by omega) d_Po_cut_25 ?_
  refine z_isub hC d_Po_cut_26 ?_
  refine z_topi (z := -F 0 + F 4) (by omega) ?_
  refine z_iast (ws' := [(q, eI t.1 20 (uZ F 12 (-F 0 + F 4)))]) hC hK hP hD hS 0 rfl (by omega) rfl d_Po_cut_27 (fun H locs hP hD hS => ?_)
  refine lv_iinc (v := iI 1) (lv' := [(4, .int (iI 1)), (0, .ref q), (1, .int (iI 0)), (2, .int (iI 4)), (3, .int (iI 12))]) hC.1 hC.2.1 d_Po_cut_28 hl (k := 0) rfl (z_inc (by omega)) (by decide) rfl (fun ls hl => ?_)
  refine z_goto (tgt := 3) hC d_Po_cut_31 (by decide) ?_
  refine lv_iload hC.1 hC.2.1 d_Po_cut_3 (lv_at hl 0 rfl) ?_
  refine z_iconst hC d_Po_cut_5 ?_
  refine z_icmp_ge (tgt := 34) hC d_Po_cut_6 (by decide) (by decide) (by decide) (fun h => absurd h (by decide)) (fun _ => ?_)
  refine lv_aload_n hC.1 hC.2.1 d_Po_cut_9 rfl (lv_at hl 1 rfl) ?_
  refine lv_iload_n hC.1 hC.2.1 d_Po_cut_10 rfl (lv_at hl 4 rfl) ?_
  refine lv_iload hC.1 hC.2.1 d_Po_cut_11 (lv_at hl 0 rfl) ?_
  refine z_iadd hC d_Po_cut_13 ?_
  refine z_topi (z := 13) (by omega) ?_
  refine lv_aload_n hC.1 hC.2.1 d_Po_cut_14 rfl (lv_at hl 1 rfl) ?_
  refine lv_iload_n hC.1 hC.2.1 d_Po_cut_15 rfl (lv_at hl 3 rfl) ?_
  refine lv_iload hC.1 hC.2.1 d_Po_cut_16 (lv_at hl 0 rfl) ?_
  refine z_iadd hC d_Po_cut_18 ?_
  refine z_topi (z := 5) (by omega) ?_
  refine z_iald hC hK hP 0 rfl (by omega) d_Po_cut_19 ?_
  refine z_topi (z := F 5) (by rw [uZ_n (by omega)]) ?_
  refine lv_aload_n hC.1 hC.2.1 d_Po_cut_20 rfl (lv_at hl 1 rfl) ?_
  refine lv_iload_n hC.1 hC.2.1 d_Po_cut_21 rfl (lv_at hl 2 rfl) ?_
  refine lv_iload hC.1 hC.2.1 d_Po_cut_22 (lv_at hl 0 rfl) ?_
  refine z_iadd hC d_Po_cut_24 ?_
  refine z_topi (z := 1) (by omega) ?_
  refine z_iald hC hK hP 0 rfl (by omega) d_Po_cut_25 ?_
  refine z_topi (z := F 1) (by rw [uZ_n (by omega)]) ?_
  refine z_isub hC d_Po_cut_26 ?_
  refine z_topi (z := -F 1 + F 5) (by omega) ?_
  refine z_iast (ws' := [(q, eI t.1 20 (uZ (uZ F 12 (-F 0 + F 4)) 13 (-F 1 + F 5)))]) hC hK hP hD hS 0 rfl (by omega) rfl d_Po_cut_27 (fun H locs hP hD hS => ?_)
  refine lv_iinc (v := iI 2) (lv' := [(4, .int (iI 2)), (0, .ref q), (1, .int (iI 0)), (2, .int (iI 4)), (3, .int (iI 12))]) hC.1 hC.2.1 d_Po_cut_28 hl (k := 0) rfl (z_inc (by omega)) (by decide) rfl (fun ls hl => ?_)
  refine z_goto (tgt := 3) hC d_Po_cut_31 (by decide) ?_
  refine lv_iload hC.1 hC.2.1 d_Po_cut_3 (lv_at hl 0 rfl) ?_
  refine z_iconst hC d_Po_cut_5 ?_
  refine z_icmp_ge (tgt := 34) hC d_Po_cut_6 (by decide) (by decide) (by decide) (fun h => absurd h (by decide)) (fun _ => ?_)
  refine lv_aload_n hC.1 hC.2.1 d_Po_cut_9 rfl (lv_at hl 1 rfl) ?_
  refine lv_iload_n hC.1 hC.2.1 d_Po_cut_10 rfl (lv_at hl 4 rfl) ?_
  refine lv_iload hC.1 hC.2.1 d_Po_cut_11 (lv_at hl 0 rfl) ?_
  refine z_iadd hC d_Po_cut_13 ?_
  refine z_topi (z := 14) (by omega) ?_
  refine lv_aload_n hC.1 hC.2.1 d_Po_cut_14 rfl (lv_at hl 1 rfl) ?_
  refine lv_iload_n hC.1 hC.2.1 d_Po_cut_15 rfl (lv_at hl 3 rfl) ?_
  refine lv_iload hC.1 hC.2.1 d_Po_cut_16 (lv_at hl 0 rfl) ?_
  refine z_iadd hC d_Po_cut_18 ?_
  refine z_topi (z := 6) (by omega) ?_
  refine z_iald hC hK hP 0 rfl (by omega) d_Po_cut_19 ?_
  refine z_topi (z := F 6) (by rw [uZ_n (by omega), uZ_n (by omega)]) ?_
  refine lv_aload_n hC.1 hC.2.1 d_Po_cut_20 rfl (lv_at hl 1 rfl) ?_
  refine lv_iload_n hC.1 hC.2.1 d_Po_cut_21 rfl (lv_at hl 2 rfl) ?_
  refine lv_iload hC.1 hC.2.1 d_Po_cut_22 (lv_at hl 0 rfl) ?_
  refine z_iadd hC d_Po_cut_24 ?_
  refine z_topi (z := 2) (by omega) ?_
  refine z_iald hC hK hP 0 rfl (by omega) d_Po_cut_25 ?_
  refine z_topi (z := F 2) (by rw [uZ_n (by omega), uZ_n (by omega)]) ?_
  refine z_isub hC d_Po_cut_26 ?_
  refine z_topi (z := -F 2 + F 6) (by omega) ?_
  refine z_iast (ws' := [(q, eI t.1 20 (uZ (uZ (uZ F 12 (-F 0 + F 4)) 13 (-F 1 + F 5)) 14 (-F 2 + F 6)))]) hC hK hP hD hS 0 rfl (by omega) rfl d_Po_cut_27 (fun H locs hP hD hS => ?_)
  refine lv_iinc (v := iI 3) (lv' := [(4, .int (iI 3)), (0, .ref q), (1, .int (iI 0)), (2, .int (iI 4)), (3, .int (iI 12))]) hC.1 hC.2.1 d_Po_cut_28 hl (k := 0) rfl (z_inc (by omega)) (by decide) rfl (fun ls hl => ?_)
  refine z_goto (tgt := 3) hC d_Po_cut_31 (by decide) ?_
  refine lv_iload hC.1 hC.2.1 d_Po_cut_3 (lv_at hl 0 rfl) ?_
  refine z_iconst hC d_Po_cut_5 ?_
  refine z_icmp_ge (tgt := 34) hC d_Po_cut_6 (by decide) (by decide) (by decide) (fun h => absurd h (by decide)) (fun _ => ?_)
  refine lv_aload_n hC.1 hC.2.1 d_Po_cut_9 rfl (lv_at hl 1 rfl) ?_
  refine lv_iload_n hC.1 hC.2.1 d_Po_cut_10 rfl (lv_at hl 4 rfl) ?_
  refine lv_iload hC.1 hC.2.1 d_Po_cut_11 (lv_at hl 0 rfl) ?_
  refine z_iadd hC d_Po_cut_13 ?_
  refine z_topi (z := 15) (by omega) ?_
  refine lv_aload_n hC.1 hC.2.1 d_Po_cut_14 rfl (lv_at hl 1 rfl) ?_
  refine lv_iload_n hC.1 hC.2.1 d_Po_cut_15 rfl (lv_at hl 3 rfl) ?_
  refine lv_iload hC.1 hC.2.1 d_Po_cut_16 (lv_at hl 0 rfl) ?_
  refine z_iadd hC d_Po_cut_18 ?_
  refine z_topi (z := 7) (by omega) ?_
  refine z_iald hC hK hP 0 rfl (by omega) d_Po_cut_19 ?_
  refine z_topi (z := F 7) (by rw [uZ_n (by omega), uZ_n (by omega), uZ_n (by omega)]) ?_
  refine lv_aload_n hC.1 hC.2.1 d_Po_cut_20 rfl (lv_at hl 1 rfl) ?_
  refine lv_iload_n hC.1 hC.2.1 d_Po_cut_21 rfl (lv_at hl 2 rfl) ?_
  refine lv_iload hC.1 hC.2.1 d_Po_cut_22 (lv_at hl 0 rfl) ?_
  refine z_iadd hC d_Po_cut_24 ?_
  refine z_topi (z := 3) (by omega) ?_
  refine z_iald hC hK hP 0 rfl (by omega) d_Po_cut_25 ?_
  refine z_topi (z := F 3) (by rw [uZ_n (by omega), uZ_n (by omega), uZ_n (by omega)]) ?_
  refine z_isub hC d_Po_cut_26 ?_
  refine z_topi (z := -F 3 + F 7) (by omega) ?_
  refine z_iast (ws' := [(q, eI t.1 20 (uZ (uZ (uZ (uZ F 12 (-F 0 + F 4)) 13 (-F 1 + F 5)) 14 (-F 2 + F 6)) 15 (-F 3 + F 7)))]) hC hK hP hD hS 0 rfl (by omega) rfl d_Po_cut_27 (fun H locs hP hD hS => ?_)
  refine lv_iinc (v := iI 4) (lv' := [(4, .int (iI 4)), (0, .ref q), (1, .int (iI 0)), (2, .int (iI 4)), (3, .int (iI 12))]) hC.1 hC.2.1 d_Po_cut_28 hl (k := 0) rfl (z_inc (by omega)) (by decide) rfl (fun ls hl => ?_)
  refine z_goto (tgt := 3) hC d_Po_cut_31 (by decide) ?_
  refine lv_iload hC.1 hC.2.1 d_Po_cut_3 (lv_at hl 0 rfl) ?_
  refine z_iconst hC d_Po_cut_5 ?_
  refine z_icmp_ge (tgt := 34) hC d_Po_cut_6 (by decide) (by decide) (by decide) (fun _ => ?_) (fun h => absurd h (by decide))
  refine lv_aload_n hC.1 hC.2.1 d_Po_cut_34 rfl (lv_at hl 1 rfl) ?_
  refine lv_iload_n hC.1 hC.2.1 d_Po_cut_35 rfl (lv_at hl 4 rfl) ?_
  refine z_mSv (As := [.ref q, .int (iI 12)]) (rest := []) (wr := []) hC (c_Po_shrink l D t ts q 20 (uZ (uZ (uZ (uZ F 12 (-F 0 + F 4)) 13 (-F 1 + F 5)) 14 (-F 2 + F 6)) 15 (-F 3 + F 7)) 12 (-F 0 + F 4) (-F 1 + F 5) (-F 2 + F 6) (-F 3 + F 7) (F 0 - F 1 + F 3 - F 4 + F 5 - F 7) (-F 2 + F 3 + F 6 - F 7) (F 0 - F 1 - F 4 + F 5) (F 0 - F 2 + F 3 - F 4 + F 6 - F 7) (by decide) (by omega) (uZ_nt (by omega) (uZ_nt (by omega) (uZ_nt (by omega) (uZ_et (by omega))))) (uZ_nt (by omega) (uZ_nt (by omega) (uZ_et (by omega)))) (uZ_nt (by omega) (uZ_et (by omega))) (uZ_et (by omega)) (by omega) (by omega) (by omega) (by omega) _) (cw_S hC k_264 k_265 k_8 k_266 ye_Po_shrink (by decide)) hP hD hK hE hS hA [0] [] (by decide) rfl rfl (by decide) (by decide) rfl hl.1 rfl (Nat.le_of_ble_eq_true rfl) ⟨Nat.le_of_ble_eq_true rfl, Nat.le_of_ble_eq_true rfl⟩ d_Po_cut_36 (fun u1 H locs eu1 hP hD hS => ?_)
  subst eu1
  have hP : va_P D classes [(q, eI t.1 20 (uZ (uZ (uZ (uZ (uZ (uZ (uZ (uZ F 12 (-F 0 + F 4)) 13 (-F 1 + F 5)) 14 (-F 2 + F 6)) 15 (-F 3 + F 7)) 12 (F 0 - F 1 + F 3 - F 4 + F 5 - F 7)) 13 (-F 2 + F 3 + F 6 - F 7)) 14 (F 0 - F 1 - F 4 + F 5)) 15 (F 0 - F 2 + F 3 - F 4 + F 6 - F 7)))] H := hP
  have hD : va_D A [(q, eI t.1 20 (uZ (uZ (uZ (uZ (uZ (uZ (uZ (uZ F 12 (-F 0 + F 4)) 13 (-F 1 + F 5)) 14 (-F 2 + F 6)) 15 (-F 3 + F 7)) 12 (F 0 - F 1 + F 3 - F 4 + F 5 - F 7)) 13 (-F 2 + F 3 + F 6 - F 7)) 14 (F 0 - F 1 - F 4 + F 5)) 15 (F 0 - F 2 + F 3 - F 4 + F 6 - F 7)))] := hD
  refine z_iconst hC d_Po_cut_39 ?_
  refine lv_istore (lv' := [(4, .int (iI 0)), (0, .ref q), (1, .int (iI 0)), (2, .int (iI 4)), (3, .int (iI 12))]) hC.1 hC.2.1 d_Po_cut_40 hl (by decide) rfl (fun ls hl => ?_)
  refine lv_iload hC.1 hC.2.1 d_Po_cut_42 (lv_at hl 0 rfl) ?_
  refine z_iconst hC d_Po_cut_44 ?_
  refine z_icmp_ge (tgt := 69) hC d_Po_cut_45 (by decide) (by decide) (by decide) (fun h => absurd h (by decide)) (fun _ => ?_)
  refine lv_aload_n hC.1 hC.2.1 d_Po_cut_48 rfl (lv_at hl 1 rfl) ?_
  refine lv_iload_n hC.1 hC.2.1 d_Po_cut_49 rfl (lv_at hl 4 rfl) ?_
  refine lv_iload hC.1 hC.2.1 d_Po_cut_50 (lv_at hl 0 rfl) ?_
  refine z_iadd hC d_Po_cut_52 ?_
  refine z_topi (z := 12) (by omega) ?_
  refine lv_dup2_11 hC.1 hC.2.1 d_Po_cut_53 rfl rfl ?_
  refine z_iald hC hK hP 0 rfl (by omega) d_Po_cut_54 ?_
  refine z_topi (z := F 0 - F 1 + F 3 - F 4 + F 5 - F 7) (by rw [uZ_n (by omega), uZ_n (by omega), uZ_n (by omega), uZ_s]) ?_
  refine lv_aload_n hC.1 hC.2.1 d_Po_cut_55 rfl (lv_at hl 1 rfl) ?_
  refine lv_iload_n hC.1 hC.2.1 d_Po_cut_56 rfl (lv_at hl 2 rfl) ?_
  refine lv_iload hC.1 hC.2.1 d_Po_cut_57 (lv_at hl 0 rfl) ?_
  refine z_iadd hC d_Po_cut_59 ?_
  refine z_topi (z := 0) (by omega) ?_
  refine z_iald hC hK hP 0 rfl (by omega) d_Po_cut_60 ?_
  refine z_topi (z := F 0) (by rw [uZ_n (by omega), uZ_n (by omega), uZ_n (by omega), uZ_n (by omega), uZ_n (by omega), uZ_n (by omega), uZ_n (by omega), uZ_n (by omega)]) ?_
  refine z_iadd hC d_Po_cut_61 ?_
  refine z_topi (z := 2 * F 0 - F 1 + F 3 - F 4 + F 5 - F 7) (by omega) ?_
  refine z_iast (ws' := [(q, eI t.1 20 (uZ (uZ (uZ (uZ (uZ (uZ (uZ (uZ (uZ F 12 (-F 0 + F 4)) 13 (-F 1 + F 5)) 14 (-F 2 + F 6)) 15 (-F 3 + F 7)) 12 (F 0 - F 1 + F 3 - F 4 + F 5 - F 7)) 13 (-F 2 + F 3 + F 6 - F 7)) 14 (F 0 - F 1 - F 4 + F 5)) 15 (F 0 - F 2 + F 3 - F 4 + F 6 - F 7)) 12 (2 * F 0 - F 1 + F 3 - F 4 + F 5 - F 7)))]) hC hK hP hD hS 0 rfl (by omega) rfl d_Po_cut_62 (fun H locs hP hD hS => ?_)
  refine lv_iinc (v := iI 1) (lv' := [(4, .int (iI 1)), (0, .ref q), (1, .int (iI 0)), (2, .int (iI 4)), (3, .int (iI 12))]) hC.1 hC.2.1 d_Po_cut_63 hl (k := 0) rfl (z_inc (by omega)) (by decide) rfl (fun ls hl => ?_)
  refine z_goto (tgt := 42) hC d_Po_cut_66 (by decide) ?_
  refine lv_iload hC.1 hC.2.1 d_Po_cut_42 (lv_at hl 0 rfl) ?_
  refine z_iconst hC d_Po_cut_44 ?_
  refine z_icmp_ge (tgt := 69) hC d_Po_cut_45 (by decide) (by decide) (by decide) (fun h => absurd h (by decide)) (fun _ => ?_)
  refine lv_aload_n hC.1 hC.2.1 d_Po_cut_48 rfl (lv_at hl 1 rfl) ?_
  refine lv_iload_n hC.1 hC.2.1 d_Po_cut_49 rfl (lv_at hl 4 rfl) ?_
  refine lv_iload hC.1 hC.2.1 d_Po_cut_50 (lv_at hl 0 rfl) ?_
  refine z_iadd hC d_Po_cut_52 ?_
  refine z_topi (z := 13) (by omega) ?_
  refine lv_dup2_11 hC.1 hC.2.1 d_Po_cut_53 rfl rfl ?_
  refine z_iald hC hK hP 0 rfl (by omega) d_Po_cut_54 ?_
  refine z_topi (z := -F 2 + F 3 + F 6 - F 7) (by rw [uZ_n (by omega), uZ_n (by omega), uZ_n (by omega), uZ_s]) ?_
  refine lv_aload_n hC.1 hC.2.1 d_Po_cut_55 rfl (lv_at hl 1 rfl) ?_
  refine lv_iload_n hC.1 hC.2.1 d_Po_cut_56 rfl (lv_at hl 2 rfl) ?_
  refine lv_iload hC.1 hC.2.1 d_Po_cut_57 (lv_at hl 0 rfl) ?_
  refine z_iadd hC d_Po_cut_59 ?_
  refine z_topi (z := 1) (by omega) ?_
  refine z_iald hC hK hP 0 rfl (by omega) d_Po_cut_60 ?_
  refine z_topi (z := F 1) (by rw [uZ_n (by omega), uZ_n (by omega), uZ_n (by omega), uZ_n (by omega), uZ_n (by omega), uZ_n (by omega), uZ_n (by omega), uZ_n (by omega), uZ_n (by omega)]) ?_
  refine z_iadd hC d_Po_cut_61 ?_
  refine z_topi (z := F 1 - F 2 + F 3 + F 6 - F 7) (by omega) ?_
  refine z_iast (ws' := [(q, eI t.1 20 (uZ (uZ (uZ (uZ (uZ (uZ (uZ (uZ (uZ (uZ F 12 (-F 0 + F 4)) 13 (-F 1 + F 5)) 14 (-F 2 + F 6)) 15 (-F 3 + F 7)) 12 (F 0 - F 1 + F 3 - F 4 + F 5 - F 7)) 13 (-F 2 + F 3 + F 6 - F 7)) 14 (F 0 - F 1 - F 4 + F 5)) 15 (F 0 - F 2 + F 3 - F 4 + F 6 - F 7)) 12 (2 * F 0 - F 1 + F 3 - F 4 + F 5 - F 7)) 13 (F 1 - F 2 + F 3 + F 6 - F 7)))]) hC hK hP hD hS 0 rfl (by omega) rfl d_Po_cut_62 (fun H locs hP hD hS => ?_)
  refine lv_iinc (v := iI 2) (lv' := [(4, .int (iI 2)), (0, .ref q), (1, .int (iI 0)), (2, .int (iI 4)), (3, .int (iI 12))]) hC.1 hC.2.1 d_Po_cut_63 hl (k := 0) rfl (z_inc (by omega)) (by decide) rfl (fun ls hl => ?_)
  refine z_goto (tgt := 42) hC d_Po_cut_66 (by decide) ?_
  refine lv_iload hC.1 hC.2.1 d_Po_cut_42 (lv_at hl 0 rfl) ?_
  refine z_iconst hC d_Po_cut_44 ?_
  refine z_icmp_ge (tgt := 69) hC d_Po_cut_45 (by decide) (by decide) (by decide) (fun h => absurd h (by decide)) (fun _ => ?_)
  refine lv_aload_n hC.1 hC.2.1 d_Po_cut_48 rfl (lv_at hl 1 rfl) ?_
  refine lv_iload_n hC.1 hC.2.1 d_Po_cut_49 rfl (lv_at hl 4 rfl) ?_
  refine lv_iload hC.1 hC.2.1 d_Po_cut_50 (lv_at hl 0 rfl) ?_
  refine z_iadd hC d_Po_cut_52 ?_
  refine z_topi (z := 14) (by omega) ?_
  refine lv_dup2_11 hC.1 hC.2.1 d_Po_cut_53 rfl rfl ?_
  refine z_iald hC hK hP 0 rfl (by omega) d_Po_cut_54 ?_
  refine z_topi (z := F 0 - F 1 - F 4 + F 5) (by rw [uZ_n (by omega), uZ_n (by omega), uZ_n (by omega), uZ_s]) ?_
  refine lv_aload_n hC.1 hC.2.1 d_Po_cut_55 rfl (lv_at hl 1 rfl) ?_
  refine lv_iload_n hC.1 hC.2.1 d_Po_cut_56 rfl (lv_at hl 2 rfl) ?_
  refine lv_iload hC.1 hC.2.1 d_Po_cut_57 (lv_at hl 0 rfl) ?_
  refine z_iadd hC d_Po_cut_59 ?_
  refine z_topi (z := 2) (by omega) ?_
  refine z_iald hC hK hP 0 rfl (by omega) d_Po_cut_60 ?_
  refine z_topi (z := F 2) (by rw [uZ_n (by omega), uZ_n (by omega), uZ_n (by omega), uZ_n (by omega), uZ_n (by omega), uZ_n (by omega), uZ_n (by omega), uZ_n (by omega), uZ_n (by omega), uZ_n (by omega)]) ?_
  refine z_iadd hC d_Po_cut_61 ?_
  refine z_topi (z := F 0 - F 1 + F 2 - F 4 + F 5) (by omega) ?_
  refine z_iast (ws' := [(q, eI t.1 20 (uZ (uZ (uZ (uZ (uZ (uZ (uZ (uZ (uZ (uZ (uZ F 12 (-F 0 + F 4)) 13 (-F 1 + F 5)) 14 (-F 2 + F 6)) 15 (-F 3 + F 7)) 12 (F 0 - F 1 + F 3 - F 4 + F 5 - F 7)) 13 (-F 2 + F 3 + F 6 - F 7)) 14 (F 0 - F 1 - F 4 + F 5)) 15 (F 0 - F 2 + F 3 - F 4 + F 6 - F 7)) 12 (2 * F 0 - F 1 + F 3 - F 4 + F 5 - F 7)) 13 (F 1 - F 2 + F 3 + F 6 - F 7)) 14 (F 0 - F 1 + F 2 - F 4 + F 5)))]) hC hK hP hD hS 0 rfl (by omega) rfl d_Po_cut_62 (fun H locs hP hD hS => ?_)
  refine lv_iinc (v := iI 3) (lv' := [(4, .int (iI 3)), (0, .ref q), (1, .int (iI 0)), (2, .int (iI 4)), (3, .int (iI 12))]) hC.1 hC.2.1 d_Po_cut_63 hl (k := 0) rfl (z_inc (by omega)) (by decide) rfl (fun ls hl => ?_)
  refine z_goto (tgt := 42) hC d_Po_cut_66 (by decide) ?_
  refine lv_iload hC.1 hC.2.1 d_Po_cut_42 (lv_at hl 0 rfl) ?_
  refine z_iconst hC d_Po_cut_44 ?_
  refine z_icmp_ge (tgt := 69) hC d_Po_cut_45 (by decide) (by decide) (by decide) (fun h => absurd h (by decide)) (fun _ => ?_)
  refine lv_aload_n hC.1 hC.2.1 d_Po_cut_48 rfl (lv_at hl 1 rfl) ?_
  refine lv_iload_n hC.1 hC.2.1 d_Po_cut_49 rfl (lv_at hl 4 rfl) ?_
  refine lv_iload hC.1 hC.2.1 d_Po_cut_50 (lv_at hl 0 rfl) ?_
  refine z_iadd hC d_Po_cut_52 ?_
  refine z_topi (z := 15) (by omega) ?_
  refine lv_dup2_11 hC.1 hC.2.1 d_Po_cut_53 rfl rfl ?_
  refine z_iald hC hK hP 0 rfl (by omega) d_Po_cut_54 ?_
  refine z_topi (z := F 0 - F 2 + F 3 - F 4 + F 6 - F 7) (by rw [uZ_n (by omega), uZ_n (by omega), uZ_n (by omega), uZ_s]) ?_
  refine lv_aload_n hC.1 hC.2.1 d_Po_cut_55 rfl (lv_at hl 1 rfl) ?_
  refine lv_iload_n hC.1 hC.2.1 d_Po_cut_56 rfl (lv_at hl 2 rfl) ?_
  refine lv_iload hC.1 hC.2.1 d_Po_cut_57 (lv_at hl 0 rfl) ?_
  refine z_iadd hC d_Po_cut_59 ?_
  refine z_topi (z := 3) (by omega) ?_
  refine z_iald hC hK hP 0 rfl (by omega) d_Po_cut_60 ?_
  refine z_topi (z := F 3) (by rw [uZ_n (by omega), uZ_n (by omega), uZ_n (by omega), uZ_n (by omega), uZ_n (by omega), uZ_n (by omega), uZ_n (by omega), uZ_n (by omega), uZ_n (by omega), uZ_n (by omega), uZ_n (by omega)]) ?_
  refine z_iadd hC d_Po_cut_61 ?_
  refine z_topi (z := F 0 - F 2 + 2 * F 3 - F 4 + F 6 - F 7) (by omega) ?_
  refine z_iast (ws' := [(q, eI t.1 20 (uZ (uZ (uZ (uZ (uZ (uZ (uZ (uZ (uZ (uZ (uZ (uZ F 12 (-F 0 + F 4)) 13 (-F 1 + F 5)) 14 (-F 2 + F 6)) 15 (-F 3 + F 7)) 12 (F 0 - F 1 + F 3 - F 4 + F 5 - F 7)) 13 (-F 2 + F 3 + F 6 - F 7)) 14 (F 0 - F 1 - F 4 + F 5)) 15 (F 0 - F 2 + F 3 - F 4 + F 6 - F 7)) 12 (2 * F 0 - F 1 + F 3 - F 4 + F 5 - F 7)) 13 (F 1 - F 2 + F 3 + F 6 - F 7)) 14 (F 0 - F 1 + F 2 - F 4 + F 5)) 15 (F 0 - F 2 + 2 * F 3 - F 4 + F 6 - F 7)))]) hC hK hP hD hS 0 rfl (by omega) rfl d_Po_cut_62 (fun H locs hP hD hS => ?_)
  refine lv_iinc (v := iI 4) (lv' := [(4, .int (iI 4)), (0, .ref q), (1, .int (iI 0)), (2, .int (iI 4)), (3, .int (iI 12))]) hC.1 hC.2.1 d_Po_cut_63 hl (k := 0) rfl (z_inc (by omega)) (by decide) rfl (fun ls hl => ?_)
  refine z_goto (tgt := 42) hC d_Po_cut_66 (by decide) ?_
  refine lv_iload hC.1 hC.2.1 d_Po_cut_42 (lv_at hl 0 rfl) ?_
  refine z_iconst hC d_Po_cut_44 ?_
  refine z_icmp_ge (tgt := 69) hC d_Po_cut_45 (by decide) (by decide) (by decide) (fun _ => ?_) (fun h => absurd h (by decide))
  have hP9 := hP.sub (ws' := [(q, eI t.1 20 (uZ (uZ (uZ (uZ (uZ (uZ (uZ (uZ (uZ (uZ (uZ (uZ F 12 (-F 0 + F 4)) 13 (-F 1 + F 5)) 14 (-F 2 + F 6)) 15 (-F 3 + F 7)) 12 (F 0 - F 1 + F 3 - F 4 + F 5 - F 7)) 13 (-F 2 + F 3 + F 6 - F 7)) 14 (F 0 - F 1 - F 4 + F 5)) 15 (F 0 - F 2 + F 3 - F 4 + F 6 - F 7)) 12 (2 * F 0 - F 1 + F 3 - F 4 + F 5 - F 7)) 13 (F 1 - F 2 + F 3 + F 6 - F 7)) 14 (F 0 - F 1 + F 2 - F 4 + F 5)) 15 (F 0 - F 2 + 2 * F 3 - F 4 + F 6 - F 7)))]) [0] rfl
  have hD9 := hD.sub (ws' := [(q, eI t.1 20 (uZ (uZ (uZ (uZ (uZ (uZ (uZ (uZ (uZ (uZ (uZ (uZ F 12 (-F 0 + F 4)) 13 (-F 1 + F 5)) 14 (-F 2 + F 6)) 15 (-F 3 + F 7)) 12 (F 0 - F 1 + F 3 - F 4 + F 5 - F 7)) 13 (-F 2 + F 3 + F 6 - F 7)) 14 (F 0 - F 1 - F 4 + F 5)) 15 (F 0 - F 2 + F 3 - F 4 + F 6 - F 7)) 12 (2 * F 0 - F 1 + F 3 - F 4 + F 5 - F 7)) 13 (F 1 - F 2 + F 3 + F 6 - F 7)) 14 (F 0 - F 1 + F 2 - F 4 + F 5)) 15 (F 0 - F 2 + 2 * F 3 - F 4 + F 6 - F 7)))]) [0] (by decide) rfl
  exact ret (uZ (uZ (uZ (uZ (uZ (uZ (uZ (uZ (uZ (uZ (uZ (uZ F 12 (-F 0 + F 4)) 13 (-F 1 + F 5)) 14 (-F 2 + F 6)) 15 (-F 3 + F 7)) 12 (F 0 - F 1 + F 3 - F 4 + F 5 - F 7)) 13 (-F 2 + F 3 + F 6 - F 7)) 14 (F 0 - F 1 - F 4 + F 5)) 15 (F 0 - F 2 + F 3 - F 4 + F 6 - F 7)) 12 (2 * F 0 - F 1 + F 3 - F 4 + F 5 - F 7)) 13 (F 1 - F 2 + F 3 + F 6 - F 7)) 14 (F 0 - F 1 + F 2 - F 4 + F 5)) 15 (F 0 - F 2 + 2 * F 3 - F 4 + F 6 - F 7)) _ _ 69 _ d_Po_cut_69 (by funext k; unfold st4 uZ; rcases (show k = 12 ∨ k = 13 ∨ k = 14 ∨ k = 15 ∨ (k ≠ 12 ∧ k ≠ 13 ∧ k ≠ 14 ∧ k ≠ 15) by omega) with rfl | rfl | rfl | rfl | ⟨g0, g1, g2, g3⟩; all_goals first | (simp [g0, g1, g2, g3]; done) | (simp; omega)) hP9 hD9 hS
abbrev rm_Po_cut_b : Room := { frames := 2, cells := 0, slots := 0, locals := 50 }
set_option maxHeartbeats 4000000 in
set_option maxRecDepth 100000 in
theorem c_Po_cut_b (l : Launch) (D : va_G) (t : vt) (ts : Nat → Nat) (q : Nat) (F : Int → Int) (x0 x1 x2 x3 y0 y1 y2 y3 w0 w1 w2 w3 : Int) (ex0 : F 4 = x0) (ex1 : F 5 = x1) (ex2 : F 6 = x2) (ex3 : F 7 = x3) (ey0 : F 0 = y0) (ey1 : F 1 = y1) (ey2 : F 2 = y2) (ey3 : F 3 = y3) (f0 : w0 = (y1 - x1) - (y3 - x3) - (y0 - x0) + x0) (f1 : w1 = (y2 - x2) - (y3 - x3) + x1) (f2 : w2 = (y1 - x1) - (y0 - x0) + x2) (f3 : w3 = (y2 - x2) - (y0 - x0) - (y3 - x3) + x3) (sz : Nat) : Met l y_Po_cut (.code y_Po_cut b_Po_cut 5 none :: tb_ws) rm_Po_cut_b (MP D t ts [.ref q, .int (iI 4), .int (iI 0), .int (iI 12)] [(q, eI t.1 20 F)] sz) (va_Qv (fun u : Int → Int => u = st4 F 12 w0 w1 w2 w3) (MB D (va_A [(q, eI t.1 20 F)] sz) (fun u : Int → Int => [(q, eI t.1 20 u)])) (va_A [(q, eI t.1 20 F)] sz)) 0 0 (va_A [(q, eI t.1 20 F)] sz) := by
  refine m_v (by decide +kernel) (Nat.le_of_ble_eq_true rfl) ?_
  intro zp ze zs zm zb zt zc zQ A ls hC hA hP hK hD hE hS hl ret
  have hl : lv_has ls 5 [(0, .ref q), (1, .int (iI 4)), (2, .int (iI 0)), (3, .int (iI 12))] := hl
  refine z_iconst hC d_Po_cut_0 ?_
  refine lv_istore (lv' := [(4, .int (iI 0)), (0, .ref q), (1, .int (iI 4)), (2, .int (iI 0)), (3, .int (iI 12))]) hC.1 hC.2.1 d_Po_cut_1 hl (by decide) rfl (fun ls hl => ?_)
  refine lv_iload hC.1 hC.2.1 d_Po_cut_3 (lv_at hl 0 rfl) ?_
  refine z_iconst hC d_Po_cut_5 ?_
  refine z_icmp_ge (tgt := 34) hC d_Po_cut_6 (by decide) (by decide) (by decide) (fun h => absurd h (by decide)) (fun _ => ?_)
  refine lv_aload_n hC.1 hC.2.1 d_Po_cut_9 rfl (lv_at hl 1 rfl) ?_
  refine lv_iload_n hC.1 hC.2.1 d_Po_cut_10 rfl (lv_at hl 4 rfl) ?_
  refine lv_iload hC.1 hC.2.1 d_Po_cut_11 (lv_at hl 0 rfl) ?_
  refine z_iadd hC d_Po_cut_13 ?_
  refine z_topi (z := 12) (by omega) ?_
  refine lv_aload_n hC.1 hC.2.1 d_Po_cut_14 rfl (lv_at hl 1 rfl) ?_
  refine lv_iload_n hC.1 hC.2.1 d_Po_cut_15 rfl (lv_at hl 3 rfl) ?_
  refine lv_iload hC.1 hC.2.1 d_Po_cut_16 (lv_at hl 0 rfl) ?_
  refine z_iadd hC d_Po_cut_18 ?_
  refine z_topi (z := 0) (by omega) ?_
  refine z_iald hC hK hP 0 rfl (by omega) d_Po_cut_19 ?_
  refine lv_aload_n hC.1 hC.2.1 d_Po_cut_20 rfl (lv_at hl 1 rfl) ?_
  refine lv_iload_n hC.1 hC.2.1 d_Po_cut_21 rfl (lv_at hl 2 rfl) ?_
  refine lv_iload hC.1 hC.2.1 d_Po_cut_22 (lv_at hl 0 rfl) ?_
  refine z_iadd hC d_Po_cut_24 ?_
  refine z_topi (z := 4) (by omega) ?_
  refine z_iald hC hK hP 0 rfl (by omega) d_Po_cut_25 ?_
  refine z_isub hC d_Po_cut_26 ?_
  refine z_topi (z := F 0 - F 4) (by omega) ?_
  refine z_iast (ws' := [(q, eI t.1 20 (uZ F 12 (F 0 - F 4)))]) hC hK hP hD hS 0 rfl (by omega) rfl d_Po_cut_27 (fun H locs hP hD hS => ?_)
  refine lv_iinc (v := iI 1) (lv' := [(4, .int (iI 1)), (0, .ref q), (1, .int (iI 4)), (2, .int (iI 0)), (3, .int (iI 12))]) hC.1 hC.2.1 d_Po_cut_28 hl (k := 0) rfl (z_inc (by omega)) (by decide) rfl (fun ls hl => ?_)
  refine z_goto (tgt := 3) hC d_Po_cut_31 (by decide) ?_
  refine lv_iload hC.1 hC.2.1 d_Po_cut_3 (lv_at hl 0 rfl) ?_
  refine z_iconst hC d_Po_cut_5 ?_
  refine z_icmp_ge (tgt := 34) hC d_Po_cut_6 (by decide) (by decide) (by decide) (fun h => absurd h (by decide)) (fun _ => ?_)
  refine lv_aload_n hC.1 hC.2.1 d_Po_cut_9 rfl (lv_at hl 1 rfl) ?_
  refine lv_iload_n hC.1 hC.2.1 d_Po_cut_10 rfl (lv_at hl 4 rfl) ?_
  refine lv_iload hC.1 hC.2.1 d_Po_cut_11 (lv_at hl 0 rfl) ?_
  refine z_iadd hC d_Po_cut_13 ?_
  refine z_topi (z := 13) (by omega) ?_
  refine lv_aload_n hC.1 hC.2.1 d_Po_cut_14 rfl (lv_at hl 1 rfl) ?_
  refine lv_iload_n hC.1 hC.2.1 d_Po_cut_15 rfl (lv_at hl 3 rfl) ?_
  refine lv_iload hC.1 hC.2.1 d_Po_cut_16 (lv_at hl 0 rfl) ?_
  refine z_iadd hC d_Po_cut_18 ?_
  refine z_topi (z := 1) (by omega) ?_
  refine z_iald hC hK hP 0 rfl (by omega) d_Po_cut_19 ?_
  refine z_topi (z := F 1) (by rw [uZ_n (by omega)]) ?_
  refine lv_aload_n hC.1 hC.2.1 d_Po_cut_20 rfl (lv_at hl 1 rfl) ?_
  refine lv_iload_n hC.1 hC.2.1 d_Po_cut_21 rfl (lv_at hl 2 rfl) ?_
  refine lv_iload hC.1 hC.2.1 d_Po_cut_22 (lv_at hl 0 rfl) ?_
  refine z_iadd hC d_Po_cut_24 ?_
  refine z_topi (z := 5) (by omega) ?_
  refine z_iald hC hK hP 0 rfl (by omega) d_Po_cut_25 ?_
  refine z_topi (z := F 5) (by rw [uZ_n (by omega)]) ?_
  refine z_isub hC d_Po_cut_26 ?_
  refine z_topi (z := F 1 - F 5) (by omega) ?_
  refine z_iast (ws' := [(q, eI t.1 20 (uZ (uZ F 12 (F 0 - F 4)) 13 (F 1 - F 5)))]) hC hK hP hD hS 0 rfl (by omega) rfl d_Po_cut_27 (fun H locs hP hD hS => ?_)
  refine lv_iinc (v := iI 2) (lv' := [(4, .int (iI 2)), (0, .ref q), (1, .int (iI 4)), (2, .int (iI 0)), (3, .int (iI 12))]) hC.1 hC.2.1 d_Po_cut_28 hl (k := 0) rfl (z_inc (by omega)) (by decide) rfl (fun ls hl => ?_)
  refine z_goto (tgt := 3) hC d_Po_cut_31 (by decide) ?_
  refine lv_iload hC.1 hC.2.1 d_Po_cut_3 (lv_at hl 0 rfl) ?_
  refine z_iconst hC d_Po_cut_5 ?_
  refine z_icmp_ge (tgt := 34) hC d_Po_cut_6 (by decide) (by decide) (by decide) (fun h => absurd h (by decide)) (fun _ => ?_)
  refine lv_aload_n hC.1 hC.2.1 d_Po_cut_9 rfl (lv_at hl 1 rfl) ?_
  refine lv_iload_n hC.1 hC.2.1 d_Po_cut_10 rfl (lv_at hl 4 rfl) ?_
  refine lv_iload hC.1 hC.2.1 d_Po_cut_11 (lv_at hl 0 rfl) ?_
  refine z_iadd hC d_Po_cut_13 ?_
  refine z_topi (z := 14) (by omega) ?_
  refine lv_aload_n hC.1 hC.2.1 d_Po_cut_14 rfl (lv_at hl 1 rfl) ?_
  refine lv_iload_n hC.1 hC.2.1 d_Po_cut_15 rfl (lv_at hl 3 rfl) ?_
  refine lv_iload hC.1 hC.2.1 d_Po_cut_16 (lv_at hl 0 rfl) ?_
  refine z_iadd hC d_Po_cut_18 ?_
  refine z_topi (z := 2) (by omega) ?_
  refine z_iald hC hK hP 0 rfl (by omega) d_Po_cut_19 ?_
  refine z_topi (z := F 2) (by rw [uZ_n (by omega), uZ_n (by omega)]) ?_
  refine lv_aload_n hC.1 hC.2.1 d_Po_cut_20 rfl (lv_at hl 1 rfl) ?_
  refine lv_iload_n hC.1 hC.2.1 d_Po_cut_21 rfl (lv_at hl 2 rfl) ?_
  refine lv_iload hC.1 hC.2.1 d_Po_cut_22 (lv_at hl 0 rfl) ?_
  refine z_iadd hC d_Po_cut_24 ?_
  refine z_topi (z := 6) (by omega) ?_
  refine z_iald hC hK hP 0 rfl (by omega) d_Po_cut_25 ?_
  refine z_topi (z := F 6) (by rw [uZ_n (by omega), uZ_n (by omega)]) ?_
  refine z_isub hC d_Po_cut_26 ?_
  refine z_topi (z := F 2 - F 6) (by omega) ?_
  refine z_iast (ws' := [(q, eI t.1 20 (uZ (uZ (uZ F 12 (F 0 - F 4)) 13 (F 1 - F 5)) 14 (F 2 - F 6)))]) hC hK hP hD hS 0 rfl (by omega) rfl d_Po_cut_27 (fun H locs hP hD hS => ?_)
  refine lv_iinc (v := iI 3) (lv' := [(4, .int (iI 3)), (0, .ref q), (1, .int (iI 4)), (2, .int (iI 0)), (3, .int (iI 12))]) hC.1 hC.2.1 d_Po_cut_28 hl (k := 0) rfl (z_inc (by omega)) (by decide) rfl (fun ls hl => ?_)
  refine z_goto (tgt := 3) hC d_Po_cut_31 (by decide) ?_
  refine lv_iload hC.1 hC.2.1 d_Po_cut_3 (lv_at hl 0 rfl) ?_
  refine z_iconst hC d_Po_cut_5 ?_
  refine z_icmp_ge (tgt := 34) hC d_Po_cut_6 (by decide) (by decide) (by decide) (fun h => absurd h (by decide)) (fun _ => ?_)
  refine lv_aload_n hC.1 hC.2.1 d_Po_cut_9 rfl (lv_at hl 1 rfl) ?_
  refine lv_iload_n hC.1 hC.2.1 d_Po_cut_10 rfl (lv_at hl 4 rfl) ?_
  refine lv_iload hC.1 hC.2.1 d_Po_cut_11 (lv_at hl 0 rfl) ?_
  refine z_iadd hC d_Po_cut_13 ?_
  refine z_topi (z := 15) (by omega) ?_
  refine lv_aload_n hC.1 hC.2.1 d_Po_cut_14 rfl (lv_at hl 1 rfl) ?_
  refine lv_iload_n hC.1 hC.2.1 d_Po_cut_15 rfl (lv_at hl 3 rfl) ?_
  refine lv_iload hC.1 hC.2.1 d_Po_cut_16 (lv_at hl 0 rfl) ?_
  refine z_iadd hC d_Po_cut_18 ?_
  refine z_topi (z := 3) (by omega) ?_
  refine z_iald hC hK hP 0 rfl (by omega) d_Po_cut_19 ?_
  refine z_topi (z := F 3) (by rw [uZ_n (by omega), uZ_n (by omega), uZ_n (by omega)]) ?_
  refine lv_aload_n hC.1 hC.2.1 d_Po_cut_20 rfl (lv_at hl 1 rfl) ?_
  refine lv_iload_n hC.1 hC.2.1 d_Po_cut_21 rfl (lv_at hl 2 rfl) ?_
  refine lv_iload hC.1 hC.2.1 d_Po_cut_22 (lv_at hl 0 rfl) ?_
  refine z_iadd hC d_Po_cut_24 ?_
  refine z_topi (z := 7) (by omega) ?_
  refine z_iald hC hK hP 0 rfl (by omega) d_Po_cut_25 ?_
  refine z_topi (z := F 7) (by rw [uZ_n (by omega), uZ_n (by omega), uZ_n (by omega)]) ?_
  refine z_isub hC d_Po_cut_26 ?_
  refine z_topi (z := F 3 - F 7) (by omega) ?_
  refine z_iast (ws' := [(q, eI t.1 20 (uZ (uZ (uZ (uZ F 12 (F 0 - F 4)) 13 (F 1 - F 5)) 14 (F 2 - F 6)) 15 (F 3 - F 7)))]) hC hK hP hD hS 0 rfl (by omega) rfl d_Po_cut_27 (fun H locs hP hD hS => ?_)
  refine lv_iinc (v := iI 4) (lv' := [(4, .int (iI 4)), (0, .ref q), (1, .int (iI 4)), (2, .int (iI 0)), (3, .int (iI 12))]) hC.1 hC.2.1 d_Po_cut_28 hl (k := 0) rfl (z_inc (by omega)) (by decide) rfl (fun ls hl => ?_)
  refine z_goto (tgt := 3) hC d_Po_cut_31 (by decide) ?_
  refine lv_iload hC.1 hC.2.1 d_Po_cut_3 (lv_at hl 0 rfl) ?_
  refine z_iconst hC d_Po_cut_5 ?_
  refine z_icmp_ge (tgt := 34) hC d_Po_cut_6 (by decide) (by decide) (by decide) (fun _ => ?_) (fun h => absurd h (by decide))
  refine lv_aload_n hC.1 hC.2.1 d_Po_cut_34 rfl (lv_at hl 1 rfl) ?_
  refine lv_iload_n hC.1 hC.2.1 d_Po_cut_35 rfl (lv_at hl 4 rfl) ?_
  refine z_mSv (As := [.ref q, .int (iI 12)]) (rest := []) (wr := []) hC (c_Po_shrink l D t ts q 20 (uZ (uZ (uZ (uZ F 12 (F 0 - F 4)) 13 (F 1 - F 5)) 14 (F 2 - F 6)) 15 (F 3 - F 7)) 12 (F 0 - F 4) (F 1 - F 5) (F 2 - F 6) (F 3 - F 7) (-F 0 + F 1 - F 3 + F 4 - F 5 + F 7) (F 2 - F 3 - F 6 + F 7) (-F 0 + F 1 + F 4 - F 5) (-F 0 + F 2 - F 3 + F 4 - F 6 + F 7) (by decide) (by omega) (uZ_nt (by omega) (uZ_nt (by omega) (uZ_nt (by omega) (uZ_et (by omega))))) (uZ_nt (by omega) (uZ_nt (by omega) (uZ_et (by omega)))) (uZ_nt (by omega) (uZ_et (by omega))) (uZ_et (by omega)) (by omega) (by omega) (by omega) (by omega) _) (cw_S hC k_264 k_265 k_8 k_266 ye_Po_shrink (by decide)) hP hD hK hE hS hA [0] [] (by decide) rfl rfl (by decide) (by decide) rfl hl.1 rfl (Nat.le_of_ble_eq_true rfl) ⟨Nat.le_of_ble_eq_true rfl, Nat.le_of_ble_eq_true rfl⟩ d_Po_cut_36 (fun u1 H locs eu1 hP hD hS => ?_)
  subst eu1
  have hP : va_P D classes [(q, eI t.1 20 (uZ (uZ (uZ (uZ (uZ (uZ (uZ (uZ F 12 (F 0 - F 4)) 13 (F 1 - F 5)) 14 (F 2 - F 6)) 15 (F 3 - F 7)) 12 (-F 0 + F 1 - F 3 + F 4 - F 5 + F 7)) 13 (F 2 - F 3 - F 6 + F 7)) 14 (-F 0 + F 1 + F 4 - F 5)) 15 (-F 0 + F 2 - F 3 + F 4 - F 6 + F 7)))] H := hP
  have hD : va_D A [(q, eI t.1 20 (uZ (uZ (uZ (uZ (uZ (uZ (uZ (uZ F 12 (F 0 - F 4)) 13 (F 1 - F 5)) 14 (F 2 - F 6)) 15 (F 3 - F 7)) 12 (-F 0 + F 1 - F 3 + F 4 - F 5 + F 7)) 13 (F 2 - F 3 - F 6 + F 7)) 14 (-F 0 + F 1 + F 4 - F 5)) 15 (-F 0 + F 2 - F 3 + F 4 - F 6 + F 7)))] := hD
  refine z_iconst hC d_Po_cut_39 ?_
  refine lv_istore (lv' := [(4, .int (iI 0)), (0, .ref q), (1, .int (iI 4)), (2, .int (iI 0)), (3, .int (iI 12))]) hC.1 hC.2.1 d_Po_cut_40 hl (by decide) rfl (fun ls hl => ?_)
  refine lv_iload hC.1 hC.2.1 d_Po_cut_42 (lv_at hl 0 rfl) ?_
  refine z_iconst hC d_Po_cut_44 ?_
  refine z_icmp_ge (tgt := 69) hC d_Po_cut_45 (by decide) (by decide) (by decide) (fun h => absurd h (by decide)) (fun _ => ?_)
  refine lv_aload_n hC.1 hC.2.1 d_Po_cut_48 rfl (lv_at hl 1 rfl) ?_
  refine lv_iload_n hC.1 hC.2.1 d_Po_cut_49 rfl (lv_at hl 4 rfl) ?_
  refine lv_iload hC.1 hC.2.1 d_Po_cut_50 (lv_at hl 0 rfl) ?_
  refine z_iadd hC d_Po_cut_52 ?_
  refine z_topi (z := 12) (by omega) ?_
  refine lv_dup2_11 hC.1 hC.2.1 d_Po_cut_53 rfl rfl ?_
  refine z_iald hC hK hP 0 rfl (by omega) d_Po_cut_54 ?_
  refine z_topi (z := -F 0 + F 1 - F 3 + F 4 - F 5 + F 7) (by rw [uZ_n (by omega), uZ_n (by omega), uZ_n (by omega), uZ_s]) ?_
  refine lv_aload_n hC.1 hC.2.1 d_Po_cut_55 rfl (lv_at hl 1 rfl) ?_
  refine lv_iload_n hC.1 hC.2.1 d_Po_cut_56 rfl (lv_at hl 2 rfl) ?_
  refine lv_iload hC.1 hC.2.1 d_Po_cut_57 (lv_at hl 0 rfl) ?_
  refine z_iadd hC d_Po_cut_59 ?_
  refine z_topi (z := 4) (by omega) ?_
  refine z_iald hC hK hP 0 rfl (by omega) d_Po_cut_60 ?_
  refine z_topi (z := F 4) (by rw [uZ_n (by omega), uZ_n (by omega), uZ_n (by omega), uZ_n (by omega), uZ_n (by omega), uZ_n (by omega), uZ_n (by omega), uZ_n (by omega)]) ?_
  refine z_iadd hC d_Po_cut_61 ?_
  refine z_topi (z := -F 0 + F 1 - F 3 + 2 * F 4 - F 5 + F 7) (by omega) ?_
  refine z_iast (ws' := [(q, eI t.1 20 (uZ (uZ (uZ (uZ (uZ (uZ (uZ (uZ (uZ F 12 (F 0 - F 4)) 13 (F 1 - F 5)) 14 (F 2 - F 6)) 15 (F 3 - F 7)) 12 (-F 0 + F 1 - F 3 + F 4 - F 5 + F 7)) 13 (F 2 - F 3 - F 6 + F 7)) 14 (-F 0 + F 1 + F 4 - F 5)) 15 (-F 0 + F 2 - F 3 + F 4 - F 6 + F 7)) 12 (-F 0 + F 1 - F 3 + 2 * F 4 - F 5 + F 7)))]) hC hK hP hD hS 0 rfl (by omega) rfl d_Po_cut_62 (fun H locs hP hD hS => ?_)
  refine lv_iinc (v := iI 1) (lv' := [(4, .int (iI 1)), (0, .ref q), (1, .int (iI 4)), (2, .int (iI 0)), (3, .int (iI 12))]) hC.1 hC.2.1 d_Po_cut_63 hl (k := 0) rfl (z_inc (by omega)) (by decide) rfl (fun ls hl => ?_)
  refine z_goto (tgt := 42) hC d_Po_cut_66 (by decide) ?_
  refine lv_iload hC.1 hC.2.1 d_Po_cut_42 (lv_at hl 0 rfl) ?_
  refine z_iconst hC d_Po_cut_44 ?_
  refine z_icmp_ge (tgt := 69) hC d_Po_cut_45 (by decide) (by decide) (by decide) (fun h => absurd h (by decide)) (fun _ => ?_)
  refine lv_aload_n hC.1 hC.2.1 d_Po_cut_48 rfl (lv_at hl 1 rfl) ?_
  refine lv_iload_n hC.1 hC.2.1 d_Po_cut_49 rfl (lv_at hl 4 rfl) ?_
  refine lv_iload hC.1 hC.2.1 d_Po_cut_50 (lv_at hl 0 rfl) ?_
  refine z_iadd hC d_Po_cut_52 ?_
  refine z_topi (z := 13) (by omega) ?_
  refine lv_dup2_11 hC.1 hC.2.1 d_Po_cut_53 rfl rfl ?_
  refine z_iald hC hK hP 0 rfl (by omega) d_Po_cut_54 ?_
  refine z_topi (z := F 2 - F 3 - F 6 + F 7) (by rw [uZ_n (by omega), uZ_n (by omega), uZ_n (by omega), uZ_s]) ?_
  refine lv_aload_n hC.1 hC.2.1 d_Po_cut_55 rfl (lv_at hl 1 rfl) ?_
  refine lv_iload_n hC.1 hC.2.1 d_Po_cut_56 rfl (lv_at hl 2 rfl) ?_
  refine lv_iload hC.1 hC.2.1 d_Po_cut_57 (lv_at hl 0 rfl) ?_
  refine z_iadd hC d_Po_cut_59 ?_
  refine z_topi (z := 5) (by omega) ?_
  refine z_iald hC hK hP 0 rfl (by omega) d_Po_cut_60 ?_
  refine z_topi (z := F 5) (by rw [uZ_n (by omega), uZ_n (by omega), uZ_n (by omega), uZ_n (by omega), uZ_n (by omega), uZ_n (by omega), uZ_n (by omega), uZ_n (by omega), uZ_n (by omega)]) ?_
  refine z_iadd hC d_Po_cut_61 ?_
  refine z_topi (z := F 2 - F 3 + F 5 - F 6 + F 7) (by omega) ?_
  refine z_iast (ws' := [(q, eI t.1 20 (uZ (uZ (uZ (uZ (uZ (uZ (uZ (uZ (uZ (uZ F 12 (F 0 - F 4)) 13 (F 1 - F 5)) 14 (F 2 - F 6)) 15 (F 3 - F 7)) 12 (-F 0 + F 1 - F 3 + F 4 - F 5 + F 7)) 13 (F 2 - F 3 - F 6 + F 7)) 14 (-F 0 + F 1 + F 4 - F 5)) 15 (-F 0 + F 2 - F 3 + F 4 - F 6 + F 7)) 12 (-F 0 + F 1 - F 3 + 2 * F 4 - F 5 + F 7)) 13 (F 2 - F 3 + F 5 - F 6 + F 7)))]) hC hK hP hD hS 0 rfl (by omega) rfl d_Po_cut_62 (fun H locs hP hD hS => ?_)
  refine lv_iinc (v := iI 2) (lv' := [(4, .int (iI 2)), (0, .ref q), (1, .int (iI 4)), (2, .int (iI 0)), (3, .int (iI 12))]) hC.1 hC.2.1 d_Po_cut_63 hl (k := 0) rfl (z_inc (by omega)) (by decide) rfl (fun ls hl => ?_)
  refine z_goto (tgt := 42) hC d_Po_cut_66 (by decide) ?_
  refine lv_iload hC.1 hC.2.1 d_Po_cut_42 (lv_at hl 0 rfl) ?_
  refine z_iconst hC d_Po_cut_44 ?_
  refine z_icmp_ge (tgt := 69) hC d_Po_cut_45 (by decide) (by decide) (by decide) (fun h => absurd h (by decide)) (fun _ => ?_)
  refine lv_aload_n hC.1 hC.2.1 d_Po_cut_48 rfl (lv_at hl 1 rfl) ?_
  refine lv_iload_n hC.1 hC.2.1 d_Po_cut_49 rfl (lv_at hl 4 rfl) ?_
  refine lv_iload hC.1 hC.2.1 d_Po_cut_50 (lv_at hl 0 rfl) ?_
  refine z_iadd hC d_Po_cut_52 ?_
  refine z_topi (z := 14) (by omega) ?_
  refine lv_dup2_11 hC.1 hC.2.1 d_Po_cut_53 rfl rfl ?_
  refine z_iald hC hK hP 0 rfl (by omega) d_Po_cut_54 ?_
  refine z_topi (z := -F 0 + F 1 + F 4 - F 5) (by rw [uZ_n (by omega), uZ_n (by omega), uZ_n (by omega), uZ_s]) ?_
  refine lv_aload_n hC.1 hC.2.1 d_Po_cut_55 rfl (lv_at hl 1 rfl) ?_
  refine lv_iload_n hC.1 hC.2.1 d_Po_cut_56 rfl (lv_at hl 2 rfl) ?_
  refine lv_iload hC.1 hC.2.1 d_Po_cut_57 (lv_at hl 0 rfl) ?_
  refine z_iadd hC d_Po_cut_59 ?_
  refine z_topi (z := 6) (by omega) ?_
  refine z_iald hC hK hP 0 rfl (by omega) d_Po_cut_60 ?_
  refine z_topi (z := F 6) (by rw [uZ_n (by omega), uZ_n (by omega), uZ_n (by omega), uZ_n (by omega), uZ_n (by omega), uZ_n (by omega), uZ_n (by omega), uZ_n (by omega), uZ_n (by omega), uZ_n (by omega)]) ?_
  refine z_iadd hC d_Po_cut_61 ?_
  refine z_topi (z := -F 0 + F 1 + F 4 - F 5 + F 6) (by omega) ?_
  refine z_iast (ws' := [(q, eI t.1 20 (uZ (uZ (uZ (uZ (uZ (uZ (uZ (uZ (uZ (uZ (uZ F 12 (F 0 - F 4)) 13 (F 1 - F 5)) 14 (F 2 - F 6)) 15 (F 3 - F 7)) 12 (-F 0 + F 1 - F 3 + F 4 - F 5 + F 7)) 13 (F 2 - F 3 - F 6 + F 7)) 14 (-F 0 + F 1 + F 4 - F 5)) 15 (-F 0 + F 2 - F 3 + F 4 - F 6 + F 7)) 12 (-F 0 + F 1 - F 3 + 2 * F 4 - F 5 + F 7)) 13 (F 2 - F 3 + F 5 - F 6 + F 7)) 14 (-F 0 + F 1 + F 4 - F 5 + F 6)))]) hC hK hP hD hS 0 rfl (by omega) rfl d_Po_cut_62 (fun H locs hP hD hS => ?_)
  refine lv_iinc (v := iI 3) (lv' := [(4, .int (iI 3)), (0, .ref q), (1, .int (iI 4)), (2, .int (iI 0)), (3, .int (iI 12))]) hC.1 hC.2.1 d_Po_cut_63 hl (k := 0) rfl (z_inc (by omega)) (by decide) rfl (fun ls hl => ?_)
  refine z_goto (tgt := 42) hC d_Po_cut_66 (by decide) ?_
  refine lv_iload hC.1 hC.2.1 d_Po_cut_42 (lv_at hl 0 rfl) ?_
  refine z_iconst hC d_Po_cut_44 ?_
  refine z_icmp_ge (tgt := 69) hC d_Po_cut_45 (by decide) (by decide) (by decide) (fun h => absurd h (by decide)) (fun _ => ?_)
  refine lv_aload_n hC.1 hC.2.1 d_Po_cut_48 rfl (lv_at hl 1 rfl) ?_
  refine lv_iload_n hC.1 hC.2.1 d_Po_cut_49 rfl (lv_at hl 4 rfl) ?_
  refine lv_iload hC.1 hC.2.1 d_Po_cut_50 (lv_at hl 0 rfl) ?_
  refine z_iadd hC d_Po_cut_52 ?_
  refine z_topi (z := 15) (by omega) ?_
  refine lv_dup2_11 hC.1 hC.2.1 d_Po_cut_53 rfl rfl ?_
  refine z_iald hC hK hP 0 rfl (by omega) d_Po_cut_54 ?_
  refine z_topi (z := -F 0 + F 2 - F 3 + F 4 - F 6 + F 7) (by rw [uZ_n (by omega), uZ_n (by omega), uZ_n (by omega), uZ_s]) ?_
  refine lv_aload_n hC.1 hC.2.1 d_Po_cut_55 rfl (lv_at hl 1 rfl) ?_
  refine lv_iload_n hC.1 hC.2.1 d_Po_cut_56 rfl (lv_at hl 2 rfl) ?_
  refine lv_iload hC.1 hC.2.1 d_Po_cut_57 (lv_at hl 0 rfl) ?_
  refine z_iadd hC d_Po_cut_59 ?_
  refine z_topi (z := 7) (by omega) ?_
  refine z_iald hC hK hP 0 rfl (by omega) d_Po_cut_60 ?_
  refine z_topi (z := F 7) (by rw [uZ_n (by omega), uZ_n (by omega), uZ_n (by omega), uZ_n (by omega), uZ_n (by omega), uZ_n (by omega), uZ_n (by omega), uZ_n (by omega), uZ_n (by omega), uZ_n (by omega), uZ_n (by omega)]) ?_
  refine z_iadd hC d_Po_cut_61 ?_
  refine z_topi (z := -F 0 + F 2 - F 3 + F 4 - F 6 + 2 * F 7) (by omega) ?_
  refine z_iast (ws' := [(q, eI t.1 20 (uZ (uZ (uZ (uZ (uZ (uZ (uZ (uZ (uZ (uZ (uZ (uZ F 12 (F 0 - F 4)) 13 (F 1 - F 5)) 14 (F 2 - F 6)) 15 (F 3 - F 7)) 12 (-F 0 + F 1 - F 3 + F 4 - F 5 + F 7)) 13 (F 2 - F 3 - F 6 + F 7)) 14 (-F 0 + F 1 + F 4 - F 5)) 15 (-F 0 + F 2 - F 3 + F 4 - F 6 + F 7)) 12 (-F 0 + F 1 - F 3 + 2 * F 4 - F 5 + F 7)) 13 (F 2 - F 3 + F 5 - F 6 + F 7)) 14 (-F 0 + F 1 + F 4 - F 5 + F 6)) 15 (-F 0 + F 2 - F 3 + F 4 - F 6 + 2 * F 7)))]) hC hK hP hD hS 0 rfl (by omega) rfl d_Po_cut_62 (fun H locs hP hD hS => ?_)
  refine lv_iinc (v := iI 4) (lv' := [(4, .int (iI 4)), (0, .ref q), (1, .int (iI 4)), (2, .int (iI 0)), (3, .int (iI 12))]) hC.1 hC.2.1 d_Po_cut_63 hl (k := 0) rfl (z_inc (by omega)) (by decide) rfl (fun ls hl => ?_)
  refine z_goto (tgt := 42) hC d_Po_cut_66 (by decide) ?_
  refine lv_iload hC.1 hC.2.1 d_Po_cut_42 (lv_at hl 0 rfl) ?_
  refine z_iconst hC d_Po_cut_44 ?_
  refine z_icmp_ge (tgt := 69) hC d_Po_cut_45 (by decide) (by decide) (by decide) (fun _ => ?_) (fun h => absurd h (by decide))
  have hP9 := hP.sub (ws' := [(q, eI t.1 20 (uZ (uZ (uZ (uZ (uZ (uZ (uZ (uZ (uZ (uZ (uZ (uZ F 12 (F 0 - F 4)) 13 (F 1 - F 5)) 14 (F 2 - F 6)) 15 (F 3 - F 7)) 12 (-F 0 + F 1 - F 3 + F 4 - F 5 + F 7)) 13 (F 2 - F 3 - F 6 + F 7)) 14 (-F 0 + F 1 + F 4 - F 5)) 15 (-F 0 + F 2 - F 3 + F 4 - F 6 + F 7)) 12 (-F 0 + F 1 - F 3 + 2 * F 4 - F 5 + F 7)) 13 (F 2 - F 3 + F 5 - F 6 + F 7)) 14 (-F 0 + F 1 + F 4 - F 5 + F 6)) 15 (-F 0 + F 2 - F 3 + F 4 - F 6 + 2 * F 7)))]) [0] rfl
  have hD9 := hD.sub (ws' := [(q, eI t.1 20 (uZ (uZ (uZ (uZ (uZ (uZ (uZ (uZ (uZ (uZ (uZ (uZ F 12 (F 0 - F 4)) 13 (F 1 - F 5)) 14 (F 2 - F 6)) 15 (F 3 - F 7)) 12 (-F 0 + F 1 - F 3 + F 4 - F 5 + F 7)) 13 (F 2 - F 3 - F 6 + F 7)) 14 (-F 0 + F 1 + F 4 - F 5)) 15 (-F 0 + F 2 - F 3 + F 4 - F 6 + F 7)) 12 (-F 0 + F 1 - F 3 + 2 * F 4 - F 5 + F 7)) 13 (F 2 - F 3 + F 5 - F 6 + F 7)) 14 (-F 0 + F 1 + F 4 - F 5 + F 6)) 15 (-F 0 + F 2 - F 3 + F 4 - F 6 + 2 * F 7)))]) [0] (by decide) rfl
  exact ret (uZ (uZ (uZ (uZ (uZ (uZ (uZ (uZ (uZ (uZ (uZ (uZ F 12 (F 0 - F 4)) 13 (F 1 - F 5)) 14 (F 2 - F 6)) 15 (F 3 - F 7)) 12 (-F 0 + F 1 - F 3 + F 4 - F 5 + F 7)) 13 (F 2 - F 3 - F 6 + F 7)) 14 (-F 0 + F 1 + F 4 - F 5)) 15 (-F 0 + F 2 - F 3 + F 4 - F 6 + F 7)) 12 (-F 0 + F 1 - F 3 + 2 * F 4 - F 5 + F 7)) 13 (F 2 - F 3 + F 5 - F 6 + F 7)) 14 (-F 0 + F 1 + F 4 - F 5 + F 6)) 15 (-F 0 + F 2 - F 3 + F 4 - F 6 + 2 * F 7)) _ _ 69 _ d_Po_cut_69 (by funext k; unfold st4 uZ; rcases (show k = 12 ∨ k = 13 ∨ k = 14 ∨ k = 15 ∨ (k ≠ 12 ∧ k ≠ 13 ∧ k ≠ 14 ∧ k ≠ 15) by omega) with rfl | rfl | rfl | rfl | ⟨g0, g1, g2, g3⟩; all_goals first | (simp [g0, g1, g2, g3]; done) | (simp; omega)) hP9 hD9 hS
abbrev rm_Po_cut_c : Room := { frames := 2, cells := 0, slots := 0, locals := 50 }
set_option maxHeartbeats 4000000 in
set_option maxRecDepth 100000 in
theorem c_Po_cut_c (l : Launch) (D : va_G) (t : vt) (ts : Nat → Nat) (q : Nat) (F : Int → Int) (x0 x1 x2 x3 y0 y1 y2 y3 w0 w1 w2 w3 : Int) (ex0 : F 4 = x0) (ex1 : F 5 = x1) (ex2 : F 6 = x2) (ex3 : F 7 = x3) (ey0 : F 8 = y0) (ey1 : F 9 = y1) (ey2 : F 10 = y2) (ey3 : F 11 = y3) (f0 : w0 = (y1 - x1) - (y3 - x3) - (y0 - x0) + x0) (f1 : w1 = (y2 - x2) - (y3 - x3) + x1) (f2 : w2 = (y1 - x1) - (y0 - x0) + x2) (f3 : w3 = (y2 - x2) - (y0 - x0) - (y3 - x3) + x3) (sz : Nat) : Met l y_Po_cut (.code y_Po_cut b_Po_cut 5 none :: tb_ws) rm_Po_cut_c (MP D t ts [.ref q, .int (iI 4), .int (iI 8), .int (iI 16)] [(q, eI t.1 20 F)] sz) (va_Qv (fun u : Int → Int => u = st4 F 16 w0 w1 w2 w3) (MB D (va_A [(q, eI t.1 20 F)] sz) (fun u : Int → Int => [(q, eI t.1 20 u)])) (va_A [(q, eI t.1 20 F)] sz)) 0 0 (va_A [(q, eI t.1 20 F)] sz) := by
  refine m_v (by decide +kernel) (Nat.le_of_ble_eq_true rfl) ?_
  intro zp ze zs zm zb zt zc zQ A ls hC hA hP hK hD hE hS hl ret
  have hl : lv_has ls 5 [(0, .ref q), (1, .int (iI 4)), (2, .int (iI 8)), (3, .int (iI 16))] := hl
  refine z_iconst hC d_Po_cut_0 ?_
  refine lv_istore (lv' := [(4, .int (iI 0)), (0, .ref q), (1, .int (iI 4)), (2, .int (iI 8)), (3, .int (iI 16))]) hC.1 hC.2.1 d_Po_cut_1 hl (by decide) rfl (fun ls hl => ?_)
  refine lv_iload hC.1 hC.2.1 d_Po_cut_3 (lv_at hl 0 rfl) ?_
  refine z_iconst hC d_Po_cut_5 ?_
  refine z_icmp_ge (tgt := 34) hC d_Po_cut_6 (by decide) (by decide) (by decide) (fun h => absurd h (by decide)) (fun _ => ?_)
  refine lv_aload_n hC.1 hC.2.1 d_Po_cut_9 rfl (lv_at hl 1 rfl) ?_
  refine lv_iload_n hC.1 hC.2.1 d_Po_cut_10 rfl (lv_at hl 4 rfl) ?_
  refine lv_iload hC.1 hC.2.1 d_Po_cut_11 (lv_at hl 0 rfl) ?_
  refine z_iadd hC d_Po_cut_13 ?_
  refine z_topi (z := 16) (by omega) ?_
  refine lv_aload_n hC.1 hC.2.1 d_Po_cut_14 rfl (lv_at hl 1 rfl) ?_
  refine lv_iload_n hC.1 hC.2.1 d_Po_cut_15 rfl (lv_at hl 3 rfl) ?_
  refine lv_iload hC.1 hC.2.1 d_Po_cut_16 (lv_at hl 0 rfl) ?_
  refine z_iadd hC d_Po_cut_18 ?_
  refine z_topi (z := 8) (by omega) ?_
  refine z_iald hC hK hP 0 rfl (by omega) d_Po_cut_19 ?_
  refine lv_aload_n hC.1 hC.2.1 d_Po_cut_20 rfl (lv_at hl 1 rfl) ?_
  refine lv_iload_n hC.1 hC.2.1 d_Po_cut_21 rfl (lv_at hl 2 rfl) ?_
  refine lv_iload hC.1 hC.2.1 d_Po_cut_22 (lv_at hl 0 rfl) ?_
  refine z_iadd hC d_Po_cut_24 ?_
  refine z_topi (z := 4) (by omega) ?_
  refine z_iald hC hK hP 0 rfl (by omega) d_Po_cut_25 ?_
  refine z_isub hC d_Po_cut_26 ?_
  refine z_topi (z := -F 4 + F 8) (by omega) ?_
  refine z_iast (ws' := [(q, eI t.1 20 (uZ F 16 (-F 4 + F 8)))]) hC hK hP hD hS 0 rfl (by omega) rfl d_Po_cut_27 (fun H locs hP hD hS => ?_)
  refine lv_iinc (v := iI 1) (lv' := [(4, .int (iI 1)), (0, .ref q), (1, .int (iI 4)), (2, .int (iI 8)), (3, .int (iI 16))]) hC.1 hC.2.1 d_Po_cut_28 hl (k := 0) rfl (z_inc (by omega)) (by decide) rfl (fun ls hl => ?_)
  refine z_goto (tgt := 3) hC d_Po_cut_31 (by decide) ?_
  refine lv_iload hC.1 hC.2.1 d_Po_cut_3 (lv_at hl 0 rfl) ?_
  refine z_iconst hC d_Po_cut_5 ?_
  refine z_icmp_ge (tgt := 34) hC d_Po_cut_6 (by decide) (by decide) (by decide) (fun h => absurd h (by decide)) (fun _ => ?_)
  refine lv_aload_n hC.1 hC.2.1 d_Po_cut_9 rfl (lv_at hl 1 rfl) ?_
  refine lv_iload_n hC.1 hC.2.1 d_Po_cut_10 rfl (lv_at hl 4 rfl) ?_
  refine lv_iload hC.1 hC.2.1 d_Po_cut_11 (lv_at hl 0 rfl) ?_
  refine z_iadd hC d_Po_cut_13 ?_
  refine z_topi (z := 17) (by omega) ?_
  refine lv_aload_n hC.1 hC.2.1 d_Po_cut_14 rfl (lv_at hl 1 rfl) ?_
  refine lv_iload_n hC.1 hC.2.1 d_Po_cut_15 rfl (lv_at hl 3 rfl) ?_
  refine lv_iload hC.1 hC.2.1 d_Po_cut_16 (lv_at hl 0 rfl) ?_
  refine z_iadd hC d_Po_cut_18 ?_
  refine z_topi (z := 9) (by omega) ?_
  refine z_iald hC hK hP 0 rfl (by omega) d_Po_cut_19 ?_
  refine z_topi (z := F 9) (by rw [uZ_n (by omega)]) ?_
  refine lv_aload_n hC.1 hC.2.1 d_Po_cut_20 rfl (lv_at hl 1 rfl) ?_
  refine lv_iload_n hC.1 hC.2.1 d_Po_cut_21 rfl (lv_at hl 2 rfl) ?_
  refine lv_iload hC.1 hC.2.1 d_Po_cut_22 (lv_at hl 0 rfl) ?_
  refine z_iadd hC d_Po_cut_24 ?_
  refine z_topi (z := 5) (by omega) ?_
  refine z_iald hC hK hP 0 rfl (by omega) d_Po_cut_25 ?_
  refine z_topi (z := F 5) (by rw [uZ_n (by omega)]) ?_
  refine z_isub hC d_Po_cut_26 ?_
  refine z_topi (z := -F 5 + F 9) (by omega) ?_
  refine z_iast (ws' := [(q, eI t.1 20 (uZ (uZ F 16 (-F 4 + F 8)) 17 (-F 5 + F 9)))]) hC hK hP hD hS 0 rfl (by omega) rfl d_Po_cut_27 (fun H locs hP hD hS => ?_)
  refine lv_iinc (v := iI 2) (lv' := [(4, .int (iI 2)), (0, .ref q), (1, .int (iI 4)), (2, .int (iI 8)), (3, .int (iI 16))]) hC.1 hC.2.1 d_Po_cut_28 hl (k := 0) rfl (z_inc (by omega)) (by decide) rfl (fun ls hl => ?_)
  refine z_goto (tgt := 3) hC d_Po_cut_31 (by decide) ?_
  refine lv_iload hC.1 hC.2.1 d_Po_cut_3 (lv_at hl 0 rfl) ?_
  refine z_iconst hC d_Po_cut_5 ?_
  refine z_icmp_ge (tgt := 34) hC d_Po_cut_6 (by decide) (by decide) (by decide) (fun h => absurd h (by decide)) (fun _ => ?_)
  refine lv_aload_n hC.1 hC.2.1 d_Po_cut_9 rfl (lv_at hl 1 rfl) ?_
  refine lv_iload_n hC.1 hC.2.1 d_Po_cut_10 rfl (lv_at hl 4 rfl) ?_
  refine lv_iload hC.1 hC.2.1 d_Po_cut_11 (lv_at hl 0 rfl) ?_
  refine z_iadd hC d_Po_cut_13 ?_
  refine z_topi (z := 18) (by omega) ?_
  refine lv_aload_n hC.1 hC.2.1 d_Po_cut_14 rfl (lv_at hl 1 rfl) ?_
  refine lv_iload_n hC.1 hC.2.1 d_Po_cut_15 rfl (lv_at hl 3 rfl) ?_
  refine lv_iload hC.1 hC.2.1 d_Po_cut_16 (lv_at hl 0 rfl) ?_
  refine z_iadd hC d_Po_cut_18 ?_
  refine z_topi (z := 10) (by omega) ?_
  refine z_iald hC hK hP 0 rfl (by omega) d_Po_cut_19 ?_
  refine z_topi (z := F 10) (by rw [uZ_n (by omega), uZ_n (by omega)]) ?_
  refine lv_aload_n hC.1 hC.2.1 d_Po_cut_20 rfl (lv_at hl 1 rfl) ?_
  refine lv_iload_n hC.1 hC.2.1 d_Po_cut_21 rfl (lv_at hl 2 rfl) ?_
  refine lv_iload hC.1 hC.2.1 d_Po_cut_22 (lv_at hl 0 rfl) ?_
  refine z_iadd hC d_Po_cut_24 ?_
  refine z_topi (z := 6) (by omega) ?_
  refine z_iald hC hK hP 0 rfl (by omega) d_Po_cut_25 ?_
  refine z_topi (z := F 6) (by rw [uZ_n (by omega), uZ_n (by omega)]) ?_
  refine z_isub hC d_Po_cut_26 ?_
  refine z_topi (z := F 10 - F 6) (by omega) ?_
  refine z_iast (ws' := [(q, eI t.1 20 (uZ (uZ (uZ F 16 (-F 4 + F 8)) 17 (-F 5 + F 9)) 18 (F 10 - F 6)))]) hC hK hP hD hS 0 rfl (by omega) rfl d_Po_cut_27 (fun H locs hP hD hS => ?_)
  refine lv_iinc (v := iI 3) (lv' := [(4, .int (iI 3)), (0, .ref q), (1, .int (iI 4)), (2, .int (iI 8)), (3, .int (iI 16))]) hC.1 hC.2.1 d_Po_cut_28 hl (k := 0) rfl (z_inc (by omega)) (by decide) rfl (fun ls hl => ?_)
  refine z_goto (tgt := 3) hC d_Po_cut_31 (by decide) ?_
  refine lv_iload hC.1 hC.2.1 d_Po_cut_3 (lv_at hl 0 rfl) ?_
  refine z_iconst hC d_Po_cut_5 ?_
  refine z_icmp_ge (tgt := 34) hC d_Po_cut_6 (by decide) (by decide) (by decide) (fun h => absurd h (by decide)) (fun _ => ?_)
  refine lv_aload_n hC.1 hC.2.1 d_Po_cut_9 rfl (lv_at hl 1 rfl) ?_
  refine lv_iload_n hC.1 hC.2.1 d_Po_cut_10 rfl (lv_at hl 4 rfl) ?_
  refine lv_iload hC.1 hC.2.1 d_Po_cut_11 (lv_at hl 0 rfl) ?_
  refine z_iadd hC d_Po_cut_13 ?_
  refine z_topi (z := 19) (by omega) ?_
  refine lv_aload_n hC.1 hC.2.1 d_Po_cut_14 rfl (lv_at hl 1 rfl) ?_
  refine lv_iload_n hC.1 hC.2.1 d_Po_cut_15 rfl (lv_at hl 3 rfl) ?_
  refine lv_iload hC.1 hC.2.1 d_Po_cut_16 (lv_at hl 0 rfl) ?_
  refine z_iadd hC d_Po_cut_18 ?_
  refine z_topi (z := 11) (by omega) ?_
  refine z_iald hC hK hP 0 rfl (by omega) d_Po_cut_19 ?_
  refine z_topi (z := F 11) (by rw [uZ_n (by omega), uZ_n (by omega), uZ_n (by omega)]) ?_
  refine lv_aload_n hC.1 hC.2.1 d_Po_cut_20 rfl (lv_at hl 1 rfl) ?_
  refine lv_iload_n hC.1 hC.2.1 d_Po_cut_21 rfl (lv_at hl 2 rfl) ?_
  refine lv_iload hC.1 hC.2.1 d_Po_cut_22 (lv_at hl 0 rfl) ?_
  refine z_iadd hC d_Po_cut_24 ?_
  refine z_topi (z := 7) (by omega) ?_
  refine z_iald hC hK hP 0 rfl (by omega) d_Po_cut_25 ?_
  refine z_topi (z := F 7) (by rw [uZ_n (by omega), uZ_n (by omega), uZ_n (by omega)]) ?_
  refine z_isub hC d_Po_cut_26 ?_
  refine z_topi (z := F 11 - F 7) (by omega) ?_
  refine z_iast (ws' := [(q, eI t.1 20 (uZ (uZ (uZ (uZ F 16 (-F 4 + F 8)) 17 (-F 5 + F 9)) 18 (F 10 - F 6)) 19 (F 11 - F 7)))]) hC hK hP hD hS 0 rfl (by omega) rfl d_Po_cut_27 (fun H locs hP hD hS => ?_)
  refine lv_iinc (v := iI 4) (lv' := [(4, .int (iI 4)), (0, .ref q), (1, .int (iI 4)), (2, .int (iI 8)), (3, .int (iI 16))]) hC.1 hC.2.1 d_Po_cut_28 hl (k := 0) rfl (z_inc (by omega)) (by decide) rfl (fun ls hl => ?_)
  refine z_goto (tgt := 3) hC d_Po_cut_31 (by decide) ?_
  refine lv_iload hC.1 hC.2.1 d_Po_cut_3 (lv_at hl 0 rfl) ?_
  refine z_iconst hC d_Po_cut_5 ?_
  refine z_icmp_ge (tgt := 34) hC d_Po_cut_6 (by decide) (by decide) (by decide) (fun _ => ?_) (fun h => absurd h (by decide))
  refine lv_aload_n hC.1 hC.2.1 d_Po_cut_34 rfl (lv_at hl 1 rfl) ?_
  refine lv_iload_n hC.1 hC.2.1 d_Po_cut_35 rfl (lv_at hl 4 rfl) ?_
  refine z_mSv (As := [.ref q, .int (iI 16)]) (rest := []) (wr := []) hC (c_Po_shrink l D t ts q 20 (uZ (uZ (uZ (uZ F 16 (-F 4 + F 8)) 17 (-F 5 + F 9)) 18 (F 10 - F 6)) 19 (F 11 - F 7)) 16 (-F 4 + F 8) (-F 5 + F 9) (F 10 - F 6) (F 11 - F 7) (-F 11 + F 4 - F 5 + F 7 - F 8 + F 9) (F 10 - F 11 - F 6 + F 7) (F 4 - F 5 - F 8 + F 9) (F 10 - F 11 + F 4 - F 6 + F 7 - F 8) (by decide) (by omega) (uZ_nt (by omega) (uZ_nt (by omega) (uZ_nt (by omega) (uZ_et (by omega))))) (uZ_nt (by omega) (uZ_nt (by omega) (uZ_et (by omega)))) (uZ_nt (by omega) (uZ_et (by omega))) (uZ_et (by omega)) (by omega) (by omega) (by omega) (by omega) _) (cw_S hC k_264 k_265 k_8 k_266 ye_Po_shrink (by decide)) hP hD hK hE hS hA [0] [] (by decide) rfl rfl (by decide) (by decide) rfl hl.1 rfl (Nat.le_of_ble_eq_true rfl) ⟨Nat.le_of_ble_eq_true rfl, Nat.le_of_ble_eq_true rfl⟩ d_Po_cut_36 (fun u1 H locs eu1 hP hD hS => ?_)
  subst eu1
  have hP : va_P D classes [(q, eI t.1 20 (uZ (uZ (uZ (uZ (uZ (uZ (uZ (uZ F 16 (-F 4 + F 8)) 17 (-F 5 + F 9)) 18 (F 10 - F 6)) 19 (F 11 - F 7)) 16 (-F 11 + F 4 - F 5 + F 7 - F 8 + F 9)) 17 (F 10 - F 11 - F 6 + F 7)) 18 (F 4 - F 5 - F 8 + F 9)) 19 (F 10 - F 11 + F 4 - F 6 + F 7 - F 8)))] H := hP
  have hD : va_D A [(q, eI t.1 20 (uZ (uZ (uZ (uZ (uZ (uZ (uZ (uZ F 16 (-F 4 + F 8)) 17 (-F 5 + F 9)) 18 (F 10 - F 6)) 19 (F 11 - F 7)) 16 (-F 11 + F 4 - F 5 + F 7 - F 8 + F 9)) 17 (F 10 - F 11 - F 6 + F 7)) 18 (F 4 - F 5 - F 8 + F 9)) 19 (F 10 - F 11 + F 4 - F 6 + F 7 - F 8)))] := hD
  refine z_iconst hC d_Po_cut_39 ?_
  refine lv_istore (lv' := [(4, .int (iI 0)), (0, .ref q), (1, .int (iI 4)), (2, .int (iI 8)), (3, .int (iI 16))]) hC.1 hC.2.1 d_Po_cut_40 hl (by decide) rfl (fun ls hl => ?_)
  refine lv_iload hC.1 hC.2.1 d_Po_cut_42 (lv_at hl 0 rfl) ?_
  refine z_iconst hC d_Po_cut_44 ?_
  refine z_icmp_ge (tgt := 69) hC d_Po_cut_45 (by decide) (by decide) (by decide) (fun h => absurd h (by decide)) (fun _ => ?_)
  refine lv_aload_n hC.1 hC.2.1 d_Po_cut_48 rfl (lv_at hl 1 rfl) ?_
  refine lv_iload_n hC.1 hC.2.1 d_Po_cut_49 rfl (lv_at hl 4 rfl) ?_
  refine lv_iload hC.1 hC.2.1 d_Po_cut_50 (lv_at hl 0 rfl) ?_
  refine z_iadd hC d_Po_cut_52 ?_
  refine z_topi (z := 16) (by omega) ?_
  refine lv_dup2_11 hC.1 hC.2.1 d_Po_cut_53 rfl rfl ?_
  refine z_iald hC hK hP 0 rfl (by omega) d_Po_cut_54 ?_
  refine z_topi (z := -F 11 + F 4 - F 5 + F 7 - F 8 + F 9) (by rw [uZ_n (by omega), uZ_n (by omega), uZ_n (by omega), uZ_s]) ?_
  refine lv_aload_n hC.1 hC.2.1 d_Po_cut_55 rfl (lv_at hl 1 rfl) ?_
  refine lv_iload_n hC.1 hC.2.1 d_Po_cut_56 rfl (lv_at hl 2 rfl) ?_
  refine lv_iload hC.1 hC.2.1 d_Po_cut_57 (lv_at hl 0 rfl) ?_
  refine z_iadd hC d_Po_cut_59 ?_
  refine z_topi (z := 4) (by omega) ?_
  refine z_iald hC hK hP 0 rfl (by omega) d_Po_cut_60 ?_
  refine z_topi (z := F 4) (by rw [uZ_n (by omega), uZ_n (by omega), uZ_n (by omega), uZ_n (by omega), uZ_n (by omega), uZ_n (by omega), uZ_n (by omega), uZ_n (by omega)]) ?_
  refine z_iadd hC d_Po_cut_61 ?_
  refine z_topi (z := -F 11 + 2 * F 4 - F 5 + F 7 - F 8 + F 9) (by omega) ?_
  refine z_iast (ws' := [(q, eI t.1 20 (uZ (uZ (uZ (uZ (uZ (uZ (uZ (uZ (uZ F 16 (-F 4 + F 8)) 17 (-F 5 + F 9)) 18 (F 10 - F 6)) 19 (F 11 - F 7)) 16 (-F 11 + F 4 - F 5 + F 7 - F 8 + F 9)) 17 (F 10 - F 11 - F 6 + F 7)) 18 (F 4 - F 5 - F 8 + F 9)) 19 (F 10 - F 11 + F 4 - F 6 + F 7 - F 8)) 16 (-F 11 + 2 * F 4 - F 5 + F 7 - F 8 + F 9)))]) hC hK hP hD hS 0 rfl (by omega) rfl d_Po_cut_62 (fun H locs hP hD hS => ?_)
  refine lv_iinc (v := iI 1) (lv' := [(4, .int (iI 1)), (0, .ref q), (1, .int (iI 4)), (2, .int (iI 8)), (3, .int (iI 16))]) hC.1 hC.2.1 d_Po_cut_63 hl (k := 0) rfl (z_inc (by omega)) (by decide) rfl (fun ls hl => ?_)
  refine z_goto (tgt := 42) hC d_Po_cut_66 (by decide) ?_
  refine lv_iload hC.1 hC.2.1 d_Po_cut_42 (lv_at hl 0 rfl) ?_
  refine z_iconst hC d_Po_cut_44 ?_
  refine z_icmp_ge (tgt := 69) hC d_Po_cut_45 (by decide) (by decide) (by decide) (fun h => absurd h (by decide)) (fun _ => ?_)
  refine lv_aload_n hC.1 hC.2.1 d_Po_cut_48 rfl (lv_at hl 1 rfl) ?_
  refine lv_iload_n hC.1 hC.2.1 d_Po_cut_49 rfl (lv_at hl 4 rfl) ?_
  refine lv_iload hC.1 hC.2.1 d_Po_cut_50 (lv_at hl 0 rfl) ?_
  refine z_iadd hC d_Po_cut_52 ?_
  refine z_topi (z := 17) (by omega) ?_
  refine lv_dup2_11 hC.1 hC.2.1 d_Po_cut_53 rfl rfl ?_
  refine z_iald hC hK hP 0 rfl (by omega) d_Po_cut_54 ?_
  refine z_topi (z := F 10 - F 11 - F 6 + F 7) (by rw [uZ_n (by omega), uZ_n (by omega), uZ_n (by omega), uZ_s]) ?_
  refine lv_aload_n hC.1 hC.2.1 d_Po_cut_55 rfl (lv_at hl 1 rfl) ?_
  refine lv_iload_n hC.1 hC.2.1 d_Po_cut_56 rfl (lv_at hl 2 rfl) ?_
  refine lv_iload hC.1 hC.2.1 d_Po_cut_57 (lv_at hl 0 rfl) ?_
  refine z_iadd hC d_Po_cut_59 ?_
  refine z_topi (z := 5) (by omega) ?_
  refine z_iald hC hK hP 0 rfl (by omega) d_Po_cut_60 ?_
  refine z_topi (z := F 5) (by rw [uZ_n (by omega), uZ_n (by omega), uZ_n (by omega), uZ_n (by omega), uZ_n (by omega), uZ_n (by omega), uZ_n (by omega), uZ_n (by omega), uZ_n (by omega)]) ?_
  refine z_iadd hC d_Po_cut_61 ?_
  refine z_topi (z := F 10 - F 11 + F 5 - F 6 + F 7) (by omega) ?_
  refine z_iast (ws' := [(q, eI t.1 20 (uZ (uZ (uZ (uZ (uZ (uZ (uZ (uZ (uZ (uZ F 16 (-F 4 + F 8)) 17 (-F 5 + F 9)) 18 (F 10 - F 6)) 19 (F 11 - F 7)) 16 (-F 11 + F 4 - F 5 + F 7 - F 8 + F 9)) 17 (F 10 - F 11 - F 6 + F 7)) 18 (F 4 - F 5 - F 8 + F 9)) 19 (F 10 - F 11 + F 4 - F 6 + F 7 - F 8)) 16 (-F 11 + 2 * F 4 - F 5 + F 7 - F 8 + F 9)) 17 (F 10 - F 11 + F 5 - F 6 + F 7)))]) hC hK hP hD hS 0 rfl (by omega) rfl d_Po_cut_62 (fun H locs hP hD hS => ?_)
  refine lv_iinc (v := iI 2) (lv' := [(4, .int (iI 2)), (0, .ref q), (1, .int (iI 4)), (2, .int (iI 8)), (3, .int (iI 16))]) hC.1 hC.2.1 d_Po_cut_63 hl (k := 0) rfl (z_inc (by omega)) (by decide) rfl (fun ls hl => ?_)
  refine z_goto (tgt := 42) hC d_Po_cut_66 (by decide) ?_
  refine lv_iload hC.1 hC.2.1 d_Po_cut_42 (lv_at hl 0 rfl) ?_
  refine z_iconst hC d_Po_cut_44 ?_
  refine z_icmp_ge (tgt := 69) hC d_Po_cut_45 (by decide) (by decide) (by decide) (fun h => absurd h (by decide)) (fun _ => ?_)
  refine lv_aload_n hC.1 hC.2.1 d_Po_cut_48 rfl (lv_at hl 1 rfl) ?_
  refine lv_iload_n hC.1 hC.2.1 d_Po_cut_49 rfl (lv_at hl 4 rfl) ?_
  refine lv_iload hC.1 hC.2.1 d_Po_cut_50 (lv_at hl 0 rfl) ?_
  refine z_iadd hC d_Po_cut_52 ?_
  refine z_topi (z := 18) (by omega) ?_
  refine lv_dup2_11 hC.1 hC.2.1 d_Po_cut_53 rfl rfl ?_
  refine z_iald hC hK hP 0 rfl (by omega) d_Po_cut_54 ?_
  refine z_topi (z := F 4 - F 5 - F 8 + F 9) (by rw [uZ_n (by omega), uZ_n (by omega), uZ_n (by omega), uZ_s]) ?_
  refine lv_aload_n hC.1 hC.2.1 d_Po_cut_55 rfl (lv_at hl 1 rfl) ?_
  refine lv_iload_n hC.1 hC.2.1 d_Po_cut_56 rfl (lv_at hl 2 rfl) ?_
  refine lv_iload hC.1 hC.2.1 d_Po_cut_57 (lv_at hl 0 rfl) ?_
  refine z_iadd hC d_Po_cut_59 ?_
  refine z_topi (z := 6) (by omega) ?_
  refine z_iald hC hK hP 0 rfl (by omega) d_Po_cut_60 ?_
  refine z_topi (z := F 6) (by rw [uZ_n (by omega), uZ_n (by omega), uZ_n (by omega), uZ_n (by omega), uZ_n (by omega), uZ_n (by omega), uZ_n (by omega), uZ_n (by omega), uZ_n (by omega), uZ_n (by omega)]) ?_
  refine z_iadd hC d_Po_cut_61 ?_
  refine z_topi (z := F 4 - F 5 + F 6 - F 8 + F 9) (by omega) ?_
  refine z_iast (ws' := [(q, eI t.1 20 (uZ (uZ (uZ (uZ (uZ (uZ (uZ (uZ (uZ (uZ (uZ F 16 (-F 4 + F 8)) 17 (-F 5 + F 9)) 18 (F 10 - F 6)) 19 (F 11 - F 7)) 16 (-F 11 + F 4 - F 5 + F 7 - F 8 + F 9)) 17 (F 10 - F 11 - F 6 + F 7)) 18 (F 4 - F 5 - F 8 + F 9)) 19 (F 10 - F 11 + F 4 - F 6 + F 7 - F 8)) 16 (-F 11 + 2 * F 4 - F 5 + F 7 - F 8 + F 9)) 17 (F 10 - F 11 + F 5 - F 6 + F 7)) 18 (F 4 - F 5 + F 6 - F 8 + F 9)))]) hC hK hP hD hS 0 rfl (by omega) rfl d_Po_cut_62 (fun H locs hP hD hS => ?_)
  refine lv_iinc (v := iI 3) (lv' := [(4, .int (iI 3)), (0, .ref q), (1, .int (iI 4)), (2, .int (iI 8)), (3, .int (iI 16))]) hC.1 hC.2.1 d_Po_cut_63 hl (k := 0) rfl (z_inc (by omega)) (by decide) rfl (fun ls hl => ?_)
  refine z_goto (tgt := 42) hC d_Po_cut_66 (by decide) ?_
  refine lv_iload hC.1 hC.2.1 d_Po_cut_42 (lv_at hl 0 rfl) ?_
  refine z_iconst hC d_Po_cut_44 ?_
  refine z_icmp_ge (tgt := 69) hC d_Po_cut_45 (by decide) (by decide) (by decide) (fun h => absurd h (by decide)) (fun _ => ?_)
  refine lv_aload_n hC.1 hC.2.1 d_Po_cut_48 rfl (lv_at hl 1 rfl) ?_
  refine lv_iload_n hC.1 hC.2.1 d_Po_cut_49 rfl (lv_at hl 4 rfl) ?_
  refine lv_iload hC.1 hC.2.1 d_Po_cut_50 (lv_at hl 0 rfl) ?_
  refine z_iadd hC d_Po_cut_52 ?_
  refine z_topi (z := 19) (by omega) ?_
  refine lv_dup2_11 hC.1 hC.2.1 d_Po_cut_53 rfl rfl ?_
  refine z_iald hC hK hP 0 rfl (by omega) d_Po_cut_54 ?_
  refine z_topi (z := F 10 - F 11 + F 4 - F 6 + F 7 - F 8) (by rw [uZ_n (by omega), uZ_n (by omega), uZ_n (by omega), uZ_s]) ?_
  refine lv_aload_n hC.1 hC.2.1 d_Po_cut_55 rfl (lv_at hl 1 rfl) ?_
  refine lv_iload_n hC.1 hC.2.1 d_Po_cut_56 rfl (lv_at hl 2 rfl) ?_
  refine lv_iload hC.1 hC.2.1 d_Po_cut_57 (lv_at hl 0 rfl) ?_
  refine z_iadd hC d_Po_cut_59 ?_
  refine z_topi (z := 7) (by omega) ?_
  refine z_iald hC hK hP 0 rfl (by omega) d_Po_cut_60 ?_
  refine z_topi (z := F 7) (by rw [uZ_n (by omega), uZ_n (by omega), uZ_n (by omega), uZ_n (by omega), uZ_n (by omega), uZ_n (by omega), uZ_n (by omega), uZ_n (by omega), uZ_n (by omega), uZ_n (by omega), uZ_n (by omega)]) ?_
  refine z_iadd hC d_Po_cut_61 ?_
  refine z_topi (z := F 10 - F 11 + F 4 - F 6 + 2 * F 7 - F 8) (by omega) ?_
  refine z_iast (ws' := [(q, eI t.1 20 (uZ (uZ (uZ (uZ (uZ (uZ (uZ (uZ (uZ (uZ (uZ (uZ F 16 (-F 4 + F 8)) 17 (-F 5 + F 9)) 18 (F 10 - F 6)) 19 (F 11 - F 7)) 16 (-F 11 + F 4 - F 5 + F 7 - F 8 + F 9)) 17 (F 10 - F 11 - F 6 + F 7)) 18 (F 4 - F 5 - F 8 + F 9)) 19 (F 10 - F 11 + F 4 - F 6 + F 7 - F 8)) 16 (-F 11 + 2 * F 4 - F 5 + F 7 - F 8 + F 9)) 17 (F 10 - F 11 + F 5 - F 6 + F 7)) 18 (F 4 - F 5 + F 6 - F 8 + F 9)) 19 (F 10 - F 11 + F 4 - F 6 + 2 * F 7 - F 8)))]) hC hK hP hD hS 0 rfl (by omega) rfl d_Po_cut_62 (fun H locs hP hD hS => ?_)
  refine lv_iinc (v := iI 4) (lv' := [(4, .int (iI 4)), (0, .ref q), (1, .int (iI 4)), (2, .int (iI 8)), (3, .int (iI 16))]) hC.1 hC.2.1 d_Po_cut_63 hl (k := 0) rfl (z_inc (by omega)) (by decide) rfl (fun ls hl => ?_)
  refine z_goto (tgt := 42) hC d_Po_cut_66 (by decide) ?_
  refine lv_iload hC.1 hC.2.1 d_Po_cut_42 (lv_at hl 0 rfl) ?_
  refine z_iconst hC d_Po_cut_44 ?_
  refine z_icmp_ge (tgt := 69) hC d_Po_cut_45 (by decide) (by decide) (by decide) (fun _ => ?_) (fun h => absurd h (by decide))
  have hP9 := hP.sub (ws' := [(q, eI t.1 20 (uZ (uZ (uZ (uZ (uZ (uZ (uZ (uZ (uZ (uZ (uZ (uZ F 16 (-F 4 + F 8)) 17 (-F 5 + F 9)) 18 (F 10 - F 6)) 19 (F 11 - F 7)) 16 (-F 11 + F 4 - F 5 + F 7 - F 8 + F 9)) 17 (F 10 - F 11 - F 6 + F 7)) 18 (F 4 - F 5 - F 8 + F 9)) 19 (F 10 - F 11 + F 4 - F 6 + F 7 - F 8)) 16 (-F 11 + 2 * F 4 - F 5 + F 7 - F 8 + F 9)) 17 (F 10 - F 11 + F 5 - F 6 + F 7)) 18 (F 4 - F 5 + F 6 - F 8 + F 9)) 19 (F 10 - F 11 + F 4 - F 6 + 2 * F 7 - F 8)))]) [0] rfl
  have hD9 := hD.sub (ws' := [(q, eI t.1 20 (uZ (uZ (uZ (uZ (uZ (uZ (uZ (uZ (uZ (uZ (uZ (uZ F 16 (-F 4 + F 8)) 17 (-F 5 + F 9)) 18 (F 10 - F 6)) 19 (F 11 - F 7)) 16 (-F 11 + F 4 - F 5 + F 7 - F 8 + F 9)) 17 (F 10 - F 11 - F 6 + F 7)) 18 (F 4 - F 5 - F 8 + F 9)) 19 (F 10 - F 11 + F 4 - F 6 + F 7 - F 8)) 16 (-F 11 + 2 * F 4 - F 5 + F 7 - F 8 + F 9)) 17 (F 10 - F 11 + F 5 - F 6 + F 7)) 18 (F 4 - F 5 + F 6 - F 8 + F 9)) 19 (F 10 - F 11 + F 4 - F 6 + 2 * F 7 - F 8)))]) [0] (by decide) rfl
  exact ret (uZ (uZ (uZ (uZ (uZ (uZ (uZ (uZ (uZ (uZ (uZ (uZ F 16 (-F 4 + F 8)) 17 (-F 5 + F 9)) 18 (F 10 - F 6)) 19 (F 11 - F 7)) 16 (-F 11 + F 4 - F 5 + F 7 - F 8 + F 9)) 17 (F 10 - F 11 - F 6 + F 7)) 18 (F 4 - F 5 - F 8 + F 9)) 19 (F 10 - F 11 + F 4 - F 6 + F 7 - F 8)) 16 (-F 11 + 2 * F 4 - F 5 + F 7 - F 8 + F 9)) 17 (F 10 - F 11 + F 5 - F 6 + F 7)) 18 (F 4 - F 5 + F 6 - F 8 + F 9)) 19 (F 10 - F 11 + F 4 - F 6 + 2 * F 7 - F 8)) _ _ 69 _ d_Po_cut_69 (by funext k; unfold st4 uZ; rcases (show k = 16 ∨ k = 17 ∨ k = 18 ∨ k = 19 ∨ (k ≠ 16 ∧ k ≠ 17 ∧ k ≠ 18 ∧ k ≠ 19) by omega) with rfl | rfl | rfl | rfl | ⟨g0, g1, g2, g3⟩; all_goals first | (simp [g0, g1, g2, g3]; done) | (simp; omega)) hP9 hD9 hS
