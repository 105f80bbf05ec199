theorem ye_X_remove : ye y_X_remove R_X 1 := by unfold ye; decide +kernel
abbrev rm_X_remove : Room := { frames := 2, cells := 0, slots := 0, locals := 49 }
set_option maxHeartbeats 4000000 in
set_option maxRecDepth 100000 in
theorem c_X_remove (l : Launch) (D : va_G) (t : vt) (ts : Nat → Nat) (x qs qr qw qg qu qp ql qh qt qn : Nat) (sp : Value) (lv z : Int) (Lo Hi T F : Int → Int) (hz : 0 ≤ z ∧ z ≤ 400) (hLo : bL Lo) (hHi : bL Hi) (hT : bT T) (hF : bF F) (n : Int) (hn : inI n) (sz : Nat) : Met l y_X_remove (.code y_X_remove b_X_remove 2 (some .boolean) :: tb_ws) rm_X_remove (MP D t ts [.ref x, .int (iI n)] [(x, .inr (4, [.ref qs, .ref qr, .ref qw, .ref qg, .ref qu, .ref qp, sp, .int (iI lv)])), (qs, .inr (2, [.ref ql, .ref qh])), (ql, eL t.2.1 2000 Lo), (qh, eL t.2.1 2000 Hi), (qp, .inr (0, [.ref qt, .ref qn, .int (iI z)])), (qt, eI t.1 400 T), (qn, eI t.1 4800 F)] sz) (va_Qi (fun zr u => zr = iI (zB ((fun u : Bool × Int × (Int → Int) × (Int → Int) × (Int → Int) × (Int → Int) => u.1) u)) ∧ ((fun u : Bool × Int × (Int → Int) × (Int → Int) × (Int → Int) × (Int → Int) => (u.1 = true ∧ 0 ≤ n ∧ n < z ∧ u.2.1 = z - 1 ∧ u.2.2.1 = cZ T T (n + 1) n (z - n - 1) ∧ u.2.2.2.1 = cZ F F (12 * n + 12) (12 * n) (12 * (z - n - 1)) ∧ u.2.2.2.2.1 = cZ Lo Lo (5 * n + 5) (5 * n) (5 * (z - n - 1)) ∧ u.2.2.2.2.2 = cZ Hi Hi (5 * n + 5) (5 * n) (5 * (z - n - 1))) ∨ (u.1 = false ∧ ¬ (0 ≤ n ∧ n < z) ∧ u.2.1 = z ∧ u.2.2.1 = T ∧ u.2.2.2.1 = F ∧ u.2.2.2.2.1 = Lo ∧ u.2.2.2.2.2 = Hi))) u) (MB D (va_A [(x, .inr (4, [.ref qs, .ref qr, .ref qw, .ref qg, .ref qu, .ref qp, sp, .int (iI lv)])), (qs, .inr (2, [.ref ql, .ref qh])), (ql, eL t.2.1 2000 Lo), (qh, eL t.2.1 2000 Hi), (qp, .inr (0, [.ref qt, .ref qn, .int (iI z)])), (qt, eI t.1 400 T), (qn, eI t.1 4800 F)] sz) (fun u : Bool × Int × (Int → Int) × (Int → Int) × (Int → Int) × (Int → Int) => [(x, .inr (4, [.ref qs, .ref qr, .ref qw, .ref qg, .ref qu, .ref qp, sp, .int (iI lv)])), (qs, .inr (2, [.ref ql, .ref qh])), (ql, eL t.2.1 2000 u.2.2.2.2.1), (qh, eL t.2.1 2000 u.2.2.2.2.2), (qp, .inr (0, [.ref qt, .ref qn, .int (iI u.2.1)])), (qt, eI t.1 400 u.2.2.1), (qn, eI t.1 4800 u.2.2.2.1)])) (va_A [(x, .inr (4, [.ref qs, .ref qr, .ref qw, .ref qg, .ref qu, .ref qp, sp, .int (iI lv)])), (qs, .inr (2, [.ref ql, .ref qh])), (ql, eL t.2.1 2000 Lo), (qh, eL t.2.1 2000 Hi), (qp, .inr (0, [.ref qt, .ref qn, .int (iI z)])), (qt, eI t.1 400 T), (qn, eI t.1 4800 F)] sz)) 0 0 (va_A [(x, .inr (4, [.ref qs, .ref qr, .ref qw, .ref qg, .ref qu, .ref qp, sp, .int (iI lv)])), (qs, .inr (2, [.ref ql, .ref qh])), (ql, eL t.2.1 2000 Lo), (qh, eL t.2.1 2000 Hi), (qp, .inr (0, [.ref qt, .ref qn, .int (iI z)])), (qt, eI t.1 400 T), (qn, eI t.1 4800 F)] sz) := by
  refine m_z (by decide +kernel) (Nat.le_of_ble_eq_true rfl) ?_
  intro zp ze zs zm zb zt zc zQ A ls hC hA hP hK hD hE hS hl ret
  have hl : lv_has ls 2 [(0, .ref x), (1, .int (iI n))] := hl
  have ret1 : ∀ (u : Bool × Int × (Int → Int) × (Int → Int) × (Int → Int) × (Int → Int)) (H : Heap) (locs : List Loc) (pc : Nat) (ls : Array Slot), decode b_X_remove pc = .ok (.ireturn, 1) → (u.1 = true ∧ ((u.1 = true ∧ 0 ≤ n ∧ n < z ∧ u.2.1 = z - 1 ∧ u.2.2.1 = cZ T T (n + 1) n (z - n - 1) ∧ u.2.2.2.1 = cZ F F (12 * n + 12) (12 * n) (12 * (z - n - 1)) ∧ u.2.2.2.2.1 = cZ Lo Lo (5 * n + 5) (5 * n) (5 * (z - n - 1)) ∧ u.2.2.2.2.2 = cZ Hi Hi (5 * n + 5) (5 * n) (5 * (z - n - 1))) ∨ (u.1 = false ∧ ¬ (0 ≤ n ∧ n < z) ∧ u.2.1 = z ∧ u.2.2.1 = T ∧ u.2.2.2.1 = F ∧ u.2.2.2.2.1 = Lo ∧ u.2.2.2.2.2 = Hi))) → va_P D classes ([(x, .inr (4, [.ref qs, .ref qr, .ref qw, .ref qg, .ref qu, .ref qp, sp, .int (iI lv)])), (qs, .inr (2, [.ref ql, .ref qh])), (ql, eL t.2.1 2000 u.2.2.2.2.1), (qh, eL t.2.1 2000 u.2.2.2.2.2), (qp, .inr (0, [.ref qt, .ref qn, .int (iI u.2.1)])), (qt, eI t.1 400 u.2.2.1), (qn, eI t.1 4800 u.2.2.2.1)]) H → va_D A ([(x, .inr (4, [.ref qs, .ref qr, .ref qw, .ref qg, .ref qu, .ref qp, sp, .int (iI lv)])), (qs, .inr (2, [.ref ql, .ref qh])), (ql, eL t.2.1 2000 u.2.2.2.2.1), (qh, eL t.2.1 2000 u.2.2.2.2.2), (qp, .inr (0, [.ref qt, .ref qn, .int (iI u.2.1)])), (qt, eI t.1 400 u.2.2.1), (qn, eI t.1 4800 u.2.2.2.1)]) → va_S A zs.heap H locs → W zp l ze rm_X_remove zs zm [.ref x, .int (iI n)].toArray zb zt zc H locs 0 0 zQ (F0 zm pc ls [.int (iI 1)]) := fun u H locs pc ls d h hP hD hS => by have r := ret u H locs pc ls d h.2 hP hD hS; have hv := h.1; simp only [hv] at r; exact r
  have ret0 : ∀ (u : Bool × Int × (Int → Int) × (Int → Int) × (Int → Int) × (Int → Int)) (H : Heap) (locs : List Loc) (pc : Nat) (ls : Array Slot), decode b_X_remove pc = .ok (.ireturn, 1) → (u.1 = false ∧ ((u.1 = true ∧ 0 ≤ n ∧ n < z ∧ u.2.1 = z - 1 ∧ u.2.2.1 = cZ T T (n + 1) n (z - n - 1) ∧ u.2.2.2.1 = cZ F F (12 * n + 12) (12 * n) (12 * (z - n - 1)) ∧ u.2.2.2.2.1 = cZ Lo Lo (5 * n + 5) (5 * n) (5 * (z - n - 1)) ∧ u.2.2.2.2.2 = cZ Hi Hi (5 * n + 5) (5 * n) (5 * (z - n - 1))) ∨ (u.1 = false ∧ ¬ (0 ≤ n ∧ n < z) ∧ u.2.1 = z ∧ u.2.2.1 = T ∧ u.2.2.2.1 = F ∧ u.2.2.2.2.1 = Lo ∧ u.2.2.2.2.2 = Hi))) → va_P D classes ([(x, .inr (4, [.ref qs, .ref qr, .ref qw, .ref qg, .ref qu, .ref qp, sp, .int (iI lv)])), (qs, .inr (2, [.ref ql, .ref qh])), (ql, eL t.2.1 2000 u.2.2.2.2.1), (qh, eL t.2.1 2000 u.2.2.2.2.2), (qp, .inr (0, [.ref qt, .ref qn, .int (iI u.2.1)])), (qt, eI t.1 400 u.2.2.1), (qn, eI t.1 4800 u.2.2.2.1)]) H → va_D A ([(x, .inr (4, [.ref qs, .ref qr, .ref qw, .ref qg, .ref qu, .ref qp, sp, .int (iI lv)])), (qs, .inr (2, [.ref ql, .ref qh])), (ql, eL t.2.1 2000 u.2.2.2.2.1), (qh, eL t.2.1 2000 u.2.2.2.2.2), (qp, .inr (0, [.ref qt, .ref qn, .int (iI u.2.1)])), (qt, eI t.1 400 u.2.2.1), (qn, eI t.1 4800 u.2.2.2.1)]) → va_S A zs.heap H locs → W zp l ze rm_X_remove zs zm [.ref x, .int (iI n)].toArray zb zt zc H locs 0 0 zQ (F0 zm pc ls [.int (iI 0)]) := fun u H locs pc ls d h hP hD hS => by have r := ret u H locs pc ls d h.2 hP hD hS; have hv := h.1; simp only [hv] at r; exact r
  refine lv_iload_n hC.1 hC.2.1 d_X_remove_0 rfl (lv_at hl 1 rfl) ?_
  refine z_if_lt (tgt := 15) hC d_X_remove_1 (by decide) (by omega) (fun h1 => ?_) (fun h1 => ?_)
  · refine z_iconst hC d_X_remove_15 ?_
    have hP9 := hP.sub (ws' := [(x, .inr (4, [.ref qs, .ref qr, .ref qw, .ref qg, .ref qu, .ref qp, sp, .int (iI lv)])), (qs, .inr (2, [.ref ql, .ref qh])), (ql, eL t.2.1 2000 Lo), (qh, eL t.2.1 2000 Hi), (qp, .inr (0, [.ref qt, .ref qn, .int (iI z)])), (qt, eI t.1 400 T), (qn, eI t.1 4800 F)]) [0, 1, 2, 3, 4, 5, 6] rfl
    have hD9 := hD.sub (ws' := [(x, .inr (4, [.ref qs, .ref qr, .ref qw, .ref qg, .ref qu, .ref qp, sp, .int (iI lv)])), (qs, .inr (2, [.ref ql, .ref qh])), (ql, eL t.2.1 2000 Lo), (qh, eL t.2.1 2000 Hi), (qp, .inr (0, [.ref qt, .ref qn, .int (iI z)])), (qt, eI t.1 400 T), (qn, eI t.1 4800 F)]) [0, 1, 2, 3, 4, 5, 6] (by decide) rfl
    exact ret0 (false, z, T, F, Lo, Hi) _ _ 16 _ d_X_remove_16 ⟨rfl, Or.inr ⟨rfl, by omega, rfl, rfl, rfl, rfl, rfl⟩⟩ hP9 hD9 hS
  · refine lv_iload_n hC.1 hC.2.1 d_X_remove_4 rfl (lv_at hl 1 rfl) ?_
    refine lv_aload_n hC.1 hC.2.1 d_X_remove_5 rfl (lv_at hl 0 rfl) ?_
    refine z_get (ci := 4) (C := R_X) (T := F_X) (N := 8) (v := .ref qp) hC in_X hK hP 0 rfl rfl 5 (by decide) k_103 rfl d_X_remove_6 ?_
    refine z_getN (ci := 0) (C := R_Ha) (T := F_Ha) (N := 3) (v := .int (iI z)) hC in_Ha hK hP 4 rfl rfl 2 (by decide) hE.1.2.2.2.2.1 rfl d_X_remove_9 ?_
    refine z_icmp_lt (tgt := 17) hC d_X_remove_12 (by decide) (by omega) (by omega) (fun h12 => ?_) (fun h12 => ?_)
    · refine lv_aload_n hC.1 hC.2.1 d_X_remove_17 rfl (lv_at hl 0 rfl) ?_
      refine z_get (ci := 4) (C := R_X) (T := F_X) (N := 8) (v := .ref qs) hC in_X hK hP 0 rfl rfl 0 (by decide) k_98 rfl d_X_remove_18 ?_
      refine lv_iload_n hC.1 hC.2.1 d_X_remove_21 rfl (lv_at hl 1 rfl) ?_
      refine lv_aload_n hC.1 hC.2.1 d_X_remove_22 rfl (lv_at hl 0 rfl) ?_
      refine z_get (ci := 4) (C := R_X) (T := F_X) (N := 8) (v := .ref qp) hC in_X hK hP 0 rfl rfl 5 (by decide) k_103 rfl d_X_remove_23 ?_
      refine z_getN (ci := 0) (C := R_Ha) (T := F_Ha) (N := 3) (v := .int (iI z)) hC in_Ha hK hP 4 rfl rfl 2 (by decide) hE.1.2.2.2.2.1 rfl d_X_remove_26 ?_
      refine z_mVv (As := [.int (iI n), .int (iI z)]) (rest := []) (wr := [(x, .inr (4, [.ref qs, .ref qr, .ref qw, .ref qg, .ref qu, .ref qp, sp, .int (iI lv)])), (qp, .inr (0, [.ref qt, .ref qn, .int (iI z)])), (qt, eI t.1 400 T), (qn, eI t.1 4800 F)]) hC (c_St_closeUp l D t ts qs ql qh Lo Hi n z (by omega) (by omega) _) (cw_V hC k_236 k_237 k_238 k_2 k_239 ye_St_closeUp (by decide)) hP hD hK hE hS hA [1, 2, 3] [0, 4, 5, 6] (by decide) rfl rfl (by decide) (by decide) 1 (ci := 2) rfl rfl rfl rfl hl.1 rfl (Nat.le_of_ble_eq_true rfl) ⟨Nat.le_of_ble_eq_true rfl, Nat.le_of_ble_eq_true rfl⟩ d_X_remove_29 (fun u1 H locs eu1 hP hD hS => ?_)
      obtain ⟨u1L, u1H⟩ := u1
      obtain ⟨eu1L, eu1H⟩ := eu1
      dsimp only at eu1L eu1H hP hD
      have hP : va_P D classes [(x, .inr (4, [.ref qs, .ref qr, .ref qw, .ref qg, .ref qu, .ref qp, sp, .int (iI lv)])), (qp, .inr (0, [.ref qt, .ref qn, .int (iI z)])), (qt, eI t.1 400 T), (qn, eI t.1 4800 F), (qs, .inr (2, [.ref ql, .ref qh])), (ql, eL t.2.1 2000 u1L), (qh, eL t.2.1 2000 u1H)] H := hP
      have hD : va_D A [(x, .inr (4, [.ref qs, .ref qr, .ref qw, .ref qg, .ref qu, .ref qp, sp, .int (iI lv)])), (qp, .inr (0, [.ref qt, .ref qn, .int (iI z)])), (qt, eI t.1 400 T), (qn, eI t.1 4800 F), (qs, .inr (2, [.ref ql, .ref qh])), (ql, eL t.2.1 2000 u1L), (qh, eL t.2.1 2000 u1H)] := hD
      refine lv_aload_n hC.1 hC.2.1 d_X_remove_32 rfl (lv_at hl 0 rfl) ?_
      refine z_get (ci := 4) (C := R_X) (T := F_X) (N := 8) (v := .ref qp) hC in_X hK hP 0 rfl rfl 5 (by decide) k_103 rfl d_X_remove_33 ?_
      refine lv_iload_n hC.1 hC.2.1 d_X_remove_36 rfl (lv_at hl 1 rfl) ?_
      refine z_mVv (As := [.int (iI n)]) (rest := []) (wr := [(x, .inr (4, [.ref qs, .ref qr, .ref qw, .ref qg, .ref qu, .ref qp, sp, .int (iI lv)])), (qs, .inr (2, [.ref ql, .ref qh])), (ql, eL t.2.1 2000 u1L), (qh, eL t.2.1 2000 u1H)]) hC (c_Ha_takeOut l D t ts qp qt qn z T F n (by omega) (by omega) _) (cw_V hC k_241 k_242 k_243 k_5 k_244 ye_Ha_takeOut (by decide)) hP hD hK hE hS hA [1, 2, 3] [0, 4, 5, 6] (by decide) rfl rfl (by decide) (by decide) 1 (ci := 0) rfl rfl rfl rfl hl.1 rfl (Nat.le_of_ble_eq_true rfl) ⟨Nat.le_of_ble_eq_true rfl, Nat.le_of_ble_eq_true rfl⟩ d_X_remove_37 (fun u2 H locs eu2 hP hD hS => ?_)
      obtain ⟨u2T, u2N⟩ := u2
      obtain ⟨eu2T, eu2N⟩ := eu2
      dsimp only at eu2T eu2N hP hD
      have hP : va_P D classes [(x, .inr (4, [.ref qs, .ref qr, .ref qw, .ref qg, .ref qu, .ref qp, sp, .int (iI lv)])), (qs, .inr (2, [.ref ql, .ref qh])), (ql, eL t.2.1 2000 u1L), (qh, eL t.2.1 2000 u1H), (qp, .inr (0, [.ref qt, .ref qn, .int (iI (z - 1))])), (qt, eI t.1 400 u2T), (qn, eI t.1 4800 u2N)] H := hP
      have hD : va_D A [(x, .inr (4, [.ref qs, .ref qr, .ref qw, .ref qg, .ref qu, .ref qp, sp, .int (iI lv)])), (qs, .inr (2, [.ref ql, .ref qh])), (ql, eL t.2.1 2000 u1L), (qh, eL t.2.1 2000 u1H), (qp, .inr (0, [.ref qt, .ref qn, .int (iI (z - 1))])), (qt, eI t.1 400 u2T), (qn, eI t.1 4800 u2N)] := hD
      refine z_iconst hC d_X_remove_40 ?_
      have hP9 := hP.sub (ws' := [(x, .inr (4, [.ref qs, .ref qr, .ref qw, .ref qg, .ref qu, .ref qp, sp, .int (iI lv)])), (qs, .inr (2, [.ref ql, .ref qh])), (ql, eL t.2.1 2000 u1L), (qh, eL t.2.1 2000 u1H), (qp, .inr (0, [.ref qt, .ref qn, .int (iI (z - 1))])), (qt, eI t.1 400 u2T), (qn, eI t.1 4800 u2N)]) [0, 1, 2, 3, 4, 5, 6] rfl
      have hD9 := hD.sub (ws' := [(x, .inr (4, [.ref qs, .ref qr, .ref qw, .ref qg, .ref qu, .ref qp, sp, .int (iI lv)])), (qs, .inr (2, [.ref ql, .ref qh])), (ql, eL t.2.1 2000 u1L), (qh, eL t.2.1 2000 u1H), (qp, .inr (0, [.ref qt, .ref qn, .int (iI (z - 1))])), (qt, eI t.1 400 u2T), (qn, eI t.1 4800 u2N)]) [0, 1, 2, 3, 4, 5, 6] (by decide) rfl
      exact ret1 (true, z - 1, u2T, u2N, u1L, u1H) _ _ 41 _ d_X_remove_41 ⟨rfl, Or.inl ⟨rfl, by omega, by omega, rfl, eu2T, eu2N, eu1L, eu1H⟩⟩ hP9 hD9 hS
    · refine z_iconst hC d_X_remove_15 ?_
      have hP9 := hP.sub (ws' := [(x, .inr (4, [.ref qs, .ref qr, .ref qw, .ref qg, .ref qu, .ref qp, sp, .int (iI lv)])), (qs, .inr (2, [.ref ql, .ref qh])), (ql, eL t.2.1 2000 Lo), (qh, eL t.2.1 2000 Hi), (qp, .inr (0, [.ref qt, .ref qn, .int (iI z)])), (qt, eI t.1 400 T), (qn, eI t.1 4800 F)]) [0, 1, 2, 3, 4, 5, 6] rfl
      have hD9 := hD.sub (ws' := [(x, .inr (4, [.ref qs, .ref qr, .ref qw, .ref qg, .ref qu, .ref qp, sp, .int (iI lv)])), (qs, .inr (2, [.ref ql, .ref qh])), (ql, eL t.2.1 2000 Lo), (qh, eL t.2.1 2000 Hi), (qp, .inr (0, [.ref qt, .ref qn, .int (iI z)])), (qt, eI t.1 400 T), (qn, eI t.1 4800 F)]) [0, 1, 2, 3, 4, 5, 6] (by decide) rfl
      exact ret0 (false, z, T, F, Lo, Hi) _ _ 16 _ d_X_remove_16 ⟨rfl, Or.inr ⟨rfl, by omega, rfl, rfl, rfl, rfl, rfl⟩⟩ hP9 hD9 hS
theorem ye_X_inside : ye y_X_inside R_X 4 := by unfold ye; decide +kernel
abbrev rm_X_inside : Room := { frames := 2, cells := 0, slots := 0, locals := 43 }
set_option maxHeartbeats 4000000 in
set_option maxRecDepth 100000 in
theorem c_X_inside (l : Launch) (D : va_G) (t : vt) (ts : Nat → Nat) (x qs qr qw qg qu qp ql qh qt qn : Nat) (sp : Value) (lv z : Int) (Lo Hi T F : Int → Int) (hz : 0 ≤ z ∧ z ≤ 400) (hLo : bL Lo) (hHi : bL Hi) (hT : bT T) (hF : bF F) (Wk Hg : Int → Int) (hWk : bF Wk) (hHg : bL Hg) (a b c d : Int) (ha : inI a) (hb : inI b) (hc : inI c) (hd : inI d) (sz : Nat) : Met l y_X_inside (.code y_X_inside b_X_inside 6 (some .int) :: tb_ws) rm_X_inside (MP D t ts [.ref x, .int (iI a), .int (iI b), .int (iI c), .int (iI d)] [(x, .inr (4, [.ref qs, .ref qr, .ref qw, .ref qg, .ref qu, .ref qp, sp, .int (iI lv)])), (qs, .inr (2, [.ref ql, .ref qh])), (ql, eL t.2.1 2000 Lo), (qh, eL t.2.1 2000 Hi), (qp, .inr (0, [.ref qt, .ref qn, .int (iI z)])), (qt, eI t.1 400 T), (qn, eI t.1 4800 F), (qw, eI t.1 20 Wk), (qg, eL t.2.1 5 Hg)] sz) (va_Qi (fun zr u => zr = iI ((fun u : Int × (Int → Int) × (Int → Int) => u.1) u) ∧ ((fun u : Int × (Int → Int) × (Int → Int) => u.1 = insZ Lo Hi z a b c d ∧ bF u.2.1 ∧ bL u.2.2)) u) (MB D (va_A [(x, .inr (4, [.ref qs, .ref qr, .ref qw, .ref qg, .ref qu, .ref qp, sp, .int (iI lv)])), (qs, .inr (2, [.ref ql, .ref qh])), (ql, eL t.2.1 2000 Lo), (qh, eL t.2.1 2000 Hi), (qp, .inr (0, [.ref qt, .ref qn, .int (iI z)])), (qt, eI t.1 400 T), (qn, eI t.1 4800 F), (qw, eI t.1 20 Wk), (qg, eL t.2.1 5 Hg)] sz) (fun u : Int × (Int → Int) × (Int → Int) => [(x, .inr (4, [.ref qs, .ref qr, .ref qw, .ref qg, .ref qu, .ref qp, sp, .int (iI lv)])), (qs, .inr (2, [.ref ql, .ref qh])), (ql, eL t.2.1 2000 Lo), (qh, eL t.2.1 2000 Hi), (qp, .inr (0, [.ref qt, .ref qn, .int (iI z)])), (qt, eI t.1 400 T), (qn, eI t.1 4800 F), (qw, eI t.1 20 u.2.1), (qg, eL t.2.1 5 u.2.2)])) (va_A [(x, .inr (4, [.ref qs, .ref qr, .ref qw, .ref qg, .ref qu, .ref qp, sp, .int (iI lv)])), (qs, .inr (2, [.ref ql, .ref qh])), (ql, eL t.2.1 2000 Lo), (qh, eL t.2.1 2000 Hi), (qp, .inr (0, [.ref qt, .ref qn, .int (iI z)])), (qt, eI t.1 400 T), (qn, eI t.1 4800 F), (qw, eI t.1 20 Wk), (qg, eL t.2.1 5 Hg)] sz)) 0 0 (va_A [(x, .inr (4, [.ref qs, .ref qr, .ref qw, .ref qg, .ref qu, .ref qp, sp, .int (iI lv)])), (qs, .inr (2, [.ref ql, .ref qh])), (ql, eL t.2.1 2000 Lo), (qh, eL t.2.1 2000 Hi), (qp, .inr (0, [.ref qt, .ref qn, .int (iI z)])), (qt, eI t.1 400 T), (qn, eI t.1 4800 F), (qw, eI t.1 20 Wk), (qg, eL t.2.1 5 Hg)] sz) := by
  refine m_i (by decide +kernel) (Nat.le_of_ble_eq_true rfl) ?_
  intro zp ze zs zm zb zt zc zQ A ls hC hA hP hK hD hE hS hl ret
  have hl : lv_has ls 6 [(0, .ref x), (1, .int (iI a)), (2, .int (iI b)), (3, .int (iI c)), (4, .int (iI d))] := hl
  have retv : ∀ (u : Int × (Int → Int) × (Int → Int)) (H : Heap) (locs : List Loc) (pc : Nat) (ls : Array Slot) (zv : Int), decode b_X_inside pc = .ok (.ireturn, 1) → (zv = u.1 ∧ (u.1 = insZ Lo Hi z a b c d ∧ bF u.2.1 ∧ bL u.2.2)) → va_P D classes ([(x, .inr (4, [.ref qs, .ref qr, .ref qw, .ref qg, .ref qu, .ref qp, sp, .int (iI lv)])), (qs, .inr (2, [.ref ql, .ref qh])), (ql, eL t.2.1 2000 Lo), (qh, eL t.2.1 2000 Hi), (qp, .inr (0, [.ref qt, .ref qn, .int (iI z)])), (qt, eI t.1 400 T), (qn, eI t.1 4800 F), (qw, eI t.1 20 u.2.1), (qg, eL t.2.1 5 u.2.2)]) H → va_D A ([(x, .inr (4, [.ref qs, .ref qr, .ref qw, .ref qg, .ref qu, .ref qp, sp, .int (iI lv)])), (qs, .inr (2, [.ref ql, .ref qh])), (ql, eL t.2.1 2000 Lo), (qh, eL t.2.1 2000 Hi), (qp, .inr (0, [.ref qt, .ref qn, .int (iI z)])), (qt, eI t.1 400 T), (qn, eI t.1 4800 F), (qw, eI t.1 20 u.2.1), (qg, eL t.2.1 5 u.2.2)]) → va_S A zs.heap H locs → W zp l ze rm_X_inside zs zm [.ref x, .int (iI a), .int (iI b), .int (iI c), .int (iI d)].toArray zb zt zc H locs 0 0 zQ (F0 zm pc ls [.int (iI zv)]) := fun u H locs pc ls v d h hP hD hS => by rw [h.1]; exact ret u H locs pc ls d h.2 hP hD hS
  refine lv_iload_n hC.1 hC.2.1 d_X_inside_0 rfl (lv_at hl 1 rfl) ?_
  refine lv_iload_n hC.1 hC.2.1 d_X_inside_1 rfl (lv_at hl 2 rfl) ?_
  refine lv_iload_n hC.1 hC.2.1 d_X_inside_2 rfl (lv_at hl 3 rfl) ?_
  refine lv_iload hC.1 hC.2.1 d_X_inside_3 (lv_at hl 4 rfl) ?_
  refine z_roSi (As := [.int (iI a), .int (iI b), .int (iI c), .int (iI d)]) (rest := []) hC (c_Po_within l D t ts a b c d (by omega) (by omega) (by omega) (by omega)) (cw_S hC k_171 k_172 k_8 k_173 ye_Po_within (by decide)) hP hK hE hS [] rfl rfl hl.1 rfl (Nat.le_of_ble_eq_true rfl) ⟨Nat.le_of_ble_eq_true rfl, Nat.le_of_ble_eq_true rfl⟩ d_X_inside_5 ?_
  refine z_if_neB (tgt := 13) hC d_X_inside_8 (by decide) (fun h8 => ?_) (fun h8 => ?_)
  · have g := h8
    simp [nearZ] at g
    refine lv_aload_n hC.1 hC.2.1 d_X_inside_13 rfl (lv_at hl 0 rfl) ?_
    refine z_get (ci := 4) (C := R_X) (T := F_X) (N := 8) (v := .ref qw) hC in_X hK hP 0 rfl rfl 2 (by decide) k_100 rfl d_X_inside_14 ?_
    refine z_iconst hC d_X_inside_17 ?_
    refine lv_iload_n hC.1 hC.2.1 d_X_inside_18 rfl (lv_at hl 1 rfl) ?_
    refine lv_iload_n hC.1 hC.2.1 d_X_inside_19 rfl (lv_at hl 2 rfl) ?_
    refine lv_iload_n hC.1 hC.2.1 d_X_inside_20 rfl (lv_at hl 3 rfl) ?_
    refine lv_iload hC.1 hC.2.1 d_X_inside_21 (lv_at hl 4 rfl) ?_
    refine z_mSv (As := [.ref qw, .int (iI 0), .int (iI a), .int (iI b), .int (iI c), .int (iI d)]) (rest := []) (wr := [(x, .inr (4, [.ref qs, .ref qr, .ref qw, .ref qg, .ref qu, .ref qp, sp, .int (iI lv)])), (qs, .inr (2, [.ref ql, .ref qh])), (ql, eL t.2.1 2000 Lo), (qh, eL t.2.1 2000 Hi), (qp, .inr (0, [.ref qt, .ref qn, .int (iI z)])), (qt, eI t.1 400 T), (qn, eI t.1 4800 F), (qg, eL t.2.1 5 Hg)]) hC (c_Po_set l D t ts qw 20 Wk 0 a b c d (by decide) (by omega) _) (cw_S hC k_179 k_180 k_8 k_181 ye_Po_set (by decide)) hP hD hK hE hS hA [7] [0, 1, 2, 3, 4, 5, 6, 8] (by decide) rfl rfl (by decide) (by decide) rfl hl.1 rfl (Nat.le_of_ble_eq_true rfl) ⟨Nat.le_of_ble_eq_true rfl, Nat.le_of_ble_eq_true rfl⟩ d_X_inside_23 (fun u1 H locs eu1 hP hD hS => ?_)
    subst eu1
    have hP : va_P D classes [(x, .inr (4, [.ref qs, .ref qr, .ref qw, .ref qg, .ref qu, .ref qp, sp, .int (iI lv)])), (qs, .inr (2, [.ref ql, .ref qh])), (ql, eL t.2.1 2000 Lo), (qh, eL t.2.1 2000 Hi), (qp, .inr (0, [.ref qt, .ref qn, .int (iI z)])), (qt, eI t.1 400 T), (qn, eI t.1 4800 F), (qg, eL t.2.1 5 Hg), (qw, eI t.1 20 (uZ (uZ (uZ (uZ Wk 0 a) 1 b) 2 c) 3 d))] H := hP
    have hD : va_D A [(x, .inr (4, [.ref qs, .ref qr, .ref qw, .ref qg, .ref qu, .ref qp, sp, .int (iI lv)])), (qs, .inr (2, [.ref ql, .ref qh])), (ql, eL t.2.1 2000 Lo), (qh, eL t.2.1 2000 Hi), (qp, .inr (0, [.ref qt, .ref qn, .int (iI z)])), (qt, eI t.1 400 T), (qn, eI t.1 4800 F), (qg, eL t.2.1 5 Hg), (qw, eI t.1 20 (uZ (uZ (uZ (uZ Wk 0 a) 1 b) 2 c) 3 d))] := hD
    obtain ⟨WK, eWK⟩ : ∃ G : Int → Int, G = (uZ (uZ (uZ (uZ Wk 0 a) 1 b) 2 c) 3 d) := ⟨_, rfl⟩
    rw [← eWK] at hP hD
    have hWK : bF WK := by rw [eWK]; exact bF_uZ (bF_uZ (bF_uZ (bF_uZ hWk (by omega)) (by omega)) (by omega)) (by omega)
    refine z_iconst hC d_X_inside_26 ?_
    refine lv_istore (lv' := [(5, .int (iI 0)), (0, .ref x), (1, .int (iI a)), (2, .int (iI b)), (3, .int (iI c)), (4, .int (iI d))]) hC.1 hC.2.1 d_X_inside_27 hl (by decide) rfl (fun ls hl => ?_)
    refine lv_iload hC.1 hC.2.1 d_X_inside_29 (lv_at hl 0 rfl) ?_
    refine z_iconst hC d_X_inside_31 ?_
    refine z_icmp_ge (tgt := 58) hC d_X_inside_32 (by decide) (by decide) (by decide) (fun h => absurd h (by decide)) (fun _ => ?_)
    refine lv_aload_n hC.1 hC.2.1 d_X_inside_35 rfl (lv_at hl 1 rfl) ?_
    refine z_get (ci := 4) (C := R_X) (T := F_X) (N := 8) (v := .ref qg) hC in_X hK hP 0 rfl rfl 3 (by decide) k_101 rfl d_X_inside_36 ?_
    refine lv_iload hC.1 hC.2.1 d_X_inside_39 (lv_at hl 0 rfl) ?_
    refine lv_iload hC.1 hC.2.1 d_X_inside_41 (lv_at hl 0 rfl) ?_
    refine lv_aload_n hC.1 hC.2.1 d_X_inside_43 rfl (lv_at hl 1 rfl) ?_
    refine z_get (ci := 4) (C := R_X) (T := F_X) (N := 8) (v := .ref qw) hC in_X hK hP 0 rfl rfl 2 (by decide) k_100 rfl d_X_inside_44 ?_
    refine z_iconst hC d_X_inside_47 ?_
    refine z_roSl (As := [.int (iI 0), .ref qw, .int (iI 0)]) (rest := [.int (iI 0), .ref qg]) hC (c_Po_height l D t ts 0 qw 20 WK 0 (by omega) (by decide) (by omega) hWK) (cw_S hC k_379 k_157 k_8 k_158 ye_Po_height (by decide)) hP hK hE hS [8] rfl rfl hl.1 rfl (Nat.le_of_ble_eq_true rfl) ⟨Nat.le_of_ble_eq_true rfl, Nat.le_of_ble_eq_true rfl⟩ d_X_inside_48 ?_
    refine z_last (ws' := [(x, .inr (4, [.ref qs, .ref qr, .ref qw, .ref qg, .ref qu, .ref qp, sp, .int (iI lv)])), (qs, .inr (2, [.ref ql, .ref qh])), (ql, eL t.2.1 2000 Lo), (qh, eL t.2.1 2000 Hi), (qp, .inr (0, [.ref qt, .ref qn, .int (iI z)])), (qt, eI t.1 400 T), (qn, eI t.1 4800 F), (qg, eL t.2.1 5 (uZ Hg 0 (hZ 0 WK 0))), (qw, eI t.1 20 WK)]) hC hK hP hD hS 7 rfl (by omega) rfl d_X_inside_51 (fun H locs hP hD hS => ?_)
    refine lv_iinc (v := iI 1) (lv' := [(5, .int (iI 1)), (0, .ref x), (1, .int (iI a)), (2, .int (iI b)), (3, .int (iI c)), (4, .int (iI d))]) hC.1 hC.2.1 d_X_inside_52 hl (k := 0) rfl (z_inc (by omega)) (by decide) rfl (fun ls hl => ?_)
    refine z_goto (tgt := 29) hC d_X_inside_55 (by decide) ?_
    refine lv_iload hC.1 hC.2.1 d_X_inside_29 (lv_at hl 0 rfl) ?_
    refine z_iconst hC d_X_inside_31 ?_
    refine z_icmp_ge (tgt := 58) hC d_X_inside_32 (by decide) (by decide) (by decide) (fun h => absurd h (by decide)) (fun _ => ?_)
    refine lv_aload_n hC.1 hC.2.1 d_X_inside_35 rfl (lv_at hl 1 rfl) ?_
    refine z_get (ci := 4) (C := R_X) (T := F_X) (N := 8) (v := .ref qg) hC in_X hK hP 0 rfl rfl 3 (by decide) k_101 rfl d_X_inside_36 ?_
    refine lv_iload hC.1 hC.2.1 d_X_inside_39 (lv_at hl 0 rfl) ?_
    refine lv_iload hC.1 hC.2.1 d_X_inside_41 (lv_at hl 0 rfl) ?_
    refine lv_aload_n hC.1 hC.2.1 d_X_inside_43 rfl (lv_at hl 1 rfl) ?_
    refine z_get (ci := 4) (C := R_X) (T := F_X) (N := 8) (v := .ref qw) hC in_X hK hP 0 rfl rfl 2 (by decide) k_100 rfl d_X_inside_44 ?_
    refine z_iconst hC d_X_inside_47 ?_
    refine z_roSl (As := [.int (iI 1), .ref qw, .int (iI 0)]) (rest := [.int (iI 1), .ref qg]) hC (c_Po_height l D t ts 1 qw 20 WK 0 (by omega) (by decide) (by omega) hWK) (cw_S hC k_379 k_157 k_8 k_158 ye_Po_height (by decide)) hP hK hE hS [8] rfl rfl hl.1 rfl (Nat.le_of_ble_eq_true rfl) ⟨Nat.le_of_ble_eq_true rfl, Nat.le_of_ble_eq_true rfl⟩ d_X_inside_48 ?_
    refine z_last (ws' := [(x, .inr (4, [.ref qs, .ref qr, .ref qw, .ref qg, .ref qu, .ref qp, sp, .int (iI lv)])), (qs, .inr (2, [.ref ql, .ref qh])), (ql, eL t.2.1 2000 Lo), (qh, eL t.2.1 2000 Hi), (qp, .inr (0, [.ref qt, .ref qn, .int (iI z)])), (qt, eI t.1 400 T), (qn, eI t.1 4800 F), (qg, eL t.2.1 5 (uZ (uZ Hg 0 (hZ 0 WK 0)) 1 (hZ 1 WK 0))), (qw, eI t.1 20 WK)]) hC hK hP hD hS 7 rfl (by omega) rfl d_X_inside_51 (fun H locs hP hD hS => ?_)
    refine lv_iinc (v := iI 2) (lv' := [(5, .int (iI 2)), (0, .ref x), (1, .int (iI a)), (2, .int (iI b)), (3, .int (iI c)), (4, .int (iI d))]) hC.1 hC.2.1 d_X_inside_52 hl (k := 0) rfl (z_inc (by omega)) (by decide) rfl (fun ls hl => ?_)
    refine z_goto (tgt := 29) hC d_X_inside_55 (by decide) ?_
    refine lv_iload hC.1 hC.2.1 d_X_inside_29 (lv_at hl 0 rfl) ?_
    refine z_iconst hC d_X_inside_31 ?_
    refine z_icmp_ge (tgt := 58) hC d_X_inside_32 (by decide) (by decide) (by decide) (fun h => absurd h (by decide)) (fun _ => ?_)
    refine lv_aload_n hC.1 hC.2.1 d_X_inside_35 rfl (lv_at hl 1 rfl) ?_
    refine z_get (ci := 4) (C := R_X) (T := F_X) (N := 8) (v := .ref qg) hC in_X hK hP 0 rfl rfl 3 (by decide) k_101 rfl d_X_inside_36 ?_
    refine lv_iload hC.1 hC.2.1 d_X_inside_39 (lv_at hl 0 rfl) ?_
    refine lv_iload hC.1 hC.2.1 d_X_inside_41 (lv_at hl 0 rfl) ?_
    refine lv_aload_n hC.1 hC.2.1 d_X_inside_43 rfl (lv_at hl 1 rfl) ?_
    refine z_get (ci := 4) (C := R_X) (T := F_X) (N := 8) (v := .ref qw) hC in_X hK hP 0 rfl rfl 2 (by decide) k_100 rfl d_X_inside_44 ?_
    refine z_iconst hC d_X_inside_47 ?_
    refine z_roSl (As := [.int (iI 2), .ref qw, .int (iI 0)]) (rest := [.int (iI 2), .ref qg]) hC (c_Po_height l D t ts 2 qw 20 WK 0 (by omega) (by decide) (by omega) hWK) (cw_S hC k_379 k_157 k_8 k_158 ye_Po_height (by decide)) hP hK hE hS [8] rfl rfl hl.1 rfl (Nat.le_of_ble_eq_true rfl) ⟨Nat.le_of_ble_eq_true rfl, Nat.le_of_ble_eq_true rfl⟩ d_X_inside_48 ?_
    refine z_last (ws' := [(x, .inr (4, [.ref qs, .ref qr, .ref qw, .ref qg, .ref qu, .ref qp, sp, .int (iI lv)])), (qs, .inr (2, [.ref ql, .ref qh])), (ql, eL t.2.1 2000 Lo), (qh, eL t.2.1 2000 Hi), (qp, .inr (0, [.ref qt, .ref qn, .int (iI z)])), (qt, eI t.1 400 T), (qn, eI t.1 4800 F), (qg, eL t.2.1 5 (uZ (uZ (uZ Hg 0 (hZ 0 WK 0)) 1 (hZ 1 WK 0)) 2 (hZ 2 WK 0))), (qw, eI t.1 20 WK)]) hC hK hP hD hS 7 rfl (by omega) rfl d_X_inside_51 (fun H locs hP hD hS => ?_)
    refine lv_iinc (v := iI 3) (lv' := [(5, .int (iI 3)), (0, .ref x), (1, .int (iI a)), (2, .int (iI b)), (3, .int (iI c)), (4, .int (iI d))]) hC.1 hC.2.1 d_X_inside_52 hl (k := 0) rfl (z_inc (by omega)) (by decide) rfl (fun ls hl => ?_)
    refine z_goto (tgt := 29) hC d_X_inside_55 (by decide) ?_
    refine lv_iload hC.1 hC.2.1 d_X_inside_29 (lv_at hl 0 rfl) ?_
    refine z_iconst hC d_X_inside_31 ?_
    refine z_icmp_ge (tgt := 58) hC d_X_inside_32 (by decide) (by decide) (by decide) (fun h => absurd h (by decide)) (fun _ => ?_)
    refine lv_aload_n hC.1 hC.2.1 d_X_inside_35 rfl (lv_at hl 1 rfl) ?_
    refine z_get (ci := 4) (C := R_X) (T := F_X) (N := 8) (v := .ref qg) hC in_X hK hP 0 rfl rfl 3 (by decide) k_101 rfl d_X_inside_36 ?_
    refine lv_iload hC.1 hC.2.1 d_X_inside_39 (lv_at hl 0 rfl) ?_
    refine lv_iload hC.1 hC.2.1 d_X_inside_41 (lv_at hl 0 rfl) ?_
    refine lv_aload_n hC.1 hC.2.1 d_X_inside_43 rfl (lv_at hl 1 rfl) ?_
    refine z_get (ci := 4) (C := R_X) (T := F_X) (N := 8) (v := .ref qw) hC in_X hK hP 0 rfl rfl 2 (by decide) k_100 rfl d_X_inside_44 ?_
    refine z_iconst hC d_X_inside_47 ?_
    refine z_roSl (As := [.int (iI 3), .ref qw, .int (iI 0)]) (rest := [.int (iI 3), .ref qg]) hC (c_Po_height l D t ts 3 qw 20 WK 0 (by omega) (by decide) (by omega) hWK) (cw_S hC k_379 k_157 k_8 k_158 ye_Po_height (by decide)) hP hK hE hS [8] rfl rfl hl.1 rfl (Nat.le_of_ble_eq_true rfl) ⟨Nat.le_of_ble_eq_true rfl, Nat.le_of_ble_eq_true rfl⟩ d_X_inside_48 ?_
    refine z_last (ws' := [(x, .inr (4, [.ref qs, .ref qr, .ref qw, .ref qg, .ref qu, .ref qp, sp, .int (iI lv)])), (qs, .inr (2, [.ref ql, .ref qh])), (ql, eL t.2.1 2000 Lo), (qh, eL t.2.1 2000 Hi), (qp, .inr (0, [.ref qt, .ref qn, .int (iI z)])), (qt, eI t.1 400 T), (qn, eI t.1 4800 F), (qg, eL t.2.1 5 (uZ (uZ (uZ (uZ Hg 0 (hZ 0 WK 0)) 1 (hZ 1 WK 0)) 2 (hZ 2 WK 0)) 3 (hZ 3 WK 0))), (qw, eI t.1 20 WK)]) hC hK hP hD hS 7 rfl (by omega) rfl d_X_inside_51 (fun H locs hP hD hS => ?_)
    refine lv_iinc (v := iI 4) (lv' := [(5, .int (iI 4)), (0, .ref x), (1, .int (iI a)), (2, .int (iI b)), (3, .int (iI c)), (4, .int (iI d))]) hC.1 hC.2.1 d_X_inside_52 hl (k := 0) rfl (z_inc (by omega)) (by decide) rfl (fun ls hl => ?_)
    refine z_goto (tgt := 29) hC d_X_inside_55 (by decide) ?_
    refine lv_iload hC.1 hC.2.1 d_X_inside_29 (lv_at hl 0 rfl) ?_
    refine z_iconst hC d_X_inside_31 ?_
    refine z_icmp_ge (tgt := 58) hC d_X_inside_32 (by decide) (by decide) (by decide) (fun h => absurd h (by decide)) (fun _ => ?_)
    refine lv_aload_n hC.1 hC.2.1 d_X_inside_35 rfl (lv_at hl 1 rfl) ?_
    refine z_get (ci := 4) (C := R_X) (T := F_X) (N := 8) (v := .ref qg) hC in_X hK hP 0 rfl rfl 3 (by decide) k_101 rfl d_X_inside_36 ?_
    refine lv_iload hC.1 hC.2.1 d_X_inside_39 (lv_at hl 0 rfl) ?_
    refine lv_iload hC.1 hC.2.1 d_X_inside_41 (lv_at hl 0 rfl) ?_
    refine lv_aload_n hC.1 hC.2.1 d_X_inside_43 rfl (lv_at hl 1 rfl) ?_
    refine z_get (ci := 4) (C := R_X) (T := F_X) (N := 8) (v := .ref qw) hC in_X hK hP 0 rfl rfl 2 (by decide) k_100 rfl d_X_inside_44 ?_
    refine z_iconst hC d_X_inside_47 ?_
    refine z_roSl (As := [.int (iI 4), .ref qw, .int (iI 0)]) (rest := [.int (iI 4), .ref qg]) hC (c_Po_height l D t ts 4 qw 20 WK 0 (by omega) (by decide) (by omega) hWK) (cw_S hC k_379 k_157 k_8 k_158 ye_Po_height (by decide)) hP hK hE hS [8] rfl rfl hl.1 rfl (Nat.le_of_ble_eq_true rfl) ⟨Nat.le_of_ble_eq_true rfl, Nat.le_of_ble_eq_true rfl⟩ d_X_inside_48 ?_
    refine z_last (ws' := [(x, .inr (4, [.ref qs, .ref qr, .ref qw, .ref qg, .ref qu, .ref qp, sp, .int (iI lv)])), (qs, .inr (2, [.ref ql, .ref qh])), (ql, eL t.2.1 2000 Lo), (qh, eL t.2.1 2000 Hi), (qp, .inr (0, [.ref qt, .ref qn, .int (iI z)])), (qt, eI t.1 400 T), (qn, eI t.1 4800 F), (qg, eL t.2.1 5 (uZ (uZ (uZ (uZ (uZ Hg 0 (hZ 0 WK 0)) 1 (hZ 1 WK 0)) 2 (hZ 2 WK 0)) 3 (hZ 3 WK 0)) 4 (hZ 4 WK 0))), (qw, eI t.1 20 WK)]) hC hK hP hD hS 7 rfl (by omega) rfl d_X_inside_51 (fun H locs hP hD hS => ?_)
    refine lv_iinc (v := iI 5) (lv' := [(5, .int (iI 5)), (0, .ref x), (1, .int (iI a)), (2, .int (iI b)), (3, .int (iI c)), (4, .int (iI d))]) hC.1 hC.2.1 d_X_inside_52 hl (k := 0) rfl (z_inc (by omega)) (by decide) rfl (fun ls hl => ?_)
    refine z_goto (tgt := 29) hC d_X_inside_55 (by decide) ?_
    refine lv_iload hC.1 hC.2.1 d_X_inside_29 (lv_at hl 0 rfl) ?_
    refine z_iconst hC d_X_inside_31 ?_
    refine z_icmp_ge (tgt := 58) hC d_X_inside_32 (by decide) (by decide) (by decide) (fun _ => ?_) (fun h => absurd h (by decide))
    obtain ⟨HS, eHS⟩ : ∃ G : Int → Int, G = (uZ (uZ (uZ (uZ (uZ Hg 0 (hZ 0 WK 0)) 1 (hZ 1 WK 0)) 2 (hZ 2 WK 0)) 3 (hZ 3 WK 0)) 4 (hZ 4 WK 0)) := ⟨_, rfl⟩
    rw [← eHS] at hP hD
    have hHS : bL HS := by
      rw [eHS]
      have q : ∀ k, -4000000000000000000 ≤ hZ k WK 0 ∧ hZ k WK 0 ≤ 4000000000000000000 := fun k => by have := hZ_in hWK k 0; omega
      exact bL_uZ (bL_uZ (bL_uZ (bL_uZ (bL_uZ hHg (q 0)) (q 1)) (q 2)) (q 3)) (q 4)
    have vHS : ∀ k, 0 ≤ k → k < 5 → HS k = hPt k a b c d := by
      intro k h1 h2
      have q : ∀ k, hZ k WK 0 = hPt k a b c d := fun k => by
        unfold hZ hPt; rw [eWK]; rfl
      rw [eHS]
      rcases (show k = 0 ∨ k = 1 ∨ k = 2 ∨ k = 3 ∨ k = 4 by omega) with rfl | rfl | rfl | rfl | rfl
      · rw [uZ_n (by decide), uZ_n (by decide), uZ_n (by decide), uZ_n (by decide), uZ_s]; exact q 0
      · rw [uZ_n (by decide), uZ_n (by decide), uZ_n (by decide), uZ_s]; exact q 1
      · rw [uZ_n (by decide), uZ_n (by decide), uZ_s]; exact q 2
      · rw [uZ_n (by decide), uZ_s]; exact q 3
      · rw [uZ_s]; exact q 4
    refine z_iconst hC d_X_inside_58 ?_
    refine lv_istore (lv' := [(5, .int (iI 0)), (0, .ref x), (1, .int (iI a)), (2, .int (iI b)), (3, .int (iI c)), (4, .int (iI d))]) hC.1 hC.2.1 d_X_inside_59 hl (by decide) rfl (fun ls hl => ?_)
    have L61 : ∀ (fu : Nat) (k : Int) (H : Heap) (locs : List Loc) (ls : Array Slot), z - k + 1 ≤ (fu : Int) → (0 ≤ k ∧ k ≤ z) → (∀ j, 0 ≤ j → j < k → hoZ Lo Hi HS j = false) → va_P D classes [(x, .inr (4, [.ref qs, .ref qr, .ref qw, .ref qg, .ref qu, .ref qp, sp, .int (iI lv)])), (qs, .inr (2, [.ref ql, .ref qh])), (ql, eL t.2.1 2000 Lo), (qh, eL t.2.1 2000 Hi), (qp, .inr (0, [.ref qt, .ref qn, .int (iI z)])), (qt, eI t.1 400 T), (qn, eI t.1 4800 F), (qg, eL t.2.1 5 HS), (qw, eI t.1 20 WK)] H → va_D A [(x, .inr (4, [.ref qs, .ref qr, .ref qw, .ref qg, .ref qu, .ref qp, sp, .int (iI lv)])), (qs, .inr (2, [.ref ql, .ref qh])), (ql, eL t.2.1 2000 Lo), (qh, eL t.2.1 2000 Hi), (qp, .inr (0, [.ref qt, .ref qn, .int (iI z)])), (qt, eI t.1 400 T), (qn, eI t.1 4800 F), (qg, eL t.2.1 5 HS), (qw, eI t.1 20 WK)] → va_S A zs.heap H locs → lv_has ls 6 [(5, .int (iI k)), (0, .ref x), (1, .int (iI a)), (2, .int (iI b)), (3, .int (iI c)), (4, .int (iI d))] → W zp l ze rm_X_inside zs zm [.ref x, .int (iI a), .int (iI b), .int (iI c), .int (iI d)].toArray zb zt zc H locs 0 0 zQ (F0 zm 61 ls []) := by
      intro fu
      induction fu with
      | zero =>
        intro k H locs ls hm61 hk hi hP hD hS hl
        exact absurd hm61 (by omega)
      | succ fu ih61 =>
        intro k H locs ls hm61 hk hi hP hD hS hl
        refine lv_iload hC.1 hC.2.1 d_X_inside_61 (lv_at hl 0 rfl) ?_
        refine lv_aload_n hC.1 hC.2.1 d_X_inside_63 rfl (lv_at hl 1 rfl) ?_
        refine z_get (ci := 4) (C := R_X) (T := F_X) (N := 8) (v := .ref qp) hC in_X hK hP 0 rfl rfl 5 (by decide) k_103 rfl d_X_inside_64 ?_
        refine z_getN (ci := 0) (C := R_Ha) (T := F_Ha) (N := 3) (v := .int (iI z)) hC in_Ha hK hP 4 rfl rfl 2 (by decide) hE.1.2.2.2.2.1 rfl d_X_inside_67 ?_
        refine z_icmp_ge (tgt := 98) hC d_X_inside_70 (by decide) (by omega) (by omega) (fun h70 => ?_) (fun h70 => ?_)
        · refine z_iconst hC d_X_inside_98 ?_
          have hP9 := hP.sub (ws' := [(x, .inr (4, [.ref qs, .ref qr, .ref qw, .ref qg, .ref qu, .ref qp, sp, .int (iI lv)])), (qs, .inr (2, [.ref ql, .ref qh])), (ql, eL t.2.1 2000 Lo), (qh, eL t.2.1 2000 Hi), (qp, .inr (0, [.ref qt, .ref qn, .int (iI z)])), (qt, eI t.1 400 T), (qn, eI t.1 4800 F), (qw, eI t.1 20 WK), (qg, eL t.2.1 5 HS)]) [0, 1, 2, 3, 4, 5, 6, 8, 7] rfl
          have hD9 := hD.sub (ws' := [(x, .inr (4, [.ref qs, .ref qr, .ref qw, .ref qg, .ref qu, .ref qp, sp, .int (iI lv)])), (qs, .inr (2, [.ref ql, .ref qh])), (ql, eL t.2.1 2000 Lo), (qh, eL t.2.1 2000 Hi), (qp, .inr (0, [.ref qt, .ref qn, .int (iI z)])), (qt, eI t.1 400 T), (qn, eI t.1 4800 F), (qw, eI t.1 20 WK), (qg, eL t.2.1 5 HS)]) [0, 1, 2, 3, 4, 5, 6, 8, 7] (by decide) rfl
          exact retv (-1, WK, HS) _ _ 99 _ _ d_X_inside_99 ⟨rfl, by unfold insZ; rw [if_pos h8, hoZ_f vHS, fstZ_none (fun j h1 h2 => hi j h1 (by omega))], hWK, hHS⟩ hP9 hD9 hS
        · refine lv_aload_n hC.1 hC.2.1 d_X_inside_73 rfl (lv_at hl 1 rfl) ?_
          refine z_get (ci := 4) (C := R_X) (T := F_X) (N := 8) (v := .ref qs) hC in_X hK hP 0 rfl rfl 0 (by decide) k_98 rfl d_X_inside_74 ?_
          refine lv_iload hC.1 hC.2.1 d_X_inside_77 (lv_at hl 0 rfl) ?_
          refine lv_aload_n hC.1 hC.2.1 d_X_inside_79 rfl (lv_at hl 1 rfl) ?_
          refine z_get (ci := 4) (C := R_X) (T := F_X) (N := 8) (v := .ref qg) hC in_X hK hP 0 rfl rfl 3 (by decide) k_101 rfl d_X_inside_80 ?_
          refine z_roVi (As := [.int (iI k), .ref qg]) (rest := []) hC (c_St_hold l D t ts qs ql qh Lo Hi qg HS k (by omega) hLo hHi hHS) (cw_V hC k_380 k_381 k_382 k_2 k_383 ye_St_hold (by decide)) hP hK hE hS [1, 2, 3, 7] rfl 1 (ci := 2) rfl rfl rfl rfl hl.1 rfl (Nat.le_of_ble_eq_true rfl) ⟨Nat.le_of_ble_eq_true rfl, Nat.le_of_ble_eq_true rfl⟩ d_X_inside_83 ?_
          refine z_if_eqB (tgt := 92) hC d_X_inside_86 (by decide) (fun h86 => ?_) (fun h86 => ?_)
          · refine lv_iinc (v := iI (k + 1)) (lv' := [(5, .int (iI (k + 1))), (0, .ref x), (1, .int (iI a)), (2, .int (iI b)), (3, .int (iI c)), (4, .int (iI d))]) hC.1 hC.2.1 d_X_inside_92 hl (k := 0) rfl (z_inc (by omega)) (by decide) rfl (fun ls hl => ?_)
            refine z_goto (tgt := 61) hC d_X_inside_95 (by decide) ?_
            exact ih61 (k + 1) _ _ _ (by omega) (by omega) (stepF hi h86) (hP.sub (ws' := [(x, .inr (4, [.ref qs, .ref qr, .ref qw, .ref qg, .ref qu, .ref qp, sp, .int (iI lv)])), (qs, .inr (2, [.ref ql, .ref qh])), (ql, eL t.2.1 2000 Lo), (qh, eL t.2.1 2000 Hi), (qp, .inr (0, [.ref qt, .ref qn, .int (iI z)])), (qt, eI t.1 400 T), (qn, eI t.1 4800 F), (qg, eL t.2.1 5 HS), (qw, eI t.1 20 WK)]) [0, 1, 2, 3, 4, 5, 6, 7, 8] rfl) (hD.sub (ws' := [(x, .inr (4, [.ref qs, .ref qr, .ref qw, .ref qg, .ref qu, .ref qp, sp, .int (iI lv)])), (qs, .inr (2, [.ref ql, .ref qh])), (ql, eL t.2.1 2000 Lo), (qh, eL t.2.1 2000 Hi), (qp, .inr (0, [.ref qt, .ref qn, .int (iI z)])), (qt, eI t.1 400 T), (qn, eI t.1 4800 F), (qg, eL t.2.1 5 HS), (qw, eI t.1 20 WK)]) [0, 1, 2, 3, 4, 5, 6, 7, 8] (by decide) rfl) hS (lv_sub hl [0, 1, 2, 3, 4, 5] rfl)
          · refine lv_iload hC.1 hC.2.1 d_X_inside_89 (lv_at hl 0 rfl) ?_
            have hP9 := hP.sub (ws' := [(x, .inr (4, [.ref qs, .ref qr, .ref qw, .ref qg, .ref qu, .ref qp, sp, .int (iI lv)])), (qs, .inr (2, [.ref ql, .ref qh])), (ql, eL t.2.1 2000 Lo), (qh, eL t.2.1 2000 Hi), (qp, .inr (0, [.ref qt, .ref qn, .int (iI z)])), (qt, eI t.1 400 T), (qn, eI t.1 4800 F), (qw, eI t.1 20 WK), (qg, eL t.2.1 5 HS)]) [0, 1, 2, 3, 4, 5, 6, 8, 7] rfl
            have hD9 := hD.sub (ws' := [(x, .inr (4, [.ref qs, .ref qr, .ref qw, .ref qg, .ref qu, .ref qp, sp, .int (iI lv)])), (qs, .inr (2, [.ref ql, .ref qh])), (ql, eL t.2.1 2000 Lo), (qh, eL t.2.1 2000 Hi), (qp, .inr (0, [.ref qt, .ref qn, .int (iI z)])), (qt, eI t.1 400 T), (qn, eI t.1 4800 F), (qw, eI t.1 20 WK), (qg, eL t.2.1 5 HS)]) [0, 1, 2, 3, 4, 5, 6, 8, 7] (by decide) rfl
            exact retv (k, WK, HS) _ _ 91 _ _ d_X_inside_91 ⟨rfl, by unfold insZ; rw [if_pos h8, hoZ_f vHS, fstZ_at (k := k) (by omega) (by omega) hi h86], hWK, hHS⟩ hP9 hD9 hS
    exact L61 (z - 0 + 1 : Int).toNat 0 _ _ _ (by omega) (by omega) (by intro j _ _; omega) hP hD hS (lv_sub hl [0, 1, 2, 3, 4, 5] rfl)
  · refine z_iconst hC d_X_inside_11 ?_
    have hP9 := hP.sub (ws' := [(x, .inr (4, [.ref qs, .ref qr, .ref qw, .ref qg, .ref qu, .ref qp, sp, .int (iI lv)])), (qs, .inr (2, [.ref ql, .ref qh])), (ql, eL t.2.1 2000 Lo), (qh, eL t.2.1 2000 Hi), (qp, .inr (0, [.ref qt, .ref qn, .int (iI z)])), (qt, eI t.1 400 T), (qn, eI t.1 4800 F), (qw, eI t.1 20 Wk), (qg, eL t.2.1 5 Hg)]) [0, 1, 2, 3, 4, 5, 6, 7, 8] rfl
    have hD9 := hD.sub (ws' := [(x, .inr (4, [.ref qs, .ref qr, .ref qw, .ref qg, .ref qu, .ref qp, sp, .int (iI lv)])), (qs, .inr (2, [.ref ql, .ref qh])), (ql, eL t.2.1 2000 Lo), (qh, eL t.2.1 2000 Hi), (qp, .inr (0, [.ref qt, .ref qn, .int (iI z)])), (qt, eI t.1 400 T), (qn, eI t.1 4800 F), (qw, eI t.1 20 Wk), (qg, eL t.2.1 5 Hg)]) [0, 1, 2, 3, 4, 5, 6, 7, 8] (by decide) rfl
    exact retv (-1, Wk, Hg) _ _ 12 _ _ d_X_inside_12 ⟨rfl, by unfold insZ; rw [if_neg (by rw [h8]; decide)], hWk, hHg⟩ hP9 hD9 hS
theorem ye_X_place : ye y_X_place R_X 7 := by unfold ye; decide +kernel
abbrev rm_X_place : Room := { frames := 6, cells := 0, slots := 0, locals := 156 }
set_option maxHeartbeats 4000000 in
set_option maxRecDepth 100000 in
theorem c_X_place (l : Launch) (D : va_G) (t : vt) (ts : Nat → Nat) (x qs qr qw qg qu qp ql qh qt qn : Nat) (sp : Value) (lv z : Int) (Lo Hi T F : Int → Int) (hz : 0 ≤ z ∧ z ≤ 400) (hLo : bL Lo) (hHi : bL Hi) (hT : bT T) (hF : bF F) (Wk : Int → Int) (hWk : bF Wk) (y a b c d k : Int) (lf : Bool) (hy : inI y) (ha : inI a) (hb : inI b) (hc : inI c) (hd : inI d) (hk : inI k) (sz : Nat) : Met l y_X_place (.code y_X_place b_X_place 11 (some .int) :: tb_ws) rm_X_place (MP D t ts [.ref x, .int (iI y), .int (iI a), .int (iI b), .int (iI c), .int (iI d), .int (iI k), .int (iI (zB lf))] [(x, .inr (4, [.ref qs, .ref qr, .ref qw, .ref qg, .ref qu, .ref qp, sp, .int (iI lv)])), (qs, .inr (2, [.ref ql, .ref qh])), (ql, eL t.2.1 2000 Lo), (qh, eL t.2.1 2000 Hi), (qp, .inr (0, [.ref qt, .ref qn, .int (iI z)])), (qt, eI t.1 400 T), (qn, eI t.1 4800 F), (qw, eI t.1 20 Wk)] sz) (va_Qi (fun zr u => zr = iI ((fun u : Int × Int × (Int → Int) × (Int → Int) × (Int → Int) × (Int → Int) × (Int → Int) => u.1) u) ∧ ((fun u : Int × Int × (Int → Int) × (Int → Int) × (Int → Int) × (Int → Int) × (Int → Int) => (plOk z y a b c d k = false ∧ u.1 = -1 ∧ u.2.1 = z ∧ u.2.2.1 = T ∧ u.2.2.2.1 = F ∧ u.2.2.2.2.1 = Lo ∧ u.2.2.2.2.2.1 = Hi ∧ u.2.2.2.2.2.2 = Wk) ∨ (plOk z y a b c d k = true ∧ u.2.2.2.2.2.2 = plW Wk a b c d k (plJ y k lf) ∧ u.2.2.1 = uZ T z y ∧ u.2.2.2.1 = wrN F z u.2.2.2.2.2.2 0 4 8 ∧ ((wlZ u.2.2.2.1 z = false ∧ u.1 = -1 ∧ u.2.1 = z ∧ u.2.2.2.2.1 = Lo ∧ u.2.2.2.2.2.1 = Hi) ∨ (wlZ u.2.2.2.1 z = true ∧ u.2.2.2.2.1 = mLo Lo u.2.2.2.1 z ∧ u.2.2.2.2.2.1 = mHi Hi u.2.2.2.1 z ∧ ((eaZ (mLo Lo u.2.2.2.1 z) (mHi Hi u.2.2.2.1 z) u.2.2.1 u.2.2.2.1 z = true ∧ u.1 = -1 ∧ u.2.1 = z) ∨ (eaZ (mLo Lo u.2.2.2.1 z) (mHi Hi u.2.2.2.1 z) u.2.2.1 u.2.2.2.1 z = false ∧ u.1 = z ∧ u.2.1 = z + 1))))))) u) (MB D (va_A [(x, .inr (4, [.ref qs, .ref qr, .ref qw, .ref qg, .ref qu, .ref qp, sp, .int (iI lv)])), (qs, .inr (2, [.ref ql, .ref qh])), (ql, eL t.2.1 2000 Lo), (qh, eL t.2.1 2000 Hi), (qp, .inr (0, [.ref qt, .ref qn, .int (iI z)])), (qt, eI t.1 400 T), (qn, eI t.1 4800 F), (qw, eI t.1 20 Wk)] sz) (fun u : Int × Int × (Int → Int) × (Int → Int) × (Int → Int) × (Int → Int) × (Int → Int) => [(x, .inr (4, [.ref qs, .ref qr, .ref qw, .ref qg, .ref qu, .ref qp, sp, .int (iI lv)])), (qs, .inr (2, [.ref ql, .ref qh])), (ql, eL t.2.1 2000 u.2.2.2.2.1), (qh, eL t.2.1 2000 u.2.2.2.2.2.1), (qp, .inr (0, [.ref qt, .ref qn, .int (iI u.2.1)])), (qt, eI t.1 400 u.2.2.1), (qn, eI t.1 4800 u.2.2.2.1), (qw, eI t.1 20 u.2.2.2.2.2.2)])) (va_A [(x, .inr (4, [.ref qs, .ref qr, .ref qw, .ref qg, .ref qu, .ref qp, sp, .int (iI lv)])), (qs, .inr (2, [.ref ql, .ref qh])), (ql, eL t.2.1 2000 Lo), (qh, eL t.2.1 2000 Hi), (qp, .inr (0, [.ref qt, .ref qn, .int (iI z)])), (qt, eI t.1 400 T), (qn, eI t.1 4800 F), (qw, eI t.1 20 Wk)] sz)) 0 0 (va_A [(x, .inr (4, [.ref qs, .ref qr, .ref qw, .ref qg, .ref qu, .ref qp, sp, .int (iI lv)])), (qs, .inr (2, [.ref ql, .ref qh])), (ql, eL t.2.1 2000 Lo), (qh, eL t.2.1 2000 Hi), (qp, .inr (0, [.ref qt, .ref qn, .int (iI z)])), (qt, eI t.1 400 T), (qn, eI t.1 4800 F), (qw, eI t.1 20 Wk)] sz) := by
  refine m_i (by decide +kernel) (Nat.le_of_ble_eq_true rfl) ?_
  intro zp ze zs zm zb zt zc zQ A ls hC hA hP hK hD hE hS hl ret
  have hl : lv_has ls 11 [(0, .ref x), (1, .int (iI y)), (2, .int (iI a)), (3, .int (iI b)), (4, .int (iI c)), (5, .int (iI d)), (6, .int (iI k)), (7, .int (iI (zB lf)))] := hl
  have retv : ∀ (u : Int × Int × (Int → Int) × (Int → Int) × (Int → Int) × (Int → Int) × (Int → Int)) (H : Heap) (locs : List Loc) (pc : Nat) (ls : Array Slot) (zv : Int), decode b_X_place pc = .ok (.ireturn, 1) → (zv = u.1 ∧ ((plOk z y a b c d k = false ∧ u.1 = -1 ∧ u.2.1 = z ∧ u.2.2.1 = T ∧ u.2.2.2.1 = F ∧ u.2.2.2.2.1 = Lo ∧ u.2.2.2.2.2.1 = Hi ∧ u.2.2.2.2.2.2 = Wk) ∨ (plOk z y a b c d k = true ∧ u.2.2.2.2.2.2 = plW Wk a b c d k (plJ y k lf) ∧ u.2.2.1 = uZ T z y ∧ u.2.2.2.1 = wrN F z u.2.2.2.2.2.2 0 4 8 ∧ ((wlZ u.2.2.2.1 z = false ∧ u.1 = -1 ∧ u.2.1 = z ∧ u.2.2.2.2.1 = Lo ∧ u.2.2.2.2.2.1 = Hi) ∨ (wlZ u.2.2.2.1 z = true ∧ u.2.2.2.2.1 = mLo Lo u.2.2.2.1 z ∧ u.2.2.2.2.2.1 = mHi Hi u.2.2.2.1 z ∧ ((eaZ (mLo Lo u.2.2.2.1 z) (mHi Hi u.2.2.2.1 z) u.2.2.1 u.2.2.2.1 z = true ∧ u.1 = -1 ∧ u.2.1 = z) ∨ (eaZ (mLo Lo u.2.2.2.1 z) (mHi Hi u.2.2.2.1 z) u.2.2.1 u.2.2.2.1 z = false ∧ u.1 = z ∧ u.2.1 = z + 1))))))) → va_P D classes ([(x, .inr (4, [.ref qs, .ref qr, .ref qw, .ref qg, .ref qu, .ref qp, sp, .int (iI lv)])), (qs, .inr (2, [.ref ql, .ref qh])), (ql, eL t.2.1 2000 u.2.2.2.2.1), (qh, eL t.2.1 2000 u.2.2.2.2.2.1), (qp, .inr (0, [.ref qt, .ref qn, .int (iI u.2.1)])), (qt, eI t.1 400 u.2.2.1), (qn, eI t.1 4800 u.2.2.2.1), (qw, eI t.1 20 u.2.2.2.2.2.2)]) H → va_D A ([(x, .inr (4, [.ref qs, .ref qr, .ref qw, .ref qg, .ref qu, .ref qp, sp, .int (iI lv)])), (qs, .inr (2, [.ref ql, .ref qh])), (ql, eL t.2.1 2000 u.2.2.2.2.1), (qh, eL t.2.1 2000 u.2.2.2.2.2.1), (qp, .inr (0, [.ref qt, .ref qn, .int (iI u.2.1)])), (qt, eI t.1 400 u.2.2.1), (qn, eI t.1 4800 u.2.2.2.1), (qw, eI t.1 20 u.2.2.2.2.2.2)]) → va_S A zs.heap H locs → W zp l ze rm_X_place zs zm [.ref x, .int (iI y), .int (iI a), .int (iI b), .int (iI c), .int (iI d), .int (iI k), .int (iI (zB lf))].toArray zb zt zc H locs 0 0 zQ (F0 zm pc ls [.int (iI zv)]) := fun u H locs pc ls v d h hP hD hS => by rw [h.1]; exact ret u H locs pc ls d h.2 hP hD hS
  refine lv_iload_n hC.1 hC.2.1 d_X_place_0 rfl (lv_at hl 1 rfl) ?_
  refine z_if_lt (tgt := 34) hC d_X_place_1 (by decide) (by omega) (fun h1 => ?_) (fun h1 => ?_)
  · refine z_iconst hC d_X_place_34 ?_
    have hP9 := hP.sub (ws' := [(x, .inr (4, [.ref qs, .ref qr, .ref qw, .ref qg, .ref qu, .ref qp, sp, .int (iI lv)])), (qs, .inr (2, [.ref ql, .ref qh])), (ql, eL t.2.1 2000 Lo), (qh, eL t.2.1 2000 Hi), (qp, .inr (0, [.ref qt, .ref qn, .int (iI z)])), (qt, eI t.1 400 T), (qn, eI t.1 4800 F), (qw, eI t.1 20 Wk)]) [0, 1, 2, 3, 4, 5, 6, 7] rfl
    have hD9 := hD.sub (ws' := [(x, .inr (4, [.ref qs, .ref qr, .ref qw, .ref qg, .ref qu, .ref qp, sp, .int (iI lv)])), (qs, .inr (2, [.ref ql, .ref qh])), (ql, eL t.2.1 2000 Lo), (qh, eL t.2.1 2000 Hi), (qp, .inr (0, [.ref qt, .ref qn, .int (iI z)])), (qt, eI t.1 400 T), (qn, eI t.1 4800 F), (qw, eI t.1 20 Wk)]) [0, 1, 2, 3, 4, 5, 6, 7] (by decide) rfl
    exact retv (-1, z, T, F, Lo, Hi, Wk) _ _ 35 _ _ d_X_place_35 ⟨rfl, Or.inl ⟨by unfold plOk; simp; intros; omega, rfl, rfl, rfl, rfl, rfl, rfl, rfl⟩⟩ hP9 hD9 hS
  · refine lv_iload_n hC.1 hC.2.1 d_X_place_4 rfl (lv_at hl 1 rfl) ?_
    refine z_iconst hC d_X_place_5 ?_
    refine z_icmp_gt (tgt := 34) hC d_X_place_6 (by decide) (by omega) (by decide) (fun h6 => ?_) (fun h6 => ?_)
    · refine z_iconst hC d_X_place_34 ?_
      have hP9 := hP.sub (ws' := [(x, .inr (4, [.ref qs, .ref qr, .ref qw, .ref qg, .ref qu, .ref qp, sp, .int (iI lv)])), (qs, .inr (2, [.ref ql, .ref qh])), (ql, eL t.2.1 2000 Lo), (qh, eL t.2.1 2000 Hi), (qp, .inr (0, [.ref qt, .ref qn, .int (iI z)])), (qt, eI t.1 400 T), (qn, eI t.1 4800 F), (qw, eI t.1 20 Wk)]) [0, 1, 2, 3, 4, 5, 6, 7] rfl
      have hD9 := hD.sub (ws' := [(x, .inr (4, [.ref qs, .ref qr, .ref qw, .ref qg, .ref qu, .ref qp, sp, .int (iI lv)])), (qs, .inr (2, [.ref ql, .ref qh])), (ql, eL t.2.1 2000 Lo), (qh, eL t.2.1 2000 Hi), (qp, .inr (0, [.ref qt, .ref qn, .int (iI z)])), (qt, eI t.1 400 T), (qn, eI t.1 4800 F), (qw, eI t.1 20 Wk)]) [0, 1, 2, 3, 4, 5, 6, 7] (by decide) rfl
      exact retv (-1, z, T, F, Lo, Hi, Wk) _ _ 35 _ _ d_X_place_35 ⟨rfl, Or.inl ⟨by unfold plOk; simp; intros; omega, rfl, rfl, rfl, rfl, rfl, rfl, rfl⟩⟩ hP9 hD9 hS
    · refine lv_iload hC.1 hC.2.1 d_X_place_9 (lv_at hl 6 rfl) ?_
      refine z_if_lt (tgt := 34) hC d_X_place_11 (by decide) (by omega) (fun h11 => ?_) (fun h11 => ?_)
      · refine z_iconst hC d_X_place_34 ?_
        have hP9 := hP.sub (ws' := [(x, .inr (4, [.ref qs, .ref qr, .ref qw, .ref qg, .ref qu, .ref qp, sp, .int (iI lv)])), (qs, .inr (2, [.ref ql, .ref qh])), (ql, eL t.2.1 2000 Lo), (qh, eL t.2.1 2000 Hi), (qp, .inr (0, [.ref qt, .ref qn, .int (iI z)])), (qt, eI t.1 400 T), (qn, eI t.1 4800 F), (qw, eI t.1 20 Wk)]) [0, 1, 2, 3, 4, 5, 6, 7] rfl
        have hD9 := hD.sub (ws' := [(x, .inr (4, [.ref qs, .ref qr, .ref qw, .ref qg, .ref qu, .ref qp, sp, .int (iI lv)])), (qs, .inr (2, [.ref ql, .ref qh])), (ql, eL t.2.1 2000 Lo), (qh, eL t.2.1 2000 Hi), (qp, .inr (0, [.ref qt, .ref qn, .int (iI z)])), (qt, eI t.1 400 T), (qn, eI t.1 4800 F), (qw, eI t.1 20 Wk)]) [0, 1, 2, 3, 4, 5, 6, 7] (by decide) rfl
        exact retv (-1, z, T, F, Lo, Hi, Wk) _ _ 35 _ _ d_X_place_35 ⟨rfl, Or.inl ⟨by unfold plOk; simp; intros; omega, rfl, rfl, rfl, rfl, rfl, rfl, rfl⟩⟩ hP9 hD9 hS
      · refine lv_iload hC.1 hC.2.1 d_X_place_14 (lv_at hl 6 rfl) ?_
        refine z_bipush hC d_X_place_16 (by decide) ?_
        refine z_icmp_ge (tgt := 34) hC d_X_place_18 (by decide) (by omega) (by decide) (fun h18 => ?_) (fun h18 => ?_)
        · refine z_iconst hC d_X_place_34 ?_
          have hP9 := hP.sub (ws' := [(x, .inr (4, [.ref qs, .ref qr, .ref qw, .ref qg, .ref qu, .ref qp, sp, .int (iI lv)])), (qs, .inr (2, [.ref ql, .ref qh])), (ql, eL t.2.1 2000 Lo), (qh, eL t.2.1 2000 Hi), (qp, .inr (0, [.ref qt, .ref qn, .int (iI z)])), (qt, eI t.1 400 T), (qn, eI t.1 4800 F), (qw, eI t.1 20 Wk)]) [0, 1, 2, 3, 4, 5, 6, 7] rfl
          have hD9 := hD.sub (ws' := [(x, .inr (4, [.ref qs, .ref qr, .ref qw, .ref qg, .ref qu, .ref qp, sp, .int (iI lv)])), (qs, .inr (2, [.ref ql, .ref qh])), (ql, eL t.2.1 2000 Lo), (qh, eL t.2.1 2000 Hi), (qp, .inr (0, [.ref qt, .ref qn, .int (iI z)])), (qt, eI t.1 400 T), (qn, eI t.1 4800 F), (qw, eI t.1 20 Wk)]) [0, 1, 2, 3, 4, 5, 6, 7] (by decide) rfl
          exact retv (-1, z, T, F, Lo, Hi, Wk) _ _ 35 _ _ d_X_place_35 ⟨rfl, Or.inl ⟨by unfold plOk; simp; intros; omega, rfl, rfl, rfl, rfl, rfl, rfl, rfl⟩⟩ hP9 hD9 hS
        · refine lv_aload_n hC.1 hC.2.1 d_X_place_21 rfl (lv_at hl 0 rfl) ?_
          refine z_get (ci := 4) (C := R_X) (T := F_X) (N := 8) (v := .ref qp) hC in_X hK hP 0 rfl rfl 5 (by decide) k_103 rfl d_X_place_22 ?_
          refine z_getN (ci := 0) (C := R_Ha) (T := F_Ha) (N := 3) (v := .int (iI z)) hC in_Ha hK hP 4 rfl rfl 2 (by decide) hE.1.2.2.2.2.1 rfl d_X_place_25 ?_
          refine z_sipush hC d_X_place_28 (by decide) ?_
          refine z_icmp_lt (tgt := 36) hC d_X_place_31 (by decide) (by omega) (by decide) (fun h31 => ?_) (fun h31 => ?_)
          · refine lv_iload_n hC.1 hC.2.1 d_X_place_36 rfl (lv_at hl 2 rfl) ?_
            refine lv_iload_n hC.1 hC.2.1 d_X_place_37 rfl (lv_at hl 3 rfl) ?_
            refine lv_iload hC.1 hC.2.1 d_X_place_38 (lv_at hl 4 rfl) ?_
            refine lv_iload hC.1 hC.2.1 d_X_place_40 (lv_at hl 5 rfl) ?_
            refine z_roSi (As := [.int (iI a), .int (iI b), .int (iI c), .int (iI d)]) (rest := []) hC (c_Po_within l D t ts a b c d (by omega) (by omega) (by omega) (by omega)) (cw_S hC k_171 k_172 k_8 k_173 ye_Po_within (by decide)) hP hK hE hS [] rfl rfl hl.1 rfl (Nat.le_of_ble_eq_true rfl) ⟨Nat.le_of_ble_eq_true rfl, Nat.le_of_ble_eq_true rfl⟩ d_X_place_42 ?_
            refine z_if_neB (tgt := 50) hC d_X_place_45 (by decide) (fun h45 => ?_) (fun h45 => ?_)
            · have g := h45
              simp [nearZ] at g
              refine lv_iload_n hC.1 hC.2.1 d_X_place_50 rfl (lv_at hl 1 rfl) ?_
              refine z_if_ne (tgt := 58) hC d_X_place_51 (by decide) (by omega) (fun h51 => ?_) (fun h51 => ?_)
              · refine z_iconst hC d_X_place_58 ?_
                refine lv_istore (lv' := [(8, .int (iI 3)), (0, .ref x), (1, .int (iI y)), (2, .int (iI a)), (3, .int (iI b)), (4, .int (iI c)), (5, .int (iI d)), (6, .int (iI k)), (7, .int (iI (zB lf)))]) hC.1 hC.2.1 d_X_place_59 hl (by decide) rfl (fun ls hl => ?_)
                refine lv_iload hC.1 hC.2.1 d_X_place_61 (lv_at hl 8 rfl) ?_
                refine z_if_eqB (tgt := 74) hC d_X_place_63 (by decide) (fun h63 => ?_) (fun h63 => ?_)
                · refine lv_iload hC.1 hC.2.1 d_X_place_74 (lv_at hl 7 rfl) ?_
                  refine z_bipush hC d_X_place_76 (by decide) ?_
                  refine z_iadd hC d_X_place_78 ?_
                  refine lv_iload hC.1 hC.2.1 d_X_place_79 (lv_at hl 0 rfl) ?_
                  refine z_isub hC d_X_place_81 ?_
                  refine z_topi (z := k + 7) (by omega) ?_
                  refine z_bipush hC d_X_place_82 (by decide) ?_
                  refine z_irem hC d_X_place_84 (by omega) (by omega) ?_
                  refine lv_istore (lv' := [(9, .int (iI (((k + 7) % 10)))), (8, .int (iI 3)), (0, .ref x), (1, .int (iI y)), (2, .int (iI a)), (3, .int (iI b)), (4, .int (iI c)), (5, .int (iI d)), (6, .int (iI k)), (7, .int (iI (zB lf)))]) hC.1 hC.2.1 d_X_place_85 hl (by decide) rfl (fun ls hl => ?_)
                  refine lv_aload_n hC.1 hC.2.1 d_X_place_87 rfl (lv_at hl 2 rfl) ?_
                  refine z_get (ci := 4) (C := R_X) (T := F_X) (N := 8) (v := .ref qw) hC in_X hK hP 0 rfl rfl 2 (by decide) k_100 rfl d_X_place_88 ?_
                  refine z_iconst hC d_X_place_91 ?_
                  refine lv_iload_n hC.1 hC.2.1 d_X_place_92 rfl (lv_at hl 4 rfl) ?_
                  refine lv_iload_n hC.1 hC.2.1 d_X_place_93 rfl (lv_at hl 5 rfl) ?_
                  refine lv_iload hC.1 hC.2.1 d_X_place_94 (lv_at hl 6 rfl) ?_
                  refine lv_iload hC.1 hC.2.1 d_X_place_96 (lv_at hl 7 rfl) ?_
                  refine z_mSv (As := [.ref qw, .int (iI 0), .int (iI a), .int (iI b), .int (iI c), .int (iI d)]) (rest := []) (wr := [(x, .inr (4, [.ref qs, .ref qr, .ref qw, .ref qg, .ref qu, .ref qp, sp, .int (iI lv)])), (qs, .inr (2, [.ref ql, .ref qh])), (ql, eL t.2.1 2000 Lo), (qh, eL t.2.1 2000 Hi), (qp, .inr (0, [.ref qt, .ref qn, .int (iI z)])), (qt, eI t.1 400 T), (qn, eI t.1 4800 F)]) hC (c_Po_set l D t ts qw 20 Wk 0 a b c d (by decide) (by omega) _) (cw_S hC k_179 k_180 k_8 k_181 ye_Po_set (by decide)) hP hD hK hE hS hA [7] [0, 1, 2, 3, 4, 5, 6] (by decide) rfl rfl (by decide) (by decide) rfl hl.1 rfl (Nat.le_of_ble_eq_true rfl) ⟨Nat.le_of_ble_eq_true rfl, Nat.le_of_ble_eq_true rfl⟩ d_X_place_98 (fun u1 H locs eu1 hP hD hS => ?_)
                  subst eu1
                  have hP : va_P D classes [(x, .inr (4, [.ref qs, .ref qr, .ref qw, .ref qg, .ref qu, .ref qp, sp, .int (iI lv)])), (qs, .inr (2, [.ref ql, .ref qh])), (ql, eL t.2.1 2000 Lo), (qh, eL t.2.1 2000 Hi), (qp, .inr (0, [.ref qt, .ref qn, .int (iI z)])), (qt, eI t.1 400 T), (qn, eI t.1 4800 F), (qw, eI t.1 20 (uZ (uZ (uZ (uZ Wk 0 a) 1 b) 2 c) 3 d))] H := hP
                  have hD : va_D A [(x, .inr (4, [.ref qs, .ref qr, .ref qw, .ref qg, .ref qu, .ref qp, sp, .int (iI lv)])), (qs, .inr (2, [.ref ql, .ref qh])), (ql, eL t.2.1 2000 Lo), (qh, eL t.2.1 2000 Hi), (qp, .inr (0, [.ref qt, .ref qn, .int (iI z)])), (qt, eI t.1 400 T), (qn, eI t.1 4800 F), (qw, eI t.1 20 (uZ (uZ (uZ (uZ Wk 0 a) 1 b) 2 c) 3 d))] := hD
                  refine lv_aload_n hC.1 hC.2.1 d_X_place_101 rfl (lv_at hl 2 rfl) ?_
                  refine z_get (ci := 4) (C := R_X) (T := F_X) (N := 8) (v := .ref qw) hC in_X hK hP 0 rfl rfl 2 (by decide) k_100 rfl d_X_place_102 ?_
                  refine z_iconst hC d_X_place_105 ?_
                  refine lv_iload hC.1 hC.2.1 d_X_place_106 (lv_at hl 8 rfl) ?_
                  refine z_iconst hC d_X_place_108 ?_
                  refine z_imul hC d_X_place_109 ?_
                  refine z_topi (z := 4 * k) (by omega) ?_
                  refine z_iconst hC d_X_place_110 ?_
                  refine z_mSv (As := [.ref qw, .int (iI 0), .int (iI (4 * k)), .int (iI 4)]) (rest := []) (wr := [(x, .inr (4, [.ref qs, .ref qr, .ref qw, .ref qg, .ref qu, .ref qp, sp, .int (iI lv)])), (qs, .inr (2, [.ref ql, .ref qh])), (ql, eL t.2.1 2000 Lo), (qh, eL t.2.1 2000 Hi), (qp, .inr (0, [.ref qt, .ref qn, .int (iI z)])), (qt, eI t.1 400 T), (qn, eI t.1 4800 F)]) hC (c_Po_add l D t ts qw 20 (uZ (uZ (uZ (uZ Wk 0 a) 1 b) 2 c) 3 d) (4 * k) 4 a b c d (by decide) (by omega) (by omega) (uZ_nt (by omega) (uZ_nt (by omega) (uZ_nt (by omega) (uZ_et (by omega))))) (uZ_nt (by omega) (uZ_nt (by omega) (uZ_et (by omega)))) (uZ_nt (by omega) (uZ_et (by omega))) (uZ_et (by omega)) _) (cw_S hC k_182 k_183 k_8 k_184 ye_Po_add (by decide)) hP hD hK hE hS hA [7] [0, 1, 2, 3, 4, 5, 6] (by decide) rfl rfl (by decide) (by decide) rfl hl.1 rfl (Nat.le_of_ble_eq_true rfl) ⟨Nat.le_of_ble_eq_true rfl, Nat.le_of_ble_eq_true rfl⟩ d_X_place_111 (fun u2 H locs eu2 hP hD hS => ?_)
                  subst eu2
                  have hP : va_P D classes [(x, .inr (4, [.ref qs, .ref qr, .ref qw, .ref qg, .ref qu, .ref qp, sp, .int (iI lv)])), (qs, .inr (2, [.ref ql, .ref qh])), (ql, eL t.2.1 2000 Lo), (qh, eL t.2.1 2000 Hi), (qp, .inr (0, [.ref qt, .ref qn, .int (iI z)])), (qt, eI t.1 400 T), (qn, eI t.1 4800 F), (qw, eI t.1 20 (uZ (uZ (uZ (uZ (uZ (uZ (uZ (uZ Wk 0 a) 1 b) 2 c) 3 d) 4 (a + z_UNITS (4 * k))) 5 (b + z_UNITS (4 * k + 1))) 6 (c + z_UNITS (4 * k + 2))) 7 (d + z_UNITS (4 * k + 3))))] H := hP
                  have hD : va_D A [(x, .inr (4, [.ref qs, .ref qr, .ref qw, .ref qg, .ref qu, .ref qp, sp, .int (iI lv)])), (qs, .inr (2, [.ref ql, .ref qh])), (ql, eL t.2.1 2000 Lo), (qh, eL t.2.1 2000 Hi), (qp, .inr (0, [.ref qt, .ref qn, .int (iI z)])), (qt, eI t.1 400 T), (qn, eI t.1 4800 F), (qw, eI t.1 20 (uZ (uZ (uZ (uZ (uZ (uZ (uZ (uZ Wk 0 a) 1 b) 2 c) 3 d) 4 (a + z_UNITS (4 * k))) 5 (b + z_UNITS (4 * k + 1))) 6 (c + z_UNITS (4 * k + 2))) 7 (d + z_UNITS (4 * k + 3))))] := hD
                  refine lv_aload_n hC.1 hC.2.1 d_X_place_114 rfl (lv_at hl 2 rfl) ?_
                  refine z_get (ci := 4) (C := R_X) (T := F_X) (N := 8) (v := .ref qw) hC in_X hK hP 0 rfl rfl 2 (by decide) k_100 rfl d_X_place_115 ?_
                  refine z_iconst hC d_X_place_118 ?_
                  refine lv_iload hC.1 hC.2.1 d_X_place_119 (lv_at hl 0 rfl) ?_
                  refine z_iconst hC d_X_place_121 ?_
                  refine z_imul hC d_X_place_122 ?_
                  refine z_topi (z := 4 * ((k + 7) % 10)) (by omega) ?_
                  refine z_bipush hC d_X_place_123 (by decide) ?_
                  refine z_mSv (As := [.ref qw, .int (iI 0), .int (iI (4 * ((k + 7) % 10))), .int (iI 8)]) (rest := []) (wr := [(x, .inr (4, [.ref qs, .ref qr, .ref qw, .ref qg, .ref qu, .ref qp, sp, .int (iI lv)])), (qs, .inr (2, [.ref ql, .ref qh])), (ql, eL t.2.1 2000 Lo), (qh, eL t.2.1 2000 Hi), (qp, .inr (0, [.ref qt, .ref qn, .int (iI z)])), (qt, eI t.1 400 T), (qn, eI t.1 4800 F)]) hC (c_Po_add l D t ts qw 20 (uZ (uZ (uZ (uZ (uZ (uZ (uZ (uZ Wk 0 a) 1 b) 2 c) 3 d) 4 (a + z_UNITS (4 * k))) 5 (b + z_UNITS (4 * k + 1))) 6 (c + z_UNITS (4 * k + 2))) 7 (d + z_UNITS (4 * k + 3))) (4 * ((k + 7) % 10)) 8 a b c d (by decide) (by omega) (by omega) (uZ_nt (by omega) (uZ_nt (by omega) (uZ_nt (by omega) (uZ_nt (by omega) (uZ_nt (by omega) (uZ_nt (by omega) (uZ_nt (by omega) (uZ_et (by omega))))))))) (uZ_nt (by omega) (uZ_nt (by omega) (uZ_nt (by omega) (uZ_nt (by omega) (uZ_nt (by omega) (uZ_nt (by omega) (uZ_et (by omega)))))))) (uZ_nt (by omega) (uZ_nt (by omega) (uZ_nt (by omega) (uZ_nt (by omega) (uZ_nt (by omega) (uZ_et (by omega))))))) (uZ_nt (by omega) (uZ_nt (by omega) (uZ_nt (by omega) (uZ_nt (by omega) (uZ_et (by omega)))))) _) (cw_S hC k_182 k_183 k_8 k_184 ye_Po_add (by decide)) hP hD hK hE hS hA [7] [0, 1, 2, 3, 4, 5, 6] (by decide) rfl rfl (by decide) (by decide) rfl hl.1 rfl (Nat.le_of_ble_eq_true rfl) ⟨Nat.le_of_ble_eq_true rfl, Nat.le_of_ble_eq_true rfl⟩ d_X_place_125 (fun u3 H locs eu3 hP hD hS => ?_)
                  subst eu3
                  have hP : va_P D classes [(x, .inr (4, [.ref qs, .ref qr, .ref qw, .ref qg, .ref qu, .ref qp, sp, .int (iI lv)])), (qs, .inr (2, [.ref ql, .ref qh])), (ql, eL t.2.1 2000 Lo), (qh, eL t.2.1 2000 Hi), (qp, .inr (0, [.ref qt, .ref qn, .int (iI z)])), (qt, eI t.1 400 T), (qn, eI t.1 4800 F), (qw, eI t.1 20 (uZ (uZ (uZ (uZ (uZ (uZ (uZ (uZ (uZ (uZ (uZ (uZ Wk 0 a) 1 b) 2 c) 3 d) 4 (a + z_UNITS (4 * k))) 5 (b + z_UNITS (4 * k + 1))) 6 (c + z_UNITS (4 * k + 2))) 7 (d + z_UNITS (4 * k + 3))) 8 (a + z_UNITS (4 * ((k + 7) % 10)))) 9 (b + z_UNITS (4 * ((k + 7) % 10) + 1))) 10 (c + z_UNITS (4 * ((k + 7) % 10) + 2))) 11 (d + z_UNITS (4 * ((k + 7) % 10) + 3))))] H := hP
                  have hD : va_D A [(x, .inr (4, [.ref qs, .ref qr, .ref qw, .ref qg, .ref qu, .ref qp, sp, .int (iI lv)])), (qs, .inr (2, [.ref ql, .ref qh])), (ql, eL t.2.1 2000 Lo), (qh, eL t.2.1 2000 Hi), (qp, .inr (0, [.ref qt, .ref qn, .int (iI z)])), (qt, eI t.1 400 T), (qn, eI t.1 4800 F), (qw, eI t.1 20 (uZ (uZ (uZ (uZ (uZ (uZ (uZ (uZ (uZ (uZ (uZ (uZ Wk 0 a) 1 b) 2 c) 3 d) 4 (a + z_UNITS (4 * k))) 5 (b + z_UNITS (4 * k + 1))) 6 (c + z_UNITS (4 * k + 2))) 7 (d + z_UNITS (4 * k + 3))) 8 (a + z_UNITS (4 * ((k + 7) % 10)))) 9 (b + z_UNITS (4 * ((k + 7) % 10) + 1))) 10 (c + z_UNITS (4 * ((k + 7) % 10) + 2))) 11 (d + z_UNITS (4 * ((k + 7) % 10) + 3))))] := hD
                  have ejj : plJ y k lf = ((k + 7) % 10) := by unfold plJ; simp [h51, h63]
                  obtain ⟨WK, eWK⟩ : ∃ G : Int → Int, G = (uZ (uZ (uZ (uZ (uZ (uZ (uZ (uZ (uZ (uZ (uZ (uZ Wk 0 a) 1 b) 2 c) 3 d) 4 (a + z_UNITS (4 * k))) 5 (b + z_UNITS (4 * k + 1))) 6 (c + z_UNITS (4 * k + 2))) 7 (d + z_UNITS (4 * k + 3))) 8 (a + z_UNITS (4 * ((k + 7) % 10)))) 9 (b + z_UNITS (4 * ((k + 7) % 10) + 1))) 10 (c + z_UNITS (4 * ((k + 7) % 10) + 2))) 11 (d + z_UNITS (4 * ((k + 7) % 10) + 3))) := ⟨_, rfl⟩
                  rw [← eWK] at hP hD
                  have hWK : bF WK := by rw [eWK]; exact (bF_uZ (bF_uZ (bF_uZ (bF_uZ (bF_uZ (bF_uZ (bF_uZ (bF_uZ (bF_uZ (bF_uZ (bF_uZ (bF_uZ hWk (by omega)) (by omega)) (by omega)) (by omega)) (by have := UNITS_in (4 * k); omega)) (by have := UNITS_in (4 * k + 1); omega)) (by have := UNITS_in (4 * k + 2); omega)) (by have := UNITS_in (4 * k + 3); omega)) (by have := UNITS_in (4 * ((k + 7) % 10)); omega)) (by have := UNITS_in (4 * ((k + 7) % 10) + 1); omega)) (by have := UNITS_in (4 * ((k + 7) % 10) + 2); omega)) (by have := UNITS_in (4 * ((k + 7) % 10) + 3); omega))
                  have eW2 : WK = plW Wk a b c d k (plJ y k lf) := by rw [eWK, ejj]; rfl
                  have okk : plOk z y a b c d k = true := by unfold plOk; rw [h45]; simp; omega
                  refine lv_aload_n hC.1 hC.2.1 d_X_place_128 rfl (lv_at hl 2 rfl) ?_
                  refine z_get (ci := 4) (C := R_X) (T := F_X) (N := 8) (v := .ref qp) hC in_X hK hP 0 rfl rfl 5 (by decide) k_103 rfl d_X_place_129 ?_
                  refine z_getN (ci := 0) (C := R_Ha) (T := F_Ha) (N := 3) (v := .int (iI z)) hC in_Ha hK hP 4 rfl rfl 2 (by decide) hE.1.2.2.2.2.1 rfl d_X_place_132 ?_
                  refine lv_istore (lv' := [(10, .int (iI z)), (9, .int (iI (((k + 7) % 10)))), (8, .int (iI 3)), (0, .ref x), (1, .int (iI y)), (2, .int (iI a)), (3, .int (iI b)), (4, .int (iI c)), (5, .int (iI d)), (6, .int (iI k)), (7, .int (iI (zB lf)))]) hC.1 hC.2.1 d_X_place_135 hl (by decide) rfl (fun ls hl => ?_)
                  refine lv_aload_n hC.1 hC.2.1 d_X_place_137 rfl (lv_at hl 3 rfl) ?_
                  refine z_get (ci := 4) (C := R_X) (T := F_X) (N := 8) (v := .ref qp) hC in_X hK hP 0 rfl rfl 5 (by decide) k_103 rfl d_X_place_138 ?_
                  refine lv_iload hC.1 hC.2.1 d_X_place_141 (lv_at hl 0 rfl) ?_
                  refine lv_iload_n hC.1 hC.2.1 d_X_place_143 rfl (lv_at hl 4 rfl) ?_
                  refine lv_aload_n hC.1 hC.2.1 d_X_place_144 rfl (lv_at hl 3 rfl) ?_
                  refine z_get (ci := 4) (C := R_X) (T := F_X) (N := 8) (v := .ref qw) hC in_X hK hP 0 rfl rfl 2 (by decide) k_100 rfl d_X_place_145 ?_
                  refine z_iconst hC d_X_place_148 ?_
                  refine z_iconst hC d_X_place_149 ?_
                  refine z_bipush hC d_X_place_150 (by decide) ?_
                  refine z_mVv (As := [.int (iI z), .int (iI y), .ref qw, .int (iI 0), .int (iI 4), .int (iI 8)]) (rest := []) (wr := [(x, .inr (4, [.ref qs, .ref qr, .ref qw, .ref qg, .ref qu, .ref qp, sp, .int (iI lv)])), (qs, .inr (2, [.ref ql, .ref qh])), (ql, eL t.2.1 2000 Lo), (qh, eL t.2.1 2000 Hi)]) hC (c_Ha_write l D t ts qp qt qn qw 20 z T F WK z y 0 4 8 (by omega) (by omega) (by omega) (by omega) (by decide) _) (cw_V hC k_186 k_138 k_139 k_5 k_140 ye_Ha_write (by decide)) hP hD hK hE hS hA [4, 5, 6, 7] [0, 1, 2, 3] (by decide) rfl rfl (by decide) (by decide) 4 (ci := 0) rfl rfl rfl rfl hl.1 rfl (Nat.le_of_ble_eq_true rfl) ⟨Nat.le_of_ble_eq_true rfl, Nat.le_of_ble_eq_true rfl⟩ d_X_place_152 (fun u4 H locs eu4 hP hD hS => ?_)
                  obtain ⟨u4T, u4N⟩ := u4
                  obtain ⟨eu4T, eu4N⟩ := eu4
                  dsimp only at eu4T eu4N hP hD
                  have hu4T : bT u4T := by rw [eu4T]; exact bT_uZ hT (by omega)
                  have hu4N : bF u4N := by rw [eu4N]; exact bF_wrN hF hWK
                  have hP : va_P D classes [(x, .inr (4, [.ref qs, .ref qr, .ref qw, .ref qg, .ref qu, .ref qp, sp, .int (iI lv)])), (qs, .inr (2, [.ref ql, .ref qh])), (ql, eL t.2.1 2000 Lo), (qh, eL t.2.1 2000 Hi), (qp, .inr (0, [.ref qt, .ref qn, .int (iI z)])), (qt, eI t.1 400 u4T), (qn, eI t.1 4800 u4N), (qw, eI t.1 20 WK)] H := hP
                  have hD : va_D A [(x, .inr (4, [.ref qs, .ref qr, .ref qw, .ref qg, .ref qu, .ref qp, sp, .int (iI lv)])), (qs, .inr (2, [.ref ql, .ref qh])), (ql, eL t.2.1 2000 Lo), (qh, eL t.2.1 2000 Hi), (qp, .inr (0, [.ref qt, .ref qn, .int (iI z)])), (qt, eI t.1 400 u4T), (qn, eI t.1 4800 u4N), (qw, eI t.1 20 WK)] := hD
                  refine lv_aload_n hC.1 hC.2.1 d_X_place_155 rfl (lv_at hl 3 rfl) ?_
                  refine z_get (ci := 4) (C := R_X) (T := F_X) (N := 8) (v := .ref qp) hC in_X hK hP 0 rfl rfl 5 (by decide) k_103 rfl d_X_place_156 ?_
                  refine lv_iload hC.1 hC.2.1 d_X_place_159 (lv_at hl 0 rfl) ?_
                  refine z_roVi (As := [.int (iI z)]) (rest := []) hC (c_Ha_withinLimits l D t ts qp qt qn z u4N z (by omega) hu4N) (cw_V hC k_187 k_188 k_189 k_5 k_190 ye_Ha_withinLimits (by decide)) hP hK hE hS [4, 6] rfl 4 (ci := 0) rfl rfl rfl rfl hl.1 rfl (Nat.le_of_ble_eq_true rfl) ⟨Nat.le_of_ble_eq_true rfl, Nat.le_of_ble_eq_true rfl⟩ d_X_place_161 ?_
                  refine z_if_neB (tgt := 169) hC d_X_place_164 (by decide) (fun h164 => ?_) (fun h164 => ?_)
                  · refine lv_aload_n hC.1 hC.2.1 d_X_place_169 rfl (lv_at hl 3 rfl) ?_
                    refine z_get (ci := 4) (C := R_X) (T := F_X) (N := 8) (v := .ref qs) hC in_X hK hP 0 rfl rfl 0 (by decide) k_98 rfl d_X_place_170 ?_
                    refine lv_aload_n hC.1 hC.2.1 d_X_place_173 rfl (lv_at hl 3 rfl) ?_
                    refine z_get (ci := 4) (C := R_X) (T := F_X) (N := 8) (v := .ref qp) hC in_X hK hP 0 rfl rfl 5 (by decide) k_103 rfl d_X_place_174 ?_
                    refine lv_iload hC.1 hC.2.1 d_X_place_177 (lv_at hl 0 rfl) ?_
                    refine z_mVv (As := [.ref qp, .int (iI z)]) (rest := []) (wr := [(x, .inr (4, [.ref qs, .ref qr, .ref qw, .ref qg, .ref qu, .ref qp, sp, .int (iI lv)])), (qt, eI t.1 400 u4T), (qw, eI t.1 20 WK)]) hC (c_St_measure l D t ts qs ql qh qp qt qn z Lo Hi u4N z (by omega) hu4N _) (cw_V hC k_192 k_152 k_153 k_2 k_154 ye_St_measure (by decide)) hP hD hK hE hS hA [1, 2, 3, 4, 6] [0, 5, 7] (by decide) rfl rfl (by decide) (by decide) 1 (ci := 2) rfl rfl rfl rfl hl.1 rfl (Nat.le_of_ble_eq_true rfl) ⟨Nat.le_of_ble_eq_true rfl, Nat.le_of_ble_eq_true rfl⟩ d_X_place_179 (fun u5 H locs eu5 hP hD hS => ?_)
                    obtain ⟨u5L, u5H⟩ := u5
                    obtain ⟨eu5L, eu5H⟩ := eu5
                    dsimp only at eu5L eu5H hP hD
                    have hP : va_P D classes [(x, .inr (4, [.ref qs, .ref qr, .ref qw, .ref qg, .ref qu, .ref qp, sp, .int (iI lv)])), (qt, eI t.1 400 u4T), (qw, eI t.1 20 WK), (qs, .inr (2, [.ref ql, .ref qh])), (ql, eL t.2.1 2000 u5L), (qh, eL t.2.1 2000 u5H), (qp, .inr (0, [.ref qt, .ref qn, .int (iI z)])), (qn, eI t.1 4800 u4N)] H := hP
                    have hD : va_D A [(x, .inr (4, [.ref qs, .ref qr, .ref qw, .ref qg, .ref qu, .ref qp, sp, .int (iI lv)])), (qt, eI t.1 400 u4T), (qw, eI t.1 20 WK), (qs, .inr (2, [.ref ql, .ref qh])), (ql, eL t.2.1 2000 u5L), (qh, eL t.2.1 2000 u5H), (qp, .inr (0, [.ref qt, .ref qn, .int (iI z)])), (qn, eI t.1 4800 u4N)] := hD
                    have hu5L : bL u5L := by rw [eu5L]; exact bL_mLo hLo hu4N z
                    have hu5H : bL u5H := by rw [eu5H]; exact bL_mHi hHi hu4N z
                    refine lv_aload_n hC.1 hC.2.1 d_X_place_182 rfl (lv_at hl 3 rfl) ?_
                    refine lv_iload hC.1 hC.2.1 d_X_place_183 (lv_at hl 0 rfl) ?_
                    refine z_roVi (As := [.int (iI z)]) (rest := []) hC (c_X_clashesWithEarlier l D t ts x qs qr qw qg qu qp ql qh qt qn sp lv z u5L u5H u4T u4N (by omega) hu5L hu5H hu4T hu4N z (by omega)) (cw_V hC k_193 k_195 kp_1 k_1 k_196 ye_X_clashesWithEarlier (by decide)) hP hK hE hS [0, 3, 4, 5, 6, 1, 7] rfl 0 (ci := 4) rfl rfl rfl rfl hl.1 rfl (Nat.le_of_ble_eq_true rfl) ⟨Nat.le_of_ble_eq_true rfl, Nat.le_of_ble_eq_true rfl⟩ d_X_place_185 ?_
                    refine z_if_eqB (tgt := 193) hC d_X_place_188 (by decide) (fun h188 => ?_) (fun h188 => ?_)
                    · refine lv_aload_n hC.1 hC.2.1 d_X_place_193 rfl (lv_at hl 3 rfl) ?_
                      refine z_get (ci := 4) (C := R_X) (T := F_X) (N := 8) (v := .ref qp) hC in_X hK hP 0 rfl rfl 5 (by decide) k_103 rfl d_X_place_194 ?_
                      refine lv_iload hC.1 hC.2.1 d_X_place_197 (lv_at hl 0 rfl) ?_
                      refine z_iconst hC d_X_place_199 ?_
                      refine z_iadd hC d_X_place_200 ?_
                      refine z_putN (ci := 0) (C := R_Ha) (T := F_Ha) (N := 3) (v := .int (iI (z + 1))) (ws' := [(x, .inr (4, [.ref qs, .ref qr, .ref qw, .ref qg, .ref qu, .ref qp, sp, .int (iI lv)])), (qt, eI t.1 400 u4T), (qw, eI t.1 20 WK), (qs, .inr (2, [.ref ql, .ref qh])), (ql, eL t.2.1 2000 u5L), (qh, eL t.2.1 2000 u5H), (qp, .inr (0, [.ref qt, .ref qn, .int (iI (z + 1))])), (qn, eI t.1 4800 u4N)]) hC in_Ha t_Ha t_Ha_ok n_Ha hK hP hD hS 6 rfl rfl 2 (by decide) hE.1.2.2.2.2.1 rfl rfl rfl (Nat.le_of_ble_eq_true rfl) rfl d_X_place_201 (fun H locs hP hD hS => ?_)
                      refine lv_iload hC.1 hC.2.1 d_X_place_204 (lv_at hl 0 rfl) ?_
                      have hP9 := hP.sub (ws' := [(x, .inr (4, [.ref qs, .ref qr, .ref qw, .ref qg, .ref qu, .ref qp, sp, .int (iI lv)])), (qs, .inr (2, [.ref ql, .ref qh])), (ql, eL t.2.1 2000 u5L), (qh, eL t.2.1 2000 u5H), (qp, .inr (0, [.ref qt, .ref qn, .int (iI (z + 1))])), (qt, eI t.1 400 u4T), (qn, eI t.1 4800 u4N), (qw, eI t.1 20 WK)]) [0, 3, 4, 5, 6, 1, 7, 2] rfl
                      have hD9 := hD.sub (ws' := [(x, .inr (4, [.ref qs, .ref qr, .ref qw, .ref qg, .ref qu, .ref qp, sp, .int (iI lv)])), (qs, .inr (2, [.ref ql, .ref qh])), (ql, eL t.2.1 2000 u5L), (qh, eL t.2.1 2000 u5H), (qp, .inr (0, [.ref qt, .ref qn, .int (iI (z + 1))])), (qt, eI t.1 400 u4T), (qn, eI t.1 4800 u4N), (qw, eI t.1 20 WK)]) [0, 3, 4, 5, 6, 1, 7, 2] (by decide) rfl
                      exact retv (z, z + 1, u4T, u4N, u5L, u5H, WK) _ _ 206 _ _ d_X_place_206 ⟨rfl, Or.inr ⟨okk, eW2, eu4T, eu4N, Or.inr ⟨h164, eu5L, eu5H, Or.inr ⟨by rw [← eu5L, ← eu5H]; exact h188, rfl, rfl⟩⟩⟩⟩ hP9 hD9 hS
                    · refine z_iconst hC d_X_place_191 ?_
                      have hP9 := hP.sub (ws' := [(x, .inr (4, [.ref qs, .ref qr, .ref qw, .ref qg, .ref qu, .ref qp, sp, .int (iI lv)])), (qs, .inr (2, [.ref ql, .ref qh])), (ql, eL t.2.1 2000 u5L), (qh, eL t.2.1 2000 u5H), (qp, .inr (0, [.ref qt, .ref qn, .int (iI z)])), (qt, eI t.1 400 u4T), (qn, eI t.1 4800 u4N), (qw, eI t.1 20 WK)]) [0, 3, 4, 5, 6, 1, 7, 2] rfl
                      have hD9 := hD.sub (ws' := [(x, .inr (4, [.ref qs, .ref qr, .ref qw, .ref qg, .ref qu, .ref qp, sp, .int (iI lv)])), (qs, .inr (2, [.ref ql, .ref qh])), (ql, eL t.2.1 2000 u5L), (qh, eL t.2.1 2000 u5H), (qp, .inr (0, [.ref qt, .ref qn, .int (iI z)])), (qt, eI t.1 400 u4T), (qn, eI t.1 4800 u4N), (qw, eI t.1 20 WK)]) [0, 3, 4, 5, 6, 1, 7, 2] (by decide) rfl
                      exact retv (-1, z, u4T, u4N, u5L, u5H, WK) _ _ 192 _ _ d_X_place_192 ⟨rfl, Or.inr ⟨okk, eW2, eu4T, eu4N, Or.inr ⟨h164, eu5L, eu5H, Or.inl ⟨by rw [← eu5L, ← eu5H]; exact h188, rfl, rfl⟩⟩⟩⟩ hP9 hD9 hS
                  · refine z_iconst hC d_X_place_167 ?_
                    have hP9 := hP.sub (ws' := [(x, .inr (4, [.ref qs, .ref qr, .ref qw, .ref qg, .ref qu, .ref qp, sp, .int (iI lv)])), (qs, .inr (2, [.ref ql, .ref qh])), (ql, eL t.2.1 2000 Lo), (qh, eL t.2.1 2000 Hi), (qp, .inr (0, [.ref qt, .ref qn, .int (iI z)])), (qt, eI t.1 400 u4T), (qn, eI t.1 4800 u4N), (qw, eI t.1 20 WK)]) [0, 1, 2, 3, 4, 5, 6, 7] rfl
                    have hD9 := hD.sub (ws' := [(x, .inr (4, [.ref qs, .ref qr, .ref qw, .ref qg, .ref qu, .ref qp, sp, .int (iI lv)])), (qs, .inr (2, [.ref ql, .ref qh])), (ql, eL t.2.1 2000 Lo), (qh, eL t.2.1 2000 Hi), (qp, .inr (0, [.ref qt, .ref qn, .int (iI z)])), (qt, eI t.1 400 u4T), (qn, eI t.1 4800 u4N), (qw, eI t.1 20 WK)]) [0, 1, 2, 3, 4, 5, 6, 7] (by decide) rfl
                    exact retv (-1, z, u4T, u4N, Lo, Hi, WK) _ _ 168 _ _ d_X_place_168 ⟨rfl, Or.inr ⟨okk, eW2, eu4T, eu4N, Or.inl ⟨h164, rfl, rfl, rfl, rfl⟩⟩⟩ hP9 hD9 hS
                · refine lv_iload hC.1 hC.2.1 d_X_place_66 (lv_at hl 7 rfl) ?_
                  refine lv_iload hC.1 hC.2.1 d_X_place_68 (lv_at hl 0 rfl) ?_
                  refine z_iadd hC d_X_place_70 ?_
                  refine z_goto (tgt := 82) hC d_X_place_71 (by decide) ?_
                  refine z_bipush hC d_X_place_82 (by decide) ?_
                  refine z_irem hC d_X_place_84 (by omega) (by omega) ?_
                  refine lv_istore (lv' := [(9, .int (iI (((k + 3) % 10)))), (8, .int (iI 3)), (0, .ref x), (1, .int (iI y)), (2, .int (iI a)), (3, .int (iI b)), (4, .int (iI c)), (5, .int (iI d)), (6, .int (iI k)), (7, .int (iI (zB lf)))]) hC.1 hC.2.1 d_X_place_85 hl (by decide) rfl (fun ls hl => ?_)
                  refine lv_aload_n hC.1 hC.2.1 d_X_place_87 rfl (lv_at hl 2 rfl) ?_
                  refine z_get (ci := 4) (C := R_X) (T := F_X) (N := 8) (v := .ref qw) hC in_X hK hP 0 rfl rfl 2 (by decide) k_100 rfl d_X_place_88 ?_
                  refine z_iconst hC d_X_place_91 ?_
                  refine lv_iload_n hC.1 hC.2.1 d_X_place_92 rfl (lv_at hl 4 rfl) ?_
                  refine lv_iload_n hC.1 hC.2.1 d_X_place_93 rfl (lv_at hl 5 rfl) ?_
                  refine lv_iload hC.1 hC.2.1 d_X_place_94 (lv_at hl 6 rfl) ?_
                  refine lv_iload hC.1 hC.2.1 d_X_place_96 (lv_at hl 7 rfl) ?_
                  refine z_mSv (As := [.ref qw, .int (iI 0), .int (iI a), .int (iI b), .int (iI c), .int (iI d)]) (rest := []) (wr := [(x, .inr (4, [.ref qs, .ref qr, .ref qw, .ref qg, .ref qu, .ref qp, sp, .int (iI lv)])), (qs, .inr (2, [.ref ql, .ref qh])), (ql, eL t.2.1 2000 Lo), (qh, eL t.2.1 2000 Hi), (qp, .inr (0, [.ref qt, .ref qn, .int (iI z)])), (qt, eI t.1 400 T), (qn, eI t.1 4800 F)]) hC (c_Po_set l D t ts qw 20 Wk 0 a b c d (by decide) (by omega) _) (cw_S hC k_179 k_180 k_8 k_181 ye_Po_set (by decide)) hP hD hK hE hS hA [7] [0, 1, 2, 3, 4, 5, 6] (by decide) rfl rfl (by decide) (by decide) rfl hl.1 rfl (Nat.le_of_ble_eq_true rfl) ⟨Nat.le_of_ble_eq_true rfl, Nat.le_of_ble_eq_true rfl⟩ d_X_place_98 (fun u6 H locs eu6 hP hD hS => ?_)
                  subst eu6
                  have hP : va_P D classes [(x, .inr (4, [.ref qs, .ref qr, .ref qw, .ref qg, .ref qu, .ref qp, sp, .int (iI lv)])), (qs, .inr (2, [.ref ql, .ref qh])), (ql, eL t.2.1 2000 Lo), (qh, eL t.2.1 2000 Hi), (qp, .inr (0, [.ref qt, .ref qn, .int (iI z)])), (qt, eI t.1 400 T), (qn, eI t.1 4800 F), (qw, eI t.1 20 (uZ (uZ (uZ (uZ Wk 0 a) 1 b) 2 c) 3 d))] H := hP
                  have hD : va_D A [(x, .inr (4, [.ref qs, .ref qr, .ref qw, .ref qg, .ref qu, .ref qp, sp, .int (iI lv)])), (qs, .inr (2, [.ref ql, .ref qh])), (ql, eL t.2.1 2000 Lo), (qh, eL t.2.1 2000 Hi), (qp, .inr (0, [.ref qt, .ref qn, .int (iI z)])), (qt, eI t.1 400 T), (qn, eI t.1 4800 F), (qw, eI t.1 20 (uZ (uZ (uZ (uZ Wk 0 a) 1 b) 2 c) 3 d))] := hD
                  refine lv_aload_n hC.1 hC.2.1 d_X_place_101 rfl (lv_at hl 2 rfl) ?_
                  refine z_get (ci := 4) (C := R_X) (T := F_X) (N := 8) (v := .ref qw) hC in_X hK hP 0 rfl rfl 2 (by decide) k_100 rfl d_X_place_102 ?_
                  refine z_iconst hC d_X_place_105 ?_
                  refine lv_iload hC.1 hC.2.1 d_X_place_106 (lv_at hl 8 rfl) ?_
                  refine z_iconst hC d_X_place_108 ?_
                  refine z_imul hC d_X_place_109 ?_
                  refine z_topi (z := 4 * k) (by omega) ?_
                  refine z_iconst hC d_X_place_110 ?_
                  refine z_mSv (As := [.ref qw, .int (iI 0), .int (iI (4 * k)), .int (iI 4)]) (rest := []) (wr := [(x, .inr (4, [.ref qs, .ref qr, .ref qw, .ref qg, .ref qu, .ref qp, sp, .int (iI lv)])), (qs, .inr (2, [.ref ql, .ref qh])), (ql, eL t.2.1 2000 Lo), (qh, eL t.2.1 2000 Hi), (qp, .inr (0, [.ref qt, .ref qn, .int (iI z)])), (qt, eI t.1 400 T), (qn, eI t.1 4800 F)]) hC (c_Po_add l D t ts qw 20 (uZ (uZ (uZ (uZ Wk 0 a) 1 b) 2 c) 3 d) (4 * k) 4 a b c d (by decide) (by omega) (by omega) (uZ_nt (by omega) (uZ_nt (by omega) (uZ_nt (by omega) (uZ_et (by omega))))) (uZ_nt (by omega) (uZ_nt (by omega) (uZ_et (by omega)))) (uZ_nt (by omega) (uZ_et (by omega))) (uZ_et (by omega)) _) (cw_S hC k_182 k_183 k_8 k_184 ye_Po_add (by decide)) hP hD hK hE hS hA [7] [0, 1, 2, 3, 4, 5, 6] (by decide) rfl rfl (by decide) (by decide) rfl hl.1 rfl (Nat.le_of_ble_eq_true rfl) ⟨Nat.le_of_ble_eq_true rfl, Nat.le_of_ble_eq_true rfl⟩ d_X_place_111 (fun u7 H locs eu7 hP hD hS => ?_)
                  subst eu7
                  have hP : va_P D classes [(x, .inr (4, [.ref qs, .ref qr, .ref qw, .ref qg, .ref qu, .ref qp, sp, .int (iI lv)])), (qs, .inr (2, [.ref ql, .ref qh])), (ql, eL t.2.1 2000 Lo), (qh, eL t.2.1 2000 Hi), (qp, .inr (0, [.ref qt, .ref qn, .int (iI z)])), (qt, eI t.1 400 T), (qn, eI t.1 4800 F), (qw, eI t.1 20 (uZ (uZ (uZ (uZ (uZ (uZ (uZ (uZ Wk 0 a) 1 b) 2 c) 3 d) 4 (a + z_UNITS (4 * k))) 5 (b + z_UNITS (4 * k + 1))) 6 (c + z_UNITS (4 * k + 2))) 7 (d + z_UNITS (4 * k + 3))))] H := hP
                  have hD : va_D A [(x, .inr (4, [.ref qs, .ref qr, .ref qw, .ref qg, .ref qu, .ref qp, sp, .int (iI lv)])), (qs, .inr (2, [.ref ql, .ref qh])), (ql, eL t.2.1 2000 Lo), (qh, eL t.2.1 2000 Hi), (qp, .inr (0, [.ref qt, .ref qn, .int (iI z)])), (qt, eI t.1 400 T), (qn, eI t.1 4800 F), (qw, eI t.1 20 (uZ (uZ (uZ (uZ (uZ (uZ (uZ (uZ Wk 0 a) 1 b) 2 c) 3 d) 4 (a + z_UNITS (4 * k))) 5 (b + z_UNITS (4 * k + 1))) 6 (c + z_UNITS (4 * k + 2))) 7 (d + z_UNITS (4 * k + 3))))] := hD
                  refine lv_aload_n hC.1 hC.2.1 d_X_place_114 rfl (lv_at hl 2 rfl) ?_
                  refine z_get (ci := 4) (C := R_X) (T := F_X) (N := 8) (v := .ref qw) hC in_X hK hP 0 rfl rfl 2 (by decide) k_100 rfl d_X_place_115 ?_
                  refine z_iconst hC d_X_place_118 ?_
                  refine lv_iload hC.1 hC.2.1 d_X_place_119 (lv_at hl 0 rfl) ?_
                  refine z_iconst hC d_X_place_121 ?_
                  refine z_imul hC d_X_place_122 ?_
                  refine z_topi (z := 4 * ((k + 3) % 10)) (by omega) ?_
                  refine z_bipush hC d_X_place_123 (by decide) ?_
                  refine z_mSv (As := [.ref qw, .int (iI 0), .int (iI (4 * ((k + 3) % 10))), .int (iI 8)]) (rest := []) (wr := [(x, .inr (4, [.ref qs, .ref qr, .ref qw, .ref qg, .ref qu, .ref qp, sp, .int (iI lv)])), (qs, .inr (2, [.ref ql, .ref qh])), (ql, eL t.2.1 2000 Lo), (qh, eL t.2.1 2000 Hi), (qp, .inr (0, [.ref qt, .ref qn, .int (iI z)])), (qt, eI t.1 400 T), (qn, eI t.1 4800 F)]) hC (c_Po_add l D t ts qw 20 (uZ (uZ (uZ (uZ (uZ (uZ (uZ (uZ Wk 0 a) 1 b) 2 c) 3 d) 4 (a + z_UNITS (4 * k))) 5 (b + z_UNITS (4 * k + 1))) 6 (c + z_UNITS (4 * k + 2))) 7 (d + z_UNITS (4 * k + 3))) (4 * ((k + 3) % 10)) 8 a b c d (by decide) (by omega) (by omega) (uZ_nt (by omega) (uZ_nt (by omega) (uZ_nt (by omega) (uZ_nt (by omega) (uZ_nt (by omega) (uZ_nt (by omega) (uZ_nt (by omega) (uZ_et (by omega))))))))) (uZ_nt (by omega) (uZ_nt (by omega) (uZ_nt (by omega) (uZ_nt (by omega) (uZ_nt (by omega) (uZ_nt (by omega) (uZ_et (by omega)))))))) (uZ_nt (by omega) (uZ_nt (by omega) (uZ_nt (by omega) (uZ_nt (by omega) (uZ_nt (by omega) (uZ_et (by omega))))))) (uZ_nt (by omega) (uZ_nt (by omega) (uZ_nt (by omega) (uZ_nt (by omega) (uZ_et (by omega)))))) _) (cw_S hC k_182 k_183 k_8 k_184 ye_Po_add (by decide)) hP hD hK hE hS hA [7] [0, 1, 2, 3, 4, 5, 6] (by decide) rfl rfl (by decide) (by decide) rfl hl.1 rfl (Nat.le_of_ble_eq_true rfl) ⟨Nat.le_of_ble_eq_true rfl, Nat.le_of_ble_eq_true rfl⟩ d_X_place_125 (fun u8 H locs eu8 hP hD hS => ?_)
                  subst eu8
                  have hP : va_P D classes [(x, .inr (4, [.ref qs, .ref qr, .ref qw, .ref qg, .ref qu, .ref qp, sp, .int (iI lv)])), (qs, .inr (2, [.ref ql, .ref qh])), (ql, eL t.2.1 2000 Lo), (qh, eL t.2.1 2000 Hi), (qp, .inr (0, [.ref qt, .ref qn, .int (iI z)])), (qt, eI t.1 400 T), (qn, eI t.1 4800 F), (qw, eI t.1 20 (uZ (uZ (uZ (uZ (uZ (uZ (uZ (uZ (uZ (uZ (uZ (uZ Wk 0 a) 1 b) 2 c) 3 d) 4 (a + z_UNITS (4 * k))) 5 (b + z_UNITS (4 * k + 1))) 6 (c + z_UNITS (4 * k + 2))) 7 (d + z_UNITS (4 * k + 3))) 8 (a + z_UNITS (4 * ((k + 3) % 10)))) 9 (b + z_UNITS (4 * ((k + 3) % 10) + 1))) 10 (c + z_UNITS (4 * ((k + 3) % 10) + 2))) 11 (d + z_UNITS (4 * ((k + 3) % 10) + 3))))] H := hP
                  have hD : va_D A [(x, .inr (4, [.ref qs, .ref qr, .ref qw, .ref qg, .ref qu, .ref qp, sp, .int (iI lv)])), (qs, .inr (2, [.ref ql, .ref qh])), (ql, eL t.2.1 2000 Lo), (qh, eL t.2.1 2000 Hi), (qp, .inr (0, [.ref qt, .ref qn, .int (iI z)])), (qt, eI t.1 400 T), (qn, eI t.1 4800 F), (qw, eI t.1 20 (uZ (uZ (uZ (uZ (uZ (uZ (uZ (uZ (uZ (uZ (uZ (uZ Wk 0 a) 1 b) 2 c) 3 d) 4 (a + z_UNITS (4 * k))) 5 (b + z_UNITS (4 * k + 1))) 6 (c + z_UNITS (4 * k + 2))) 7 (d + z_UNITS (4 * k + 3))) 8 (a + z_UNITS (4 * ((k + 3) % 10)))) 9 (b + z_UNITS (4 * ((k + 3) % 10) + 1))) 10 (c + z_UNITS (4 * ((k + 3) % 10) + 2))) 11 (d + z_UNITS (4 * ((k + 3) % 10) + 3))))] := hD
                  have ejj : plJ y k lf = ((k + 3) % 10) := by unfold plJ; simp [h51, h63]
                  obtain ⟨WK, eWK⟩ : ∃ G : Int → Int, G = (uZ (uZ (uZ (uZ (uZ (uZ (uZ (uZ (uZ (uZ (uZ (uZ Wk 0 a) 1 b) 2 c) 3 d) 4 (a + z_UNITS (4 * k))) 5 (b + z_UNITS (4 * k + 1))) 6 (c + z_UNITS (4 * k + 2))) 7 (d + z_UNITS (4 * k + 3))) 8 (a + z_UNITS (4 * ((k + 3) % 10)))) 9 (b + z_UNITS (4 * ((k + 3) % 10) + 1))) 10 (c + z_UNITS (4 * ((k + 3) % 10) + 2))) 11 (d + z_UNITS (4 * ((k + 3) % 10) + 3))) := ⟨_, rfl⟩
                  rw [← eWK] at hP hD
                  have hWK : bF WK := by rw [eWK]; exact (bF_uZ (bF_uZ (bF_uZ (bF_uZ (bF_uZ (bF_uZ (bF_uZ (bF_uZ (bF_uZ (bF_uZ (bF_uZ (bF_uZ hWk (by omega)) (by omega)) (by omega)) (by omega)) (by have := UNITS_in (4 * k); omega)) (by have := UNITS_in (4 * k + 1); omega)) (by have := UNITS_in (4 * k + 2); omega)) (by have := UNITS_in (4 * k + 3); omega)) (by have := UNITS_in (4 * ((k + 3) % 10)); omega)) (by have := UNITS_in (4 * ((k + 3) % 10) + 1); omega)) (by have := UNITS_in (4 * ((k + 3) % 10) + 2); omega)) (by have := UNITS_in (4 * ((k + 3) % 10) + 3); omega))
                  have eW2 : WK = plW Wk a b c d k (plJ y k lf) := by rw [eWK, ejj]; rfl
                  have okk : plOk z y a b c d k = true := by unfold plOk; rw [h45]; simp; omega
                  refine lv_aload_n hC.1 hC.2.1 d_X_place_128 rfl (lv_at hl 2 rfl) ?_
                  refine z_get (ci := 4) (C := R_X) (T := F_X) (N := 8) (v := .ref qp) hC in_X hK hP 0 rfl rfl 5 (by decide) k_103 rfl d_X_place_129 ?_
                  refine z_getN (ci := 0) (C := R_Ha) (T := F_Ha) (N := 3) (v := .int (iI z)) hC in_Ha hK hP 4 rfl rfl 2 (by decide) hE.1.2.2.2.2.1 rfl d_X_place_132 ?_
                  refine lv_istore (lv' := [(10, .int (iI z)), (9, .int (iI (((k + 3) % 10)))), (8, .int (iI 3)), (0, .ref x), (1, .int (iI y)), (2, .int (iI a)), (3, .int (iI b)), (4, .int (iI c)), (5, .int (iI d)), (6, .int (iI k)), (7, .int (iI (zB lf)))]) hC.1 hC.2.1 d_X_place_135 hl (by decide) rfl (fun ls hl => ?_)
                  refine lv_aload_n hC.1 hC.2.1 d_X_place_137 rfl (lv_at hl 3 rfl) ?_
                  refine z_get (ci := 4) (C := R_X) (T := F_X) (N := 8) (v := .ref qp) hC in_X hK hP 0 rfl rfl 5 (by decide) k_103 rfl d_X_place_138 ?_
                  refine lv_iload hC.1 hC.2.1 d_X_place_141 (lv_at hl 0 rfl) ?_
                  refine lv_iload_n hC.1 hC.2.1 d_X_place_143 rfl (lv_at hl 4 rfl) ?_
                  refine lv_aload_n hC.1 hC.2.1 d_X_place_144 rfl (lv_at hl 3 rfl) ?_
                  refine z_get (ci := 4) (C := R_X) (T := F_X) (N := 8) (v := .ref qw) hC in_X hK hP 0 rfl rfl 2 (by decide) k_100 rfl d_X_place_145 ?_
                  refine z_iconst hC d_X_place_148 ?_
                  refine z_iconst hC d_X_place_149 ?_
                  refine z_bipush hC d_X_place_150 (by decide) ?_
                  refine z_mVv (As := [.int (iI z), .int (iI y), .ref qw, .int (iI 0), .int (iI 4), .int (iI 8)]) (rest := []) (wr := [(x, .inr (4, [.ref qs, .ref qr, .ref qw, .ref qg, .ref qu, .ref qp, sp, .int (iI lv)])), (qs, .inr (2, [.ref ql, .ref qh])), (ql, eL t.2.1 2000 Lo), (qh, eL t.2.1 2000 Hi)]) hC (c_Ha_write l D t ts qp qt qn qw 20 z T F WK z y 0 4 8 (by omega) (by omega) (by omega) (by omega) (by decide) _) (cw_V hC k_186 k_138 k_139 k_5 k_140 ye_Ha_write (by decide)) hP hD hK hE hS hA [4, 5, 6, 7] [0, 1, 2, 3] (by decide) rfl rfl (by decide) (by decide) 4 (ci := 0) rfl rfl rfl rfl hl.1 rfl (Nat.le_of_ble_eq_true rfl) ⟨Nat.le_of_ble_eq_true rfl, Nat.le_of_ble_eq_true rfl⟩ d_X_place_152 (fun u9 H locs eu9 hP hD hS => ?_)
                  obtain ⟨u9T, u9N⟩ := u9
                  obtain ⟨eu9T, eu9N⟩ := eu9
                  dsimp only at eu9T eu9N hP hD
                  have hu9T : bT u9T := by rw [eu9T]; exact bT_uZ hT (by omega)
                  have hu9N : bF u9N := by rw [eu9N]; exact bF_wrN hF hWK
                  have hP : va_P D classes [(x, .inr (4, [.ref qs, .ref qr, .ref qw, .ref qg, .ref qu, .ref qp, sp, .int (iI lv)])), (qs, .inr (2, [.ref ql, .ref qh])), (ql, eL t.2.1 2000 Lo), (qh, eL t.2.1 2000 Hi), (qp, .inr (0, [.ref qt, .ref qn, .int (iI z)])), (qt, eI t.1 400 u9T), (qn, eI t.1 4800 u9N), (qw, eI t.1 20 WK)] H := hP
                  have hD : va_D A [(x, .inr (4, [.ref qs, .ref qr, .ref qw, .ref qg, .ref qu, .ref qp, sp, .int (iI lv)])), (qs, .inr (2, [.ref ql, .ref qh])), (ql, eL t.2.1 2000 Lo), (qh, eL t.2.1 2000 Hi), (qp, .inr (0, [.ref qt, .ref qn, .int (iI z)])), (qt, eI t.1 400 u9T), (qn, eI t.1 4800 u9N), (qw, eI t.1 20 WK)] := hD
                  refine lv_aload_n hC.1 hC.2.1 d_X_place_155 rfl (lv_at hl 3 rfl) ?_
                  refine z_get (ci := 4) (C := R_X) (T := F_X) (N := 8) (v := .ref qp) hC in_X hK hP 0 rfl rfl 5 (by decide) k_103 rfl d_X_place_156 ?_
                  refine lv_iload hC.1 hC.2.1 d_X_place_159 (lv_at hl 0 rfl) ?_
                  refine z_roVi (As := [.int (iI z)]) (rest := []) hC (c_Ha_withinLimits l D t ts qp qt qn z u9N z (by omega) hu9N) (cw_V hC k_187 k_188 k_189 k_5 k_190 ye_Ha_withinLimits (by decide)) hP hK hE hS [4, 6] rfl 4 (ci := 0) rfl rfl rfl rfl hl.1 rfl (Nat.le_of_ble_eq_true rfl) ⟨Nat.le_of_ble_eq_true rfl, Nat.le_of_ble_eq_true rfl⟩ d_X_place_161 ?_
                  refine z_if_neB (tgt := 169) hC d_X_place_164 (by decide) (fun h164 => ?_) (fun h164 => ?_)
                  · refine lv_aload_n hC.1 hC.2.1 d_X_place_169 rfl (lv_at hl 3 rfl) ?_
                    refine z_get (ci := 4) (C := R_X) (T := F_X) (N := 8) (v := .ref qs) hC in_X hK hP 0 rfl rfl 0 (by decide) k_98 rfl d_X_place_170 ?_
                    refine lv_aload_n hC.1 hC.2.1 d_X_place_173 rfl (lv_at hl 3 rfl) ?_
                    refine z_get (ci := 4) (C := R_X) (T := F_X) (N := 8) (v := .ref qp) hC in_X hK hP 0 rfl rfl 5 (by decide) k_103 rfl d_X_place_174 ?_
                    refine lv_iload hC.1 hC.2.1 d_X_place_177 (lv_at hl 0 rfl) ?_
                    refine z_mVv (As := [.ref qp, .int (iI z)]) (rest := []) (wr := [(x, .inr (4, [.ref qs, .ref qr, .ref qw, .ref qg, .ref qu, .ref qp, sp, .int (iI lv)])), (qt, eI t.1 400 u9T), (qw, eI t.1 20 WK)]) hC (c_St_measure l D t ts qs ql qh qp qt qn z Lo Hi u9N z (by omega) hu9N _) (cw_V hC k_192 k_152 k_153 k_2 k_154 ye_St_measure (by decide)) hP hD hK hE hS hA [1, 2, 3, 4, 6] [0, 5, 7] (by decide) rfl rfl (by decide) (by decide) 1 (ci := 2) rfl rfl rfl rfl hl.1 rfl (Nat.le_of_ble_eq_true rfl) ⟨Nat.le_of_ble_eq_true rfl, Nat.le_of_ble_eq_true rfl⟩ d_X_place_179 (fun u10 H locs eu10 hP hD hS => ?_)
                    obtain ⟨u10L, u10H⟩ := u10
                    obtain ⟨eu10L, eu10H⟩ := eu10
                    dsimp only at eu10L eu10H hP hD
                    have hP : va_P D classes [(x, .inr (4, [.ref qs, .ref qr, .ref qw, .ref qg, .ref qu, .ref qp, sp, .int (iI lv)])), (qt, eI t.1 400 u9T), (qw, eI t.1 20 WK), (qs, .inr (2, [.ref ql, .ref qh])), (ql, eL t.2.1 2000 u10L), (qh, eL t.2.1 2000 u10H), (qp, .inr (0, [.ref qt, .ref qn, .int (iI z)])), (qn, eI t.1 4800 u9N)] H := hP
                    have hD : va_D A [(x, .inr (4, [.ref qs, .ref qr, .ref qw, .ref qg, .ref qu, .ref qp, sp, .int (iI lv)])), (qt, eI t.1 400 u9T), (qw, eI t.1 20 WK), (qs, .inr (2, [.ref ql, .ref qh])), (ql, eL t.2.1 2000 u10L), (qh, eL t.2.1 2000 u10H), (qp, .inr (0, [.ref qt, .ref qn, .int (iI z)])), (qn, eI t.1 4800 u9N)] := hD
                    have hu10L : bL u10L := by rw [eu10L]; exact bL_mLo hLo hu9N z
                    have hu10H : bL u10H := by rw [eu10H]; exact bL_mHi hHi hu9N z
                    refine lv_aload_n hC.1 hC.2.1 d_X_place_182 rfl (lv_at hl 3 rfl) ?_
                    refine lv_iload hC.1 hC.2.1 d_X_place_183 (lv_at hl 0 rfl) ?_
                    refine z_roVi (As := [.int (iI z)]) (rest := []) hC (c_X_clashesWithEarlier l D t ts x qs qr qw qg qu qp ql qh qt qn sp lv z u10L u10H u9T u9N (by omega) hu10L hu10H hu9T hu9N z (by omega)) (cw_V hC k_193 k_195 kp_1 k_1 k_196 ye_X_clashesWithEarlier (by decide)) hP hK hE hS [0, 3, 4, 5, 6, 1, 7] rfl 0 (ci := 4) rfl rfl rfl rfl hl.1 rfl (Nat.le_of_ble_eq_true rfl) ⟨Nat.le_of_ble_eq_true rfl, Nat.le_of_ble_eq_true rfl⟩ d_X_place_185 ?_
                    refine z_if_eqB (tgt := 193) hC d_X_place_188 (by decide) (fun h188 => ?_) (fun h188 => ?_)
                    · refine lv_aload_n hC.1 hC.2.1 d_X_place_193 rfl (lv_at hl 3 rfl) ?_
                      refine z_get (ci := 4) (C := R_X) (T := F_X) (N := 8) (v := .ref qp) hC in_X hK hP 0 rfl rfl 5 (by decide) k_103 rfl d_X_place_194 ?_
                      refine lv_iload hC.1 hC.2.1 d_X_place_197 (lv_at hl 0 rfl) ?_
                      refine z_iconst hC d_X_place_199 ?_
                      refine z_iadd hC d_X_place_200 ?_
                      refine z_putN (ci := 0) (C := R_Ha) (T := F_Ha) (N := 3) (v := .int (iI (z + 1))) (ws' := [(x, .inr (4, [.ref qs, .ref qr, .ref qw, .ref qg, .ref qu, .ref qp, sp, .int (iI lv)])), (qt, eI t.1 400 u9T), (qw, eI t.1 20 WK), (qs, .inr (2, [.ref ql, .ref qh])), (ql, eL t.2.1 2000 u10L), (qh, eL t.2.1 2000 u10H), (qp, .inr (0, [.ref qt, .ref qn, .int (iI (z + 1))])), (qn, eI t.1 4800 u9N)]) hC in_Ha t_Ha t_Ha_ok n_Ha hK hP hD hS 6 rfl rfl 2 (by decide) hE.1.2.2.2.2.1 rfl rfl rfl (Nat.le_of_ble_eq_true rfl) rfl d_X_place_201 (fun H locs hP hD hS => ?_)
                      refine lv_iload hC.1 hC.2.1 d_X_place_204 (lv_at hl 0 rfl) ?_
                      have hP9 := hP.sub (ws' := [(x, .inr (4, [.ref qs, .ref qr, .ref qw, .ref qg, .ref qu, .ref qp, sp, .int (iI lv)])), (qs, .inr (2, [.ref ql, .ref qh])), (ql, eL t.2.1 2000 u10L), (qh, eL t.2.1 2000 u10H), (qp, .inr (0, [.ref qt, .ref qn, .int (iI (z + 1))])), (qt, eI t.1 400 u9T), (qn, eI t.1 4800 u9N), (qw, eI t.1 20 WK)]) [0, 3, 4, 5, 6, 1, 7, 2] rfl
                      have hD9 := hD.sub (ws' := [(x, .inr (4, [.ref qs, .ref qr, .ref qw, .ref qg, .ref qu, .ref qp, sp, .int (iI lv)])), (qs, .inr (2, [.ref ql, .ref qh])), (ql, eL t.2.1 2000 u10L), (qh, eL t.2.1 2000 u10H), (qp, .inr (0, [.ref qt, .ref qn, .int (iI (z + 1))])), (qt, eI t.1 400 u9T), (qn, eI t.1 4800 u9N), (qw, eI t.1 20 WK)]) [0, 3, 4, 5, 6, 1, 7, 2] (by decide) rfl
                      exact retv (z, z + 1, u9T, u9N, u10L, u10H, WK) _ _ 206 _ _ d_X_place_206 ⟨rfl, Or.inr ⟨okk, eW2, eu9T, eu9N, Or.inr ⟨h164, eu10L, eu10H, Or.inr ⟨by rw [← eu10L, ← eu10H]; exact h188, rfl, rfl⟩⟩⟩⟩ hP9 hD9 hS
                    · refine z_iconst hC d_X_place_191 ?_
                      have hP9 := hP.sub (ws' := [(x, .inr (4, [.ref qs, .ref qr, .ref qw, .ref qg, .ref qu, .ref qp, sp, .int (iI lv)])), (qs, .inr (2, [.ref ql, .ref qh])), (ql, eL t.2.1 2000 u10L), (qh, eL t.2.1 2000 u10H), (qp, .inr (0, [.ref qt, .ref qn, .int (iI z)])), (qt, eI t.1 400 u9T), (qn, eI t.1 4800 u9N), (qw, eI t.1 20 WK)]) [0, 3, 4, 5, 6, 1, 7, 2] rfl
                      have hD9 := hD.sub (ws' := [(x, .inr (4, [.ref qs, .ref qr, .ref qw, .ref qg, .ref qu, .ref qp, sp, .int (iI lv)])), (qs, .inr (2, [.ref ql, .ref qh])), (ql, eL t.2.1 2000 u10L), (qh, eL t.2.1 2000 u10H), (qp, .inr (0, [.ref qt, .ref qn, .int (iI z)])), (qt, eI t.1 400 u9T), (qn, eI t.1 4800 u9N), (qw, eI t.1 20 WK)]) [0, 3, 4, 5, 6, 1, 7, 2] (by decide) rfl
                      exact retv (-1, z, u9T, u9N, u10L, u10H, WK) _ _ 192 _ _ d_X_place_192 ⟨rfl, Or.inr ⟨okk, eW2, eu9T, eu9N, Or.inr ⟨h164, eu10L, eu10H, Or.inl ⟨by rw [← eu10L, ← eu10H]; exact h188, rfl, rfl⟩⟩⟩⟩ hP9 hD9 hS
                  · refine z_iconst hC d_X_place_167 ?_
                    have hP9 := hP.sub (ws' := [(x, .inr (4, [.ref qs, .ref qr, .ref qw, .ref qg, .ref qu, .ref qp, sp, .int (iI lv)])), (qs, .inr (2, [.ref ql, .ref qh])), (ql, eL t.2.1 2000 Lo), (qh, eL t.2.1 2000 Hi), (qp, .inr (0, [.ref qt, .ref qn, .int (iI z)])), (qt, eI t.1 400 u9T), (qn, eI t.1 4800 u9N), (qw, eI t.1 20 WK)]) [0, 1, 2, 3, 4, 5, 6, 7] rfl
                    have hD9 := hD.sub (ws' := [(x, .inr (4, [.ref qs, .ref qr, .ref qw, .ref qg, .ref qu, .ref qp, sp, .int (iI lv)])), (qs, .inr (2, [.ref ql, .ref qh])), (ql, eL t.2.1 2000 Lo), (qh, eL t.2.1 2000 Hi), (qp, .inr (0, [.ref qt, .ref qn, .int (iI z)])), (qt, eI t.1 400 u9T), (qn, eI t.1 4800 u9N), (qw, eI t.1 20 WK)]) [0, 1, 2, 3, 4, 5, 6, 7] (by decide) rfl
                    exact retv (-1, z, u9T, u9N, Lo, Hi, WK) _ _ 168 _ _ d_X_place_168 ⟨rfl, Or.inr ⟨okk, eW2, eu9T, eu9N, Or.inl ⟨h164, rfl, rfl, rfl, rfl⟩⟩⟩ hP9 hD9 hS
              · refine z_iconst hC d_X_place_54 ?_
                refine z_goto (tgt := 59) hC d_X_place_55 (by decide) ?_
                refine lv_istore (lv' := [(8, .int (iI 1)), (0, .ref x), (1, .int (iI y)), (2, .int (iI a)), (3, .int (iI b)), (4, .int (iI c)), (5, .int (iI d)), (6, .int (iI k)), (7, .int (iI (zB lf)))]) hC.1 hC.2.1 d_X_place_59 hl (by decide) rfl (fun ls hl => ?_)
                refine lv_iload hC.1 hC.2.1 d_X_place_61 (lv_at hl 8 rfl) ?_
                refine z_if_eqB (tgt := 74) hC d_X_place_63 (by decide) (fun h63 => ?_) (fun h63 => ?_)
                · refine lv_iload hC.1 hC.2.1 d_X_place_74 (lv_at hl 7 rfl) ?_
                  refine z_bipush hC d_X_place_76 (by decide) ?_
                  refine z_iadd hC d_X_place_78 ?_
                  refine lv_iload hC.1 hC.2.1 d_X_place_79 (lv_at hl 0 rfl) ?_
                  refine z_isub hC d_X_place_81 ?_
                  refine z_topi (z := k + 9) (by omega) ?_
                  refine z_bipush hC d_X_place_82 (by decide) ?_
                  refine z_irem hC d_X_place_84 (by omega) (by omega) ?_
                  refine lv_istore (lv' := [(9, .int (iI (((k + 9) % 10)))), (8, .int (iI 1)), (0, .ref x), (1, .int (iI y)), (2, .int (iI a)), (3, .int (iI b)), (4, .int (iI c)), (5, .int (iI d)), (6, .int (iI k)), (7, .int (iI (zB lf)))]) hC.1 hC.2.1 d_X_place_85 hl (by decide) rfl (fun ls hl => ?_)
                  refine lv_aload_n hC.1 hC.2.1 d_X_place_87 rfl (lv_at hl 2 rfl) ?_
                  refine z_get (ci := 4) (C := R_X) (T := F_X) (N := 8) (v := .ref qw) hC in_X hK hP 0 rfl rfl 2 (by decide) k_100 rfl d_X_place_88 ?_
                  refine z_iconst hC d_X_place_91 ?_
                  refine lv_iload_n hC.1 hC.2.1 d_X_place_92 rfl (lv_at hl 4 rfl) ?_
                  refine lv_iload_n hC.1 hC.2.1 d_X_place_93 rfl (lv_at hl 5 rfl) ?_
                  refine lv_iload hC.1 hC.2.1 d_X_place_94 (lv_at hl 6 rfl) ?_
                  refine lv_iload hC.1 hC.2.1 d_X_place_96 (lv_at hl 7 rfl) ?_
                  refine z_mSv (As := [.ref qw, .int (iI 0), .int (iI a), .int (iI b), .int (iI c), .int (iI d)]) (rest := []) (wr := [(x, .inr (4, [.ref qs, .ref qr, .ref qw, .ref qg, .ref qu, .ref qp, sp, .int (iI lv)])), (qs, .inr (2, [.ref ql, .ref qh])), (ql, eL t.2.1 2000 Lo), (qh, eL t.2.1 2000 Hi), (qp, .inr (0, [.ref qt, .ref qn, .int (iI z)])), (qt, eI t.1 400 T), (qn, eI t.1 4800 F)]) hC (c_Po_set l D t ts qw 20 Wk 0 a b c d (by decide) (by omega) _) (cw_S hC k_179 k_180 k_8 k_181 ye_Po_set (by decide)) hP hD hK hE hS hA [7] [0, 1, 2, 3, 4, 5, 6] (by decide) rfl rfl (by decide) (by decide) rfl hl.1 rfl (Nat.le_of_ble_eq_true rfl) ⟨Nat.le_of_ble_eq_true rfl, Nat.le_of_ble_eq_true rfl⟩ d_X_place_98 (fun u11 H locs eu11 hP hD hS => ?_)
                  subst eu11
                  have hP : va_P D classes [(x, .inr (4, [.ref qs, .ref qr, .ref qw, .ref qg, .ref qu, .ref qp, sp, .int (iI lv)])), (qs, .inr (2, [.ref ql, .ref qh])), (ql, eL t.2.1 2000 Lo), (qh, eL t.2.1 2000 Hi), (qp, .inr (0, [.ref qt, .ref qn, .int (iI z)])), (qt, eI t.1 400 T), (qn, eI t.1 4800 F), (qw, eI t.1 20 (uZ (uZ (uZ (uZ Wk 0 a) 1 b) 2 c) 3 d))] H := hP
                  have hD : va_D A [(x, .inr (4, [.ref qs, .ref qr, .ref qw, .ref qg, .ref qu, .ref qp, sp, .int (iI lv)])), (qs, .inr (2, [.ref ql, .ref qh])), (ql, eL t.2.1 2000 Lo), (qh, eL t.2.1 2000 Hi), (qp, .inr (0, [.ref qt, .ref qn, .int (iI z)])), (qt, eI t.1 400 T), (qn, eI t.1 4800 F), (qw, eI t.1 20 (uZ (uZ (uZ (uZ Wk 0 a) 1 b) 2 c) 3 d))] := hD
                  refine lv_aload_n hC.1 hC.2.1 d_X_place_101 rfl (lv_at hl 2 rfl) ?_
                  refine z_get (ci := 4) (C := R_X) (T := F_X) (N := 8) (v := .ref qw) hC in_X hK hP 0 rfl rfl 2 (by decide) k_100 rfl d_X_place_102 ?_
                  refine z_iconst hC d_X_place_105 ?_
                  refine lv_iload hC.1 hC.2.1 d_X_place_106 (lv_at hl 8 rfl) ?_
                  refine z_iconst hC d_X_place_108 ?_
                  refine z_imul hC d_X_place_109 ?_
                  refine z_topi (z := 4 * k) (by omega) ?_
                  refine z_iconst hC d_X_place_110 ?_
                  refine z_mSv (As := [.ref qw, .int (iI 0), .int (iI (4 * k)), .int (iI 4)]) (rest := []) (wr := [(x, .inr (4, [.ref qs, .ref qr, .ref qw, .ref qg, .ref qu, .ref qp, sp, .int (iI lv)])), (qs, .inr (2, [.ref ql, .ref qh])), (ql, eL t.2.1 2000 Lo), (qh, eL t.2.1 2000 Hi), (qp, .inr (0, [.ref qt, .ref qn, .int (iI z)])), (qt, eI t.1 400 T), (qn, eI t.1 4800 F)]) hC (c_Po_add l D t ts qw 20 (uZ (uZ (uZ (uZ Wk 0 a) 1 b) 2 c) 3 d) (4 * k) 4 a b c d (by decide) (by omega) (by omega) (uZ_nt (by omega) (uZ_nt (by omega) (uZ_nt (by omega) (uZ_et (by omega))))) (uZ_nt (by omega) (uZ_nt (by omega) (uZ_et (by omega)))) (uZ_nt (by omega) (uZ_et (by omega))) (uZ_et (by omega)) _) (cw_S hC k_182 k_183 k_8 k_184 ye_Po_add (by decide)) hP hD hK hE hS hA [7] [0, 1, 2, 3, 4, 5, 6] (by decide) rfl rfl (by decide) (by decide) rfl hl.1 rfl (Nat.le_of_ble_eq_true rfl) ⟨Nat.le_of_ble_eq_true rfl, Nat.le_of_ble_eq_true rfl⟩ d_X_place_111 (fun u12 H locs eu12 hP hD hS => ?_)
                  subst eu12
                  have hP : va_P D classes [(x, .inr (4, [.ref qs, .ref qr, .ref qw, .ref qg, .ref qu, .ref qp, sp, .int (iI lv)])), (qs, .inr (2, [.ref ql, .ref qh])), (ql, eL t.2.1 2000 Lo), (qh, eL t.2.1 2000 Hi), (qp, .inr (0, [.ref qt, .ref qn, .int (iI z)])), (qt, eI t.1 400 T), (qn, eI t.1 4800 F), (qw, eI t.1 20 (uZ (uZ (uZ (uZ (uZ (uZ (uZ (uZ Wk 0 a) 1 b) 2 c) 3 d) 4 (a + z_UNITS (4 * k))) 5 (b + z_UNITS (4 * k + 1))) 6 (c + z_UNITS (4 * k + 2))) 7 (d + z_UNITS (4 * k + 3))))] H := hP
                  have hD : va_D A [(x, .inr (4, [.ref qs, .ref qr, .ref qw, .ref qg, .ref qu, .ref qp, sp, .int (iI lv)])), (qs, .inr (2, [.ref ql, .ref qh])), (ql, eL t.2.1 2000 Lo), (qh, eL t.2.1 2000 Hi), (qp, .inr (0, [.ref qt, .ref qn, .int (iI z)])), (qt, eI t.1 400 T), (qn, eI t.1 4800 F), (qw, eI t.1 20 (uZ (uZ (uZ (uZ (uZ (uZ (uZ (uZ Wk 0 a) 1 b) 2 c) 3 d) 4 (a + z_UNITS (4 * k))) 5 (b + z_UNITS (4 * k + 1))) 6 (c + z_UNITS (4 * k + 2))) 7 (d + z_UNITS (4 * k + 3))))] := hD
                  refine lv_aload_n hC.1 hC.2.1 d_X_place_114 rfl (lv_at hl 2 rfl) ?_
                  refine z_get (ci := 4) (C := R_X) (T := F_X) (N := 8) (v := .ref qw) hC in_X hK hP 0 rfl rfl 2 (by decide) k_100 rfl d_X_place_115 ?_
                  refine z_iconst hC d_X_place_118 ?_
                  refine lv_iload hC.1 hC.2.1 d_X_place_119 (lv_at hl 0 rfl) ?_
                  refine z_iconst hC d_X_place_121 ?_
                  refine z_imul hC d_X_place_122 ?_
                  refine z_topi (z := 4 * ((k + 9) % 10)) (by omega) ?_
                  refine z_bipush hC d_X_place_123 (by decide) ?_
                  refine z_mSv (As := [.ref qw, .int (iI 0), .int (iI (4 * ((k + 9) % 10))), .int (iI 8)]) (rest := []) (wr := [(x, .inr (4, [.ref qs, .ref qr, .ref qw, .ref qg, .ref qu, .ref qp, sp, .int (iI lv)])), (qs, .inr (2, [.ref ql, .ref qh])), (ql, eL t.2.1 2000 Lo), (qh, eL t.2.1 2000 Hi), (qp, .inr (0, [.ref qt, .ref qn, .int (iI z)])), (qt, eI t.1 400 T), (qn, eI t.1 4800 F)]) hC (c_Po_add l D t ts qw 20 (uZ (uZ (uZ (uZ (uZ (uZ (uZ (uZ Wk 0 a) 1 b) 2 c) 3 d) 4 (a + z_UNITS (4 * k))) 5 (b + z_UNITS (4 * k + 1))) 6 (c + z_UNITS (4 * k + 2))) 7 (d + z_UNITS (4 * k + 3))) (4 * ((k + 9) % 10)) 8 a b c d (by decide) (by omega) (by omega) (uZ_nt (by omega) (uZ_nt (by omega) (uZ_nt (by omega) (uZ_nt (by omega) (uZ_nt (by omega) (uZ_nt (by omega) (uZ_nt (by omega) (uZ_et (by omega))))))))) (uZ_nt (by omega) (uZ_nt (by omega) (uZ_nt (by omega) (uZ_nt (by omega) (uZ_nt (by omega) (uZ_nt (by omega) (uZ_et (by omega)))))))) (uZ_nt (by omega) (uZ_nt (by omega) (uZ_nt (by omega) (uZ_nt (by omega) (uZ_nt (by omega) (uZ_et (by omega))))))) (uZ_nt (by omega) (uZ_nt (by omega) (uZ_nt (by omega) (uZ_nt (by omega) (uZ_et (by omega)))))) _) (cw_S hC k_182 k_183 k_8 k_184 ye_Po_add (by decide)) hP hD hK hE hS hA [7] [0, 1, 2, 3, 4, 5, 6] (by decide) rfl rfl (by decide) (by decide) rfl hl.1 rfl (Nat.le_of_ble_eq_true rfl) ⟨Nat.le_of_ble_eq_true rfl, Nat.le_of_ble_eq_true rfl⟩ d_X_place_125 (fun u13 H locs eu13 hP hD hS => ?_)
                  subst eu13
                  have hP : va_P D classes [(x, .inr (4, [.ref qs, .ref qr, .ref qw, .ref qg, .ref qu, .ref qp, sp, .int (iI lv)])), (qs, .inr (2, [.ref ql, .ref qh])), (ql, eL t.2.1 2000 Lo), (qh, eL t.2.1 2000 Hi), (qp, .inr (0, [.ref qt, .ref qn, .int (iI z)])), (qt, eI t.1 400 T), (qn, eI t.1 4800 F), (qw, eI t.1 20 (uZ (uZ (uZ (uZ (uZ (uZ (uZ (uZ (uZ (uZ (uZ (uZ Wk 0 a) 1 b) 2 c) 3 d) 4 (a + z_UNITS (4 * k))) 5 (b + z_UNITS (4 * k + 1))) 6 (c + z_UNITS (4 * k + 2))) 7 (d + z_UNITS (4 * k + 3))) 8 (a + z_UNITS (4 * ((k + 9) % 10)))) 9 (b + z_UNITS (4 * ((k + 9) % 10) + 1))) 10 (c + z_UNITS (4 * ((k + 9) % 10) + 2))) 11 (d + z_UNITS (4 * ((k + 9) % 10) + 3))))] H := hP
                  have hD : va_D A [(x, .inr (4, [.ref qs, .ref qr, .ref qw, .ref qg, .ref qu, .ref qp, sp, .int (iI lv)])), (qs, .inr (2, [.ref ql, .ref qh])), (ql, eL t.2.1 2000 Lo), (qh, eL t.2.1 2000 Hi), (qp, .inr (0, [.ref qt, .ref qn, .int (iI z)])), (qt, eI t.1 400 T), (qn, eI t.1 4800 F), (qw, eI t.1 20 (uZ (uZ (uZ (uZ (uZ (uZ (uZ (uZ (uZ (uZ (uZ (uZ Wk 0 a) 1 b) 2 c) 3 d) 4 (a + z_UNITS (4 * k))) 5 (b + z_UNITS (4 * k + 1))) 6 (c + z_UNITS (4 * k + 2))) 7 (d + z_UNITS (4 * k + 3))) 8 (a + z_UNITS (4 * ((k + 9) % 10)))) 9 (b + z_UNITS (4 * ((k + 9) % 10) + 1))) 10 (c + z_UNITS (4 * ((k + 9) % 10) + 2))) 11 (d + z_UNITS (4 * ((k + 9) % 10) + 3))))] := hD
                  have ejj : plJ y k lf = ((k + 9) % 10) := by unfold plJ; simp [h51, h63]
                  obtain ⟨WK, eWK⟩ : ∃ G : Int → Int, G = (uZ (uZ (uZ (uZ (uZ (uZ (uZ (uZ (uZ (uZ (uZ (uZ Wk 0 a) 1 b) 2 c) 3 d) 4 (a + z_UNITS (4 * k))) 5 (b + z_UNITS (4 * k + 1))) 6 (c + z_UNITS (4 * k + 2))) 7 (d + z_UNITS (4 * k + 3))) 8 (a + z_UNITS (4 * ((k + 9) % 10)))) 9 (b + z_UNITS (4 * ((k + 9) % 10) + 1))) 10 (c + z_UNITS (4 * ((k + 9) % 10) + 2))) 11 (d + z_UNITS (4 * ((k + 9) % 10) + 3))) := ⟨_, rfl⟩
                  rw [← eWK] at hP hD
                  have hWK : bF WK := by rw [eWK]; exact (bF_uZ (bF_uZ (bF_uZ (bF_uZ (bF_uZ (bF_uZ (bF_uZ (bF_uZ (bF_uZ (bF_uZ (bF_uZ (bF_uZ hWk (by omega)) (by omega)) (by omega)) (by omega)) (by have := UNITS_in (4 * k); omega)) (by have := UNITS_in (4 * k + 1); omega)) (by have := UNITS_in (4 * k + 2); omega)) (by have := UNITS_in (4 * k + 3); omega)) (by have := UNITS_in (4 * ((k + 9) % 10)); omega)) (by have := UNITS_in (4 * ((k + 9) % 10) + 1); omega)) (by have := UNITS_in (4 * ((k + 9) % 10) + 2); omega)) (by have := UNITS_in (4 * ((k + 9) % 10) + 3); omega))
                  have eW2 : WK = plW Wk a b c d k (plJ y k lf) := by rw [eWK, ejj]; rfl
                  have okk : plOk z y a b c d k = true := by unfold plOk; rw [h45]; simp; omega
                  refine lv_aload_n hC.1 hC.2.1 d_X_place_128 rfl (lv_at hl 2 rfl) ?_
                  refine z_get (ci := 4) (C := R_X) (T := F_X) (N := 8) (v := .ref qp) hC in_X hK hP 0 rfl rfl 5 (by decide) k_103 rfl d_X_place_129 ?_
                  refine z_getN (ci := 0) (C := R_Ha) (T := F_Ha) (N := 3) (v := .int (iI z)) hC in_Ha hK hP 4 rfl rfl 2 (by decide) hE.1.2.2.2.2.1 rfl d_X_place_132 ?_
                  refine lv_istore (lv' := [(10, .int (iI z)), (9, .int (iI (((k + 9) % 10)))), (8, .int (iI 1)), (0, .ref x), (1, .int (iI y)), (2, .int (iI a)), (3, .int (iI b)), (4, .int (iI c)), (5, .int (iI d)), (6, .int (iI k)), (7, .int (iI (zB lf)))]) hC.1 hC.2.1 d_X_place_135 hl (by decide) rfl (fun ls hl => ?_)
                  refine lv_aload_n hC.1 hC.2.1 d_X_place_137 rfl (lv_at hl 3 rfl) ?_
                  refine z_get (ci := 4) (C := R_X) (T := F_X) (N := 8) (v := .ref qp) hC in_X hK hP 0 rfl rfl 5 (by decide) k_103 rfl d_X_place_138 ?_
                  refine lv_iload hC.1 hC.2.1 d_X_place_141 (lv_at hl 0 rfl) ?_
                  refine lv_iload_n hC.1 hC.2.1 d_X_place_143 rfl (lv_at hl 4 rfl) ?_
                  refine lv_aload_n hC.1 hC.2.1 d_X_place_144 rfl (lv_at hl 3 rfl) ?_
                  refine z_get (ci := 4) (C := R_X) (T := F_X) (N := 8) (v := .ref qw) hC in_X hK hP 0 rfl rfl 2 (by decide) k_100 rfl d_X_place_145 ?_
                  refine z_iconst hC d_X_place_148 ?_
                  refine z_iconst hC d_X_place_149 ?_
                  refine z_bipush hC d_X_place_150 (by decide) ?_
                  refine z_mVv (As := [.int (iI z), .int (iI y), .ref qw, .int (iI 0), .int (iI 4), .int (iI 8)]) (rest := []) (wr := [(x, .inr (4, [.ref qs, .ref qr, .ref qw, .ref qg, .ref qu, .ref qp, sp, .int (iI lv)])), (qs, .inr (2, [.ref ql, .ref qh])), (ql, eL t.2.1 2000 Lo), (qh, eL t.2.1 2000 Hi)]) hC (c_Ha_write l D t ts qp qt qn qw 20 z T F WK z y 0 4 8 (by omega) (by omega) (by omega) (by omega) (by decide) _) (cw_V hC k_186 k_138 k_139 k_5 k_140 ye_Ha_write (by decide)) hP hD hK hE hS hA [4, 5, 6, 7] [0, 1, 2, 3] (by decide) rfl rfl (by decide) (by decide) 4 (ci := 0) rfl rfl rfl rfl hl.1 rfl (Nat.le_of_ble_eq_true rfl) ⟨Nat.le_of_ble_eq_true rfl, Nat.le_of_ble_eq_true rfl⟩ d_X_place_152 (fun u14 H locs eu14 hP hD hS => ?_)
                  obtain ⟨u14T, u14N⟩ := u14
                  obtain ⟨eu14T, eu14N⟩ := eu14
                  dsimp only at eu14T eu14N hP hD
                  have hu14T : bT u14T := by rw [eu14T]; exact bT_uZ hT (by omega)
                  have hu14N : bF u14N := by rw [eu14N]; exact bF_wrN hF hWK
                  have hP : va_P D classes [(x, .inr (4, [.ref qs, .ref qr, .ref qw, .ref qg, .ref qu, .ref qp, sp, .int (iI lv)])), (qs, .inr (2, [.ref ql, .ref qh])), (ql, eL t.2.1 2000 Lo), (qh, eL t.2.1 2000 Hi), (qp, .inr (0, [.ref qt, .ref qn, .int (iI z)])), (qt, eI t.1 400 u14T), (qn, eI t.1 4800 u14N), (qw, eI t.1 20 WK)] H := hP
                  have hD : va_D A [(x, .inr (4, [.ref qs, .ref qr, .ref qw, .ref qg, .ref qu, .ref qp, sp, .int (iI lv)])), (qs, .inr (2, [.ref ql, .ref qh])), (ql, eL t.2.1 2000 Lo), (qh, eL t.2.1 2000 Hi), (qp, .inr (0, [.ref qt, .ref qn, .int (iI z)])), (qt, eI t.1 400 u14T), (qn, eI t.1 4800 u14N), (qw, eI t.1 20 WK)] := hD
                  refine lv_aload_n hC.1 hC.2.1 d_X_place_155 rfl (lv_at hl 3 rfl) ?_
                  refine z_get (ci := 4) (C := R_X) (T := F_X) (N := 8) (v := .ref qp) hC in_X hK hP 0 rfl rfl 5 (by decide) k_103 rfl d_X_place_156 ?_
                  refine lv_iload hC.1 hC.2.1 d_X_place_159 (lv_at hl 0 rfl) ?_
                  refine z_roVi (As := [.int (iI z)]) (rest := []) hC (c_Ha_withinLimits l D t ts qp qt qn z u14N z (by omega) hu14N) (cw_V hC k_187 k_188 k_189 k_5 k_190 ye_Ha_withinLimits (by decide)) hP hK hE hS [4, 6] rfl 4 (ci := 0) rfl rfl rfl rfl hl.1 rfl (Nat.le_of_ble_eq_true rfl) ⟨Nat.le_of_ble_eq_true rfl, Nat.le_of_ble_eq_true rfl⟩ d_X_place_161 ?_
                  refine z_if_neB (tgt := 169) hC d_X_place_164 (by decide) (fun h164 => ?_) (fun h164 => ?_)
                  · refine lv_aload_n hC.1 hC.2.1 d_X_place_169 rfl (lv_at hl 3 rfl) ?_
                    refine z_get (ci := 4) (C := R_X) (T := F_X) (N := 8) (v := .ref qs) hC in_X hK hP 0 rfl rfl 0 (by decide) k_98 rfl d_X_place_170 ?_
                    refine lv_aload_n hC.1 hC.2.1 d_X_place_173 rfl (lv_at hl 3 rfl) ?_
                    refine z_get (ci := 4) (C := R_X) (T := F_X) (N := 8) (v := .ref qp) hC in_X hK hP 0 rfl rfl 5 (by decide) k_103 rfl d_X_place_174 ?_
                    refine lv_iload hC.1 hC.2.1 d_X_place_177 (lv_at hl 0 rfl) ?_
                    refine z_mVv (As := [.ref qp, .int (iI z)]) (rest := []) (wr := [(x, .inr (4, [.ref qs, .ref qr, .ref qw, .ref qg, .ref qu, .ref qp, sp, .int (iI lv)])), (qt, eI t.1 400 u14T), (qw, eI t.1 20 WK)]) hC (c_St_measure l D t ts qs ql qh qp qt qn z Lo Hi u14N z (by omega) hu14N _) (cw_V hC k_192 k_152 k_153 k_2 k_154 ye_St_measure (by decide)) hP hD hK hE hS hA [1, 2, 3, 4, 6] [0, 5, 7] (by decide) rfl rfl (by decide) (by decide) 1 (ci := 2) rfl rfl rfl rfl hl.1 rfl (Nat.le_of_ble_eq_true rfl) ⟨Nat.le_of_ble_eq_true rfl, Nat.le_of_ble_eq_true rfl⟩ d_X_place_179 (fun u15 H locs eu15 hP hD hS => ?_)
                    obtain ⟨u15L, u15H⟩ := u15
                    obtain ⟨eu15L, eu15H⟩ := eu15
                    dsimp only at eu15L eu15H hP hD
                    have hP : va_P D classes [(x, .inr (4, [.ref qs, .ref qr, .ref qw, .ref qg, .ref qu, .ref qp, sp, .int (iI lv)])), (qt, eI t.1 400 u14T), (qw, eI t.1 20 WK), (qs, .inr (2, [.ref ql, .ref qh])), (ql, eL t.2.1 2000 u15L), (qh, eL t.2.1 2000 u15H), (qp, .inr (0, [.ref qt, .ref qn, .int (iI z)])), (qn, eI t.1 4800 u14N)] H := hP
                    have hD : va_D A [(x, .inr (4, [.ref qs, .ref qr, .ref qw, .ref qg, .ref qu, .ref qp, sp, .int (iI lv)])), (qt, eI t.1 400 u14T), (qw, eI t.1 20 WK), (qs, .inr (2, [.ref ql, .ref qh])), (ql, eL t.2.1 2000 u15L), (qh, eL t.2.1 2000 u15H), (qp, .inr (0, [.ref qt, .ref qn, .int (iI z)])), (qn, eI t.1 4800 u14N)] := hD
                    have hu15L : bL u15L := by rw [eu15L]; exact bL_mLo hLo hu14N z
                    have hu15H : bL u15H := by rw [eu15H]; exact bL_mHi hHi hu14N z
                    refine lv_aload_n hC.1 hC.2.1 d_X_place_182 rfl (lv_at hl 3 rfl) ?_
                    refine lv_iload hC.1 hC.2.1 d_X_place_183 (lv_at hl 0 rfl) ?_
                    refine z_roVi (As := [.int (iI z)]) (rest := []) hC (c_X_clashesWithEarlier l D t ts x qs qr qw qg qu qp ql qh qt qn sp lv z u15L u15H u14T u14N (by omega) hu15L hu15H hu14T hu14N z (by omega)) (cw_V hC k_193 k_195 kp_1 k_1 k_196 ye_X_clashesWithEarlier (by decide)) hP hK hE hS [0, 3, 4, 5, 6, 1, 7] rfl 0 (ci := 4) rfl rfl rfl rfl hl.1 rfl (Nat.le_of_ble_eq_true rfl) ⟨Nat.le_of_ble_eq_true rfl, Nat.le_of_ble_eq_true rfl⟩ d_X_place_185 ?_
                    refine z_if_eqB (tgt := 193) hC d_X_place_188 (by decide) (fun h188 => ?_) (fun h188 => ?_)
                    · refine lv_aload_n hC.1 hC.2.1 d_X_place_193 rfl (lv_at hl 3 rfl) ?_
                      refine z_get (ci := 4) (C := R_X) (T := F_X) (N := 8) (v := .ref qp) hC in_X hK hP 0 rfl rfl 5 (by decide) k_103 rfl d_X_place_194 ?_
                      refine lv_iload hC.1 hC.2.1 d_X_place_197 (lv_at hl 0 rfl) ?_
                      refine z_iconst hC d_X_place_199 ?_
                      refine z_iadd hC d_X_place_200 ?_
                      refine z_putN (ci := 0) (C := R_Ha) (T := F_Ha) (N := 3) (v := .int (iI (z + 1))) (ws' := [(x, .inr (4, [.ref qs, .ref qr, .ref qw, .ref qg, .ref qu, .ref qp, sp, .int (iI lv)])), (qt, eI t.1 400 u14T), (qw, eI t.1 20 WK), (qs, .inr (2, [.ref ql, .ref qh])), (ql, eL t.2.1 2000 u15L), (qh, eL t.2.1 2000 u15H), (qp, .inr (0, [.ref qt, .ref qn, .int (iI (z + 1))])), (qn, eI t.1 4800 u14N)]) hC in_Ha t_Ha t_Ha_ok n_Ha hK hP hD hS 6 rfl rfl 2 (by decide) hE.1.2.2.2.2.1 rfl rfl rfl (Nat.le_of_ble_eq_true rfl) rfl d_X_place_201 (fun H locs hP hD hS => ?_)
                      refine lv_iload hC.1 hC.2.1 d_X_place_204 (lv_at hl 0 rfl) ?_
                      have hP9 := hP.sub (ws' := [(x, .inr (4, [.ref qs, .ref qr, .ref qw, .ref qg, .ref qu, .ref qp, sp, .int (iI lv)])), (qs, .inr (2, [.ref ql, .ref qh])), (ql, eL t.2.1 2000 u15L), (qh, eL t.2.1 2000 u15H), (qp, .inr (0, [.ref qt, .ref qn, .int (iI (z + 1))])), (qt, eI t.1 400 u14T), (qn, eI t.1 4800 u14N), (qw, eI t.1 20 WK)]) [0, 3, 4, 5, 6, 1, 7, 2] rfl
                      have hD9 := hD.sub (ws' := [(x, .inr (4, [.ref qs, .ref qr, .ref qw, .ref qg, .ref qu, .ref qp, sp, .int (iI lv)])), (qs, .inr (2, [.ref ql, .ref qh])), (ql, eL t.2.1 2000 u15L), (qh, eL t.2.1 2000 u15H), (qp, .inr (0, [.ref qt, .ref qn, .int (iI (z + 1))])), (qt, eI t.1 400 u14T), (qn, eI t.1 4800 u14N), (qw, eI t.1 20 WK)]) [0, 3, 4, 5, 6, 1, 7, 2] (by decide) rfl
                      exact retv (z, z + 1, u14T, u14N, u15L, u15H, WK) _ _ 206 _ _ d_X_place_206 ⟨rfl, Or.inr ⟨okk, eW2, eu14T, eu14N, Or.inr ⟨h164, eu15L, eu15H, Or.inr ⟨by rw [← eu15L, ← eu15H]; exact h188, rfl, rfl⟩⟩⟩⟩ hP9 hD9 hS
                    · refine z_iconst hC d_X_place_191 ?_
                      have hP9 := hP.sub (ws' := [(x, .inr (4, [.ref qs, .ref qr, .ref qw, .ref qg, .ref qu, .ref qp, sp, .int (iI lv)])), (qs, .inr (2, [.ref ql, .ref qh])), (ql, eL t.2.1 2000 u15L), (qh, eL t.2.1 2000 u15H), (qp, .inr (0, [.ref qt, .ref qn, .int (iI z)])), (qt, eI t.1 400 u14T), (qn, eI t.1 4800 u14N), (qw, eI t.1 20 WK)]) [0, 3, 4, 5, 6, 1, 7, 2] rfl
                      have hD9 := hD.sub (ws' := [(x, .inr (4, [.ref qs, .ref qr, .ref qw, .ref qg, .ref qu, .ref qp, sp, .int (iI lv)])), (qs, .inr (2, [.ref ql, .ref qh])), (ql, eL t.2.1 2000 u15L), (qh, eL t.2.1 2000 u15H), (qp, .inr (0, [.ref qt, .ref qn, .int (iI z)])), (qt, eI t.1 400 u14T), (qn, eI t.1 4800 u14N), (qw, eI t.1 20 WK)]) [0, 3, 4, 5, 6, 1, 7, 2] (by decide) rfl
                      exact retv (-1, z, u14T, u14N, u15L, u15H, WK) _ _ 192 _ _ d_X_place_192 ⟨rfl, Or.inr ⟨okk, eW2, eu14T, eu14N, Or.inr ⟨h164, eu15L, eu15H, Or.inl ⟨by rw [← eu15L, ← eu15H]; exact h188, rfl, rfl⟩⟩⟩⟩ hP9 hD9 hS
                  · refine z_iconst hC d_X_place_167 ?_
                    have hP9 := hP.sub (ws' := [(x, .inr (4, [.ref qs, .ref qr, .ref qw, .ref qg, .ref qu, .ref qp, sp, .int (iI lv)])), (qs, .inr (2, [.ref ql, .ref qh])), (ql, eL t.2.1 2000 Lo), (qh, eL t.2.1 2000 Hi), (qp, .inr (0, [.ref qt, .ref qn, .int (iI z)])), (qt, eI t.1 400 u14T), (qn, eI t.1 4800 u14N), (qw, eI t.1 20 WK)]) [0, 1, 2, 3, 4, 5, 6, 7] rfl
                    have hD9 := hD.sub (ws' := [(x, .inr (4, [.ref qs, .ref qr, .ref qw, .ref qg, .ref qu, .ref qp, sp, .int (iI lv)])), (qs, .inr (2, [.ref ql, .ref qh])), (ql, eL t.2.1 2000 Lo), (qh, eL t.2.1 2000 Hi), (qp, .inr (0, [.ref qt, .ref qn, .int (iI z)])), (qt, eI t.1 400 u14T), (qn, eI t.1 4800 u14N), (qw, eI t.1 20 WK)]) [0, 1, 2, 3, 4, 5, 6, 7] (by decide) rfl
                    exact retv (-1, z, u14T, u14N, Lo, Hi, WK) _ _ 168 _ _ d_X_place_168 ⟨rfl, Or.inr ⟨okk, eW2, eu14T, eu14N, Or.inl ⟨h164, rfl, rfl, rfl, rfl⟩⟩⟩ hP9 hD9 hS
                · refine lv_iload hC.1 hC.2.1 d_X_place_66 (lv_at hl 7 rfl) ?_
                  refine lv_iload hC.1 hC.2.1 d_X_place_68 (lv_at hl 0 rfl) ?_
                  refine z_iadd hC d_X_place_70 ?_
                  refine z_goto (tgt := 82) hC d_X_place_71 (by decide) ?_
                  refine z_bipush hC d_X_place_82 (by decide) ?_
                  refine z_irem hC d_X_place_84 (by omega) (by omega) ?_
                  refine lv_istore (lv' := [(9, .int (iI (((k + 1) % 10)))), (8, .int (iI 1)), (0, .ref x), (1, .int (iI y)), (2, .int (iI a)), (3, .int (iI b)), (4, .int (iI c)), (5, .int (iI d)), (6, .int (iI k)), (7, .int (iI (zB lf)))]) hC.1 hC.2.1 d_X_place_85 hl (by decide) rfl (fun ls hl => ?_)
                  refine lv_aload_n hC.1 hC.2.1 d_X_place_87 rfl (lv_at hl 2 rfl) ?_
                  refine z_get (ci := 4) (C := R_X) (T := F_X) (N := 8) (v := .ref qw) hC in_X hK hP 0 rfl rfl 2 (by decide) k_100 rfl d_X_place_88 ?_
                  refine z_iconst hC d_X_place_91 ?_
                  refine lv_iload_n hC.1 hC.2.1 d_X_place_92 rfl (lv_at hl 4 rfl) ?_
                  refine lv_iload_n hC.1 hC.2.1 d_X_place_93 rfl (lv_at hl 5 rfl) ?_
                  refine lv_iload hC.1 hC.2.1 d_X_place_94 (lv_at hl 6 rfl) ?_
                  refine lv_iload hC.1 hC.2.1 d_X_place_96 (lv_at hl 7 rfl) ?_
                  refine z_mSv (As := [.ref qw, .int (iI 0), .int (iI a), .int (iI b), .int (iI c), .int (iI d)]) (rest := []) (wr := [(x, .inr (4, [.ref qs, .ref qr, .ref qw, .ref qg, .ref qu, .ref qp, sp, .int (iI lv)])), (qs, .inr (2, [.ref ql, .ref qh])), (ql, eL t.2.1 2000 Lo), (qh, eL t.2.1 2000 Hi), (qp, .inr (0, [.ref qt, .ref qn, .int (iI z)])), (qt, eI t.1 400 T), (qn, eI t.1 4800 F)]) hC (c_Po_set l D t ts qw 20 Wk 0 a b c d (by decide) (by omega) _) (cw_S hC k_179 k_180 k_8 k_181 ye_Po_set (by decide)) hP hD hK hE hS hA [7] [0, 1, 2, 3, 4, 5, 6] (by decide) rfl rfl (by decide) (by decide) rfl hl.1 rfl (Nat.le_of_ble_eq_true rfl) ⟨Nat.le_of_ble_eq_true rfl, Nat.le_of_ble_eq_true rfl⟩ d_X_place_98 (fun u16 H locs eu16 hP hD hS => ?_)
                  subst eu16
                  have hP : va_P D classes [(x, .inr (4, [.ref qs, .ref qr, .ref qw, .ref qg, .ref qu, .ref qp, sp, .int (iI lv)])), (qs, .inr (2, [.ref ql, .ref qh])), (ql, eL t.2.1 2000 Lo), (qh, eL t.2.1 2000 Hi), (qp, .inr (0, [.ref qt, .ref qn, .int (iI z)])), (qt, eI t.1 400 T), (qn, eI t.1 4800 F), (qw, eI t.1 20 (uZ (uZ (uZ (uZ Wk 0 a) 1 b) 2 c) 3 d))] H := hP
                  have hD : va_D A [(x, .inr (4, [.ref qs, .ref qr, .ref qw, .ref qg, .ref qu, .ref qp, sp, .int (iI lv)])), (qs, .inr (2, [.ref ql, .ref qh])), (ql, eL t.2.1 2000 Lo), (qh, eL t.2.1 2000 Hi), (qp, .inr (0, [.ref qt, .ref qn, .int (iI z)])), (qt, eI t.1 400 T), (qn, eI t.1 4800 F), (qw, eI t.1 20 (uZ (uZ (uZ (uZ Wk 0 a) 1 b) 2 c) 3 d))] := hD
                  refine lv_aload_n hC.1 hC.2.1 d_X_place_101 rfl (lv_at hl 2 rfl) ?_
                  refine z_get (ci := 4) (C := R_X) (T := F_X) (N := 8) (v := .ref qw) hC in_X hK hP 0 rfl rfl 2 (by decide) k_100 rfl d_X_place_102 ?_
                  refine z_iconst hC d_X_place_105 ?_
                  refine lv_iload hC.1 hC.2.1 d_X_place_106 (lv_at hl 8 rfl) ?_
                  refine z_iconst hC d_X_place_108 ?_
                  refine z_imul hC d_X_place_109 ?_
                  refine z_topi (z := 4 * k) (by omega) ?_
                  refine z_iconst hC d_X_place_110 ?_
                  refine z_mSv (As := [.ref qw, .int (iI 0), .int (iI (4 * k)), .int (iI 4)]) (rest := []) (wr := [(x, .inr (4, [.ref qs, .ref qr, .ref qw, .ref qg, .ref qu, .ref qp, sp, .int (iI lv)])), (qs, .inr (2, [.ref ql, .ref qh])), (ql, eL t.2.1 2000 Lo), (qh, eL t.2.1 2000 Hi), (qp, .inr (0, [.ref qt, .ref qn, .int (iI z)])), (qt, eI t.1 400 T), (qn, eI t.1 4800 F)]) hC (c_Po_add l D t ts qw 20 (uZ (uZ (uZ (uZ Wk 0 a) 1 b) 2 c) 3 d) (4 * k) 4 a b c d (by decide) (by omega) (by omega) (uZ_nt (by omega) (uZ_nt (by omega) (uZ_nt (by omega) (uZ_et (by omega))))) (uZ_nt (by omega) (uZ_nt (by omega) (uZ_et (by omega)))) (uZ_nt (by omega) (uZ_et (by omega))) (uZ_et (by omega)) _) (cw_S hC k_182 k_183 k_8 k_184 ye_Po_add (by decide)) hP hD hK hE hS hA [7] [0, 1, 2, 3, 4, 5, 6] (by decide) rfl rfl (by decide) (by decide) rfl hl.1 rfl (Nat.le_of_ble_eq_true rfl) ⟨Nat.le_of_ble_eq_true rfl, Nat.le_of_ble_eq_true rfl⟩ d_X_place_111 (fun u17 H locs eu17 hP hD hS => ?_)
                  subst eu17
                  have hP : va_P D classes [(x, .inr (4, [.ref qs, .ref qr, .ref qw, .ref qg, .ref qu, .ref qp, sp, .int (iI lv)])), (qs, .inr (2, [.ref ql, .ref qh])), (ql, eL t.2.1 2000 Lo), (qh, eL t.2.1 2000 Hi), (qp, .inr (0, [.ref qt, .ref qn, .int (iI z)])), (qt, eI t.1 400 T), (qn, eI t.1 4800 F), (qw, eI t.1 20 (uZ (uZ (uZ (uZ (uZ (uZ (uZ (uZ Wk 0 a) 1 b) 2 c) 3 d) 4 (a + z_UNITS (4 * k))) 5 (b + z_UNITS (4 * k + 1))) 6 (c + z_UNITS (4 * k + 2))) 7 (d + z_UNITS (4 * k + 3))))] H := hP
                  have hD : va_D A [(x, .inr (4, [.ref qs, .ref qr, .ref qw, .ref qg, .ref qu, .ref qp, sp, .int (iI lv)])), (qs, .inr (2, [.ref ql, .ref qh])), (ql, eL t.2.1 2000 Lo), (qh, eL t.2.1 2000 Hi), (qp, .inr (0, [.ref qt, .ref qn, .int (iI z)])), (qt, eI t.1 400 T), (qn, eI t.1 4800 F), (qw, eI t.1 20 (uZ (uZ (uZ (uZ (uZ (uZ (uZ (uZ Wk 0 a) 1 b) 2 c) 3 d) 4 (a + z_UNITS (4 * k))) 5 (b + z_UNITS (4 * k + 1))) 6 (c + z_UNITS (4 * k + 2))) 7 (d + z_UNITS (4 * k + 3))))] := hD
                  refine lv_aload_n hC.1 hC.2.1 d_X_place_114 rfl (lv_at hl 2 rfl) ?_
                  refine z_get (ci := 4) (C := R_X) (T := F_X) (N := 8) (v := .ref qw) hC in_X hK hP 0 rfl rfl 2 (by decide) k_100 rfl d_X_place_115 ?_
                  refine z_iconst hC d_X_place_118 ?_
                  refine lv_iload hC.1 hC.2.1 d_X_place_119 (lv_at hl 0 rfl) ?_
                  refine z_iconst hC d_X_place_121 ?_
                  refine z_imul hC d_X_place_122 ?_
                  refine z_topi (z := 4 * ((k + 1) % 10)) (by omega) ?_
                  refine z_bipush hC d_X_place_123 (by decide) ?_
                  refine z_mSv (As := [.ref qw, .int (iI 0), .int (iI (4 * ((k + 1) % 10))), .int (iI 8)]) (rest := []) (wr := [(x, .inr (4, [.ref qs, .ref qr, .ref qw, .ref qg, .ref qu, .ref qp, sp, .int (iI lv)])), (qs, .inr (2, [.ref ql, .ref qh])), (ql, eL t.2.1 2000 Lo), (qh, eL t.2.1 2000 Hi), (qp, .inr (0, [.ref qt, .ref qn, .int (iI z)])), (qt, eI t.1 400 T), (qn, eI t.1 4800 F)]) hC (c_Po_add l D t ts qw 20 (uZ (uZ (uZ (uZ (uZ (uZ (uZ (uZ Wk 0 a) 1 b) 2 c) 3 d) 4 (a + z_UNITS (4 * k))) 5 (b + z_UNITS (4 * k + 1))) 6 (c + z_UNITS (4 * k + 2))) 7 (d + z_UNITS (4 * k + 3))) (4 * ((k + 1) % 10)) 8 a b c d (by decide) (by omega) (by omega) (uZ_nt (by omega) (uZ_nt (by omega) (uZ_nt (by omega) (uZ_nt (by omega) (uZ_nt (by omega) (uZ_nt (by omega) (uZ_nt (by omega) (uZ_et (by omega))))))))) (uZ_nt (by omega) (uZ_nt (by omega) (uZ_nt (by omega) (uZ_nt (by omega) (uZ_nt (by omega) (uZ_nt (by omega) (uZ_et (by omega)))))))) (uZ_nt (by omega) (uZ_nt (by omega) (uZ_nt (by omega) (uZ_nt (by omega) (uZ_nt (by omega) (uZ_et (by omega))))))) (uZ_nt (by omega) (uZ_nt (by omega) (uZ_nt (by omega) (uZ_nt (by omega) (uZ_et (by omega)))))) _) (cw_S hC k_182 k_183 k_8 k_184 ye_Po_add (by decide)) hP hD hK hE hS hA [7] [0, 1, 2, 3, 4, 5, 6] (by decide) rfl rfl (by decide) (by decide) rfl hl.1 rfl (Nat.le_of_ble_eq_true rfl) ⟨Nat.le_of_ble_eq_true rfl, Nat.le_of_ble_eq_true rfl⟩ d_X_place_125 (fun u18 H locs eu18 hP hD hS => ?_)
                  subst eu18
                  have hP : va_P D classes [(x, .inr (4, [.ref qs, .ref qr, .ref qw, .ref qg, .ref qu, .ref qp, sp, .int (iI lv)])), (qs, .inr (2, [.ref ql, .ref qh])), (ql, eL t.2.1 2000 Lo), (qh, eL t.2.1 2000 Hi), (qp, .inr (0, [.ref qt, .ref qn, .int (iI z)])), (qt, eI t.1 400 T), (qn, eI t.1 4800 F), (qw, eI t.1 20 (uZ (uZ (uZ (uZ (uZ (uZ (uZ (uZ (uZ (uZ (uZ (uZ Wk 0 a) 1 b) 2 c) 3 d) 4 (a + z_UNITS (4 * k))) 5 (b + z_UNITS (4 * k + 1))) 6 (c + z_UNITS (4 * k + 2))) 7 (d + z_UNITS (4 * k + 3))) 8 (a + z_UNITS (4 * ((k + 1) % 10)))) 9 (b + z_UNITS (4 * ((k + 1) % 10) + 1))) 10 (c + z_UNITS (4 * ((k + 1) % 10) + 2))) 11 (d + z_UNITS (4 * ((k + 1) % 10) + 3))))] H := hP
                  have hD : va_D A [(x, .inr (4, [.ref qs, .ref qr, .ref qw, .ref qg, .ref qu, .ref qp, sp, .int (iI lv)])), (qs, .inr (2, [.ref ql, .ref qh])), (ql, eL t.2.1 2000 Lo), (qh, eL t.2.1 2000 Hi), (qp, .inr (0, [.ref qt, .ref qn, .int (iI z)])), (qt, eI t.1 400 T), (qn, eI t.1 4800 F), (qw, eI t.1 20 (uZ (uZ (uZ (uZ (uZ (uZ (uZ (uZ (uZ (uZ (uZ (uZ Wk 0 a) 1 b) 2 c) 3 d) 4 (a + z_UNITS (4 * k))) 5 (b + z_UNITS (4 * k + 1))) 6 (c + z_UNITS (4 * k + 2))) 7 (d + z_UNITS (4 * k + 3))) 8 (a + z_UNITS (4 * ((k + 1) % 10)))) 9 (b + z_UNITS (4 * ((k + 1) % 10) + 1))) 10 (c + z_UNITS (4 * ((k + 1) % 10) + 2))) 11 (d + z_UNITS (4 * ((k + 1) % 10) + 3))))] := hD
                  have ejj : plJ y k lf = ((k + 1) % 10) := by unfold plJ; simp [h51, h63]
                  obtain ⟨WK, eWK⟩ : ∃ G : Int → Int, G = (uZ (uZ (uZ (uZ (uZ (uZ (uZ (uZ (uZ (uZ (uZ (uZ Wk 0 a) 1 b) 2 c) 3 d) 4 (a + z_UNITS (4 * k))) 5 (b + z_UNITS (4 * k + 1))) 6 (c + z_UNITS (4 * k + 2))) 7 (d + z_UNITS (4 * k + 3))) 8 (a + z_UNITS (4 * ((k + 1) % 10)))) 9 (b + z_UNITS (4 * ((k + 1) % 10) + 1))) 10 (c + z_UNITS (4 * ((k + 1) % 10) + 2))) 11 (d + z_UNITS (4 * ((k + 1) % 10) + 3))) := ⟨_, rfl⟩
                  rw [← eWK] at hP hD
                  have hWK : bF WK := by rw [eWK]; exact (bF_uZ (bF_uZ (bF_uZ (bF_uZ (bF_uZ (bF_uZ (bF_uZ (bF_uZ (bF_uZ (bF_uZ (bF_uZ (bF_uZ hWk (by omega)) (by omega)) (by omega)) (by omega)) (by have := UNITS_in (4 * k); omega)) (by have := UNITS_in (4 * k + 1); omega)) (by have := UNITS_in (4 * k + 2); omega)) (by have := UNITS_in (4 * k + 3); omega)) (by have := UNITS_in (4 * ((k + 1) % 10)); omega)) (by have := UNITS_in (4 * ((k + 1) % 10) + 1); omega)) (by have := UNITS_in (4 * ((k + 1) % 10) + 2); omega)) (by have := UNITS_in (4 * ((k + 1) % 10) + 3); omega))
                  have eW2 : WK = plW Wk a b c d k (plJ y k lf) := by rw [eWK, ejj]; rfl
                  have okk : plOk z y a b c d k = true := by unfold plOk; rw [h45]; simp; omega
                  refine lv_aload_n hC.1 hC.2.1 d_X_place_128 rfl (lv_at hl 2 rfl) ?_
                  refine z_get (ci := 4) (C := R_X) (T := F_X) (N := 8) (v := .ref qp) hC in_X hK hP 0 rfl rfl 5 (by decide) k_103 rfl d_X_place_129 ?_
                  refine z_getN (ci := 0) (C := R_Ha) (T := F_Ha) (N := 3) (v := .int (iI z)) hC in_Ha hK hP 4 rfl rfl 2 (by decide) hE.1.2.2.2.2.1 rfl d_X_place_132 ?_
                  refine lv_istore (lv' := [(10, .int (iI z)), (9, .int (iI (((k + 1) % 10)))), (8, .int (iI 1)), (0, .ref x), (1, .int (iI y)), (2, .int (iI a)), (3, .int (iI b)), (4, .int (iI c)), (5, .int (iI d)), (6, .int (iI k)), (7, .int (iI (zB lf)))]) hC.1 hC.2.1 d_X_place_135 hl (by decide) rfl (fun ls hl => ?_)
                  refine lv_aload_n hC.1 hC.2.1 d_X_place_137 rfl (lv_at hl 3 rfl) ?_
                  refine z_get (ci := 4) (C := R_X) (T := F_X) (N := 8) (v := .ref qp) hC in_X hK hP 0 rfl rfl 5 (by decide) k_103 rfl d_X_place_138 ?_
                  refine lv_iload hC.1 hC.2.1 d_X_place_141 (lv_at hl 0 rfl) ?_
                  refine lv_iload_n hC.1 hC.2.1 d_X_place_143 rfl (lv_at hl 4 rfl) ?_
                  refine lv_aload_n hC.1 hC.2.1 d_X_place_144 rfl (lv_at hl 3 rfl) ?_
                  refine z_get (ci := 4) (C := R_X) (T := F_X) (N := 8) (v := .ref qw) hC in_X hK hP 0 rfl rfl 2 (by decide) k_100 rfl d_X_place_145 ?_
                  refine z_iconst hC d_X_place_148 ?_
                  refine z_iconst hC d_X_place_149 ?_
                  refine z_bipush hC d_X_place_150 (by decide) ?_
                  refine z_mVv (As := [.int (iI z), .int (iI y), .ref qw, .int (iI 0), .int (iI 4), .int (iI 8)]) (rest := []) (wr := [(x, .inr (4, [.ref qs, .ref qr, .ref qw, .ref qg, .ref qu, .ref qp, sp, .int (iI lv)])), (qs, .inr (2, [.ref ql, .ref qh])), (ql, eL t.2.1 2000 Lo), (qh, eL t.2.1 2000 Hi)]) hC (c_Ha_write l D t ts qp qt qn qw 20 z T F WK z y 0 4 8 (by omega) (by omega) (by omega) (by omega) (by decide) _) (cw_V hC k_186 k_138 k_139 k_5 k_140 ye_Ha_write (by decide)) hP hD hK hE hS hA [4, 5, 6, 7] [0, 1, 2, 3] (by decide) rfl rfl (by decide) (by decide) 4 (ci := 0) rfl rfl rfl rfl hl.1 rfl (Nat.le_of_ble_eq_true rfl) ⟨Nat.le_of_ble_eq_true rfl, Nat.le_of_ble_eq_true rfl⟩ d_X_place_152 (fun u19 H locs eu19 hP hD hS => ?_)
                  obtain ⟨u19T, u19N⟩ := u19
                  obtain ⟨eu19T, eu19N⟩ := eu19
                  dsimp only at eu19T eu19N hP hD
                  have hu19T : bT u19T := by rw [eu19T]; exact bT_uZ hT (by omega)
                  have hu19N : bF u19N := by rw [eu19N]; exact bF_wrN hF hWK
                  have hP : va_P D classes [(x, .inr (4, [.ref qs, .ref qr, .ref qw, .ref qg, .ref qu, .ref qp, sp, .int (iI lv)])), (qs, .inr (2, [.ref ql, .ref qh])), (ql, eL t.2.1 2000 Lo), (qh, eL t.2.1 2000 Hi), (qp, .inr (0, [.ref qt, .ref qn, .int (iI z)])), (qt, eI t.1 400 u19T), (qn, eI t.1 4800 u19N), (qw, eI t.1 20 WK)] H := hP
                  have hD : va_D A [(x, .inr (4, [.ref qs, .ref qr, .ref qw, .ref qg, .ref qu, .ref qp, sp, .int (iI lv)])), (qs, .inr (2, [.ref ql, .ref qh])), (ql, eL t.2.1 2000 Lo), (qh, eL t.2.1 2000 Hi), (qp, .inr (0, [.ref qt, .ref qn, .int (iI z)])), (qt, eI t.1 400 u19T), (qn, eI t.1 4800 u19N), (qw, eI t.1 20 WK)] := hD
                  refine lv_aload_n hC.1 hC.2.1 d_X_place_155 rfl (lv_at hl 3 rfl) ?_
                  refine z_get (ci := 4) (C := R_X) (T := F_X) (N := 8) (v := .ref qp) hC in_X hK hP 0 rfl rfl 5 (by decide) k_103 rfl d_X_place_156 ?_
                  refine lv_iload hC.1 hC.2.1 d_X_place_159 (lv_at hl 0 rfl) ?_
                  refine z_roVi (As := [.int (iI z)]) (rest := []) hC (c_Ha_withinLimits l D t ts qp qt qn z u19N z (by omega) hu19N) (cw_V hC k_187 k_188 k_189 k_5 k_190 ye_Ha_withinLimits (by decide)) hP hK hE hS [4, 6] rfl 4 (ci := 0) rfl rfl rfl rfl hl.1 rfl (Nat.le_of_ble_eq_true rfl) ⟨Nat.le_of_ble_eq_true rfl, Nat.le_of_ble_eq_true rfl⟩ d_X_place_161 ?_
                  refine z_if_neB (tgt := 169) hC d_X_place_164 (by decide) (fun h164 => ?_) (fun h164 => ?_)
                  · refine lv_aload_n hC.1 hC.2.1 d_X_place_169 rfl (lv_at hl 3 rfl) ?_
                    refine z_get (ci := 4) (C := R_X) (T := F_X) (N := 8) (v := .ref qs) hC in_X hK hP 0 rfl rfl 0 (by decide) k_98 rfl d_X_place_170 ?_
                    refine lv_aload_n hC.1 hC.2.1 d_X_place_173 rfl (lv_at hl 3 rfl) ?_
                    refine z_get (ci := 4) (C := R_X) (T := F_X) (N := 8) (v := .ref qp) hC in_X hK hP 0 rfl rfl 5 (by decide) k_103 rfl d_X_place_174 ?_
                    refine lv_iload hC.1 hC.2.1 d_X_place_177 (lv_at hl 0 rfl) ?_
                    refine z_mVv (As := [.ref qp, .int (iI z)]) (rest := []) (wr := [(x, .inr (4, [.ref qs, .ref qr, .ref qw, .ref qg, .ref qu, .ref qp, sp, .int (iI lv)])), (qt, eI t.1 400 u19T), (qw, eI t.1 20 WK)]) hC (c_St_measure l D t ts qs ql qh qp qt qn z Lo Hi u19N z (by omega) hu19N _) (cw_V hC k_192 k_152 k_153 k_2 k_154 ye_St_measure (by decide)) hP hD hK hE hS hA [1, 2, 3, 4, 6] [0, 5, 7] (by decide) rfl rfl (by decide) (by decide) 1 (ci := 2) rfl rfl rfl rfl hl.1 rfl (Nat.le_of_ble_eq_true rfl) ⟨Nat.le_of_ble_eq_true rfl, Nat.le_of_ble_eq_true rfl⟩ d_X_place_179 (fun u20 H locs eu20 hP hD hS => ?_)
                    obtain ⟨u20L, u20H⟩ := u20
                    obtain ⟨eu20L, eu20H⟩ := eu20
                    dsimp only at eu20L eu20H hP hD
                    have hP : va_P D classes [(x, .inr (4, [.ref qs, .ref qr, .ref qw, .ref qg, .ref qu, .ref qp, sp, .int (iI lv)])), (qt, eI t.1 400 u19T), (qw, eI t.1 20 WK), (qs, .inr (2, [.ref ql, .ref qh])), (ql, eL t.2.1 2000 u20L), (qh, eL t.2.1 2000 u20H), (qp, .inr (0, [.ref qt, .ref qn, .int (iI z)])), (qn, eI t.1 4800 u19N)] H := hP
                    have hD : va_D A [(x, .inr (4, [.ref qs, .ref qr, .ref qw, .ref qg, .ref qu, .ref qp, sp, .int (iI lv)])), (qt, eI t.1 400 u19T), (qw, eI t.1 20 WK), (qs, .inr (2, [.ref ql, .ref qh])), (ql, eL t.2.1 2000 u20L), (qh, eL t.2.1 2000 u20H), (qp, .inr (0, [.ref qt, .ref qn, .int (iI z)])), (qn, eI t.1 4800 u19N)] := hD
                    have hu20L : bL u20L := by rw [eu20L]; exact bL_mLo hLo hu19N z
                    have hu20H : bL u20H := by rw [eu20H]; exact bL_mHi hHi hu19N z
                    refine lv_aload_n hC.1 hC.2.1 d_X_place_182 rfl (lv_at hl 3 rfl) ?_
                    refine lv_iload hC.1 hC.2.1 d_X_place_183 (lv_at hl 0 rfl) ?_
                    refine z_roVi (As := [.int (iI z)]) (rest := []) hC (c_X_clashesWithEarlier l D t ts x qs qr qw qg qu qp ql qh qt qn sp lv z u20L u20H u19T u19N (by omega) hu20L hu20H hu19T hu19N z (by omega)) (cw_V hC k_193 k_195 kp_1 k_1 k_196 ye_X_clashesWithEarlier (by decide)) hP hK hE hS [0, 3, 4, 5, 6, 1, 7] rfl 0 (ci := 4) rfl rfl rfl rfl hl.1 rfl (Nat.le_of_ble_eq_true rfl) ⟨Nat.le_of_ble_eq_true rfl, Nat.le_of_ble_eq_true rfl⟩ d_X_place_185 ?_
                    refine z_if_eqB (tgt := 193) hC d_X_place_188 (by decide) (fun h188 => ?_) (fun h188 => ?_)
                    · refine lv_aload_n hC.1 hC.2.1 d_X_place_193 rfl (lv_at hl 3 rfl) ?_
                      refine z_get (ci := 4) (C := R_X) (T := F_X) (N := 8) (v := .ref qp) hC in_X hK hP 0 rfl rfl 5 (by decide) k_103 rfl d_X_place_194 ?_
                      refine lv_iload hC.1 hC.2.1 d_X_place_197 (lv_at hl 0 rfl) ?_
                      refine z_iconst hC d_X_place_199 ?_
                      refine z_iadd hC d_X_place_200 ?_
                      refine z_putN (ci := 0) (C := R_Ha) (T := F_Ha) (N := 3) (v := .int (iI (z + 1))) (ws' := [(x, .inr (4, [.ref qs, .ref qr, .ref qw, .ref qg, .ref qu, .ref qp, sp, .int (iI lv)])), (qt, eI t.1 400 u19T), (qw, eI t.1 20 WK), (qs, .inr (2, [.ref ql, .ref qh])), (ql, eL t.2.1 2000 u20L), (qh, eL t.2.1 2000 u20H), (qp, .inr (0, [.ref qt, .ref qn, .int (iI (z + 1))])), (qn, eI t.1 4800 u19N)]) hC in_Ha t_Ha t_Ha_ok n_Ha hK hP hD hS 6 rfl rfl 2 (by decide) hE.1.2.2.2.2.1 rfl rfl rfl (Nat.le_of_ble_eq_true rfl) rfl d_X_place_201 (fun H locs hP hD hS => ?_)
                      refine lv_iload hC.1 hC.2.1 d_X_place_204 (lv_at hl 0 rfl) ?_
                      have hP9 := hP.sub (ws' := [(x, .inr (4, [.ref qs, .ref qr, .ref qw, .ref qg, .ref qu, .ref qp, sp, .int (iI lv)])), (qs, .inr (2, [.ref ql, .ref qh])), (ql, eL t.2.1 2000 u20L), (qh, eL t.2.1 2000 u20H), (qp, .inr (0, [.ref qt, .ref qn, .int (iI (z + 1))])), (qt, eI t.1 400 u19T), (qn, eI t.1 4800 u19N), (qw, eI t.1 20 WK)]) [0, 3, 4, 5, 6, 1, 7, 2] rfl
                      have hD9 := hD.sub (ws' := [(x, .inr (4, [.ref qs, .ref qr, .ref qw, .ref qg, .ref qu, .ref qp, sp, .int (iI lv)])), (qs, .inr (2, [.ref ql, .ref qh])), (ql, eL t.2.1 2000 u20L), (qh, eL t.2.1 2000 u20H), (qp, .inr (0, [.ref qt, .ref qn, .int (iI (z + 1))])), (qt, eI t.1 400 u19T), (qn, eI t.1 4800 u19N), (qw, eI t.1 20 WK)]) [0, 3, 4, 5, 6, 1, 7, 2] (by decide) rfl
                      exact retv (z, z + 1, u19T, u19N, u20L, u20H, WK) _ _ 206 _ _ d_X_place_206 ⟨rfl, Or.inr ⟨okk, eW2, eu19T, eu19N, Or.inr ⟨h164, eu20L, eu20H, Or.inr ⟨by rw [← eu20L, ← eu20H]; exact h188, rfl, rfl⟩⟩⟩⟩ hP9 hD9 hS
                    · refine z_iconst hC d_X_place_191 ?_
                      have hP9 := hP.sub (ws' := [(x, .inr (4, [.ref qs, .ref qr, .ref qw, .ref qg, .ref qu, .ref qp, sp, .int (iI lv)])), (qs, .inr (2, [.ref ql, .ref qh])), (ql, eL t.2.1 2000 u20L), (qh, eL t.2.1 2000 u20H), (qp, .inr (0, [.ref qt, .ref qn, .int (iI z)])), (qt, eI t.1 400 u19T), (qn, eI t.1 4800 u19N), (qw, eI t.1 20 WK)]) [0, 3, 4, 5, 6, 1, 7, 2] rfl
                      have hD9 := hD.sub (ws' := [(x, .inr (4, [.ref qs, .ref qr, .ref qw, .ref qg, .ref qu, .ref qp, sp, .int (iI lv)])), (qs, .inr (2, [.ref ql, .ref qh])), (ql, eL t.2.1 2000 u20L), (qh, eL t.2.1 2000 u20H), (qp, .inr (0, [.ref qt, .ref qn, .int (iI z)])), (qt, eI t.1 400 u19T), (qn, eI t.1 4800 u19N), (qw, eI t.1 20 WK)]) [0, 3, 4, 5, 6, 1, 7, 2] (by decide) rfl
                      exact retv (-1, z, u19T, u19N, u20L, u20H, WK) _ _ 192 _ _ d_X_place_192 ⟨rfl, Or.inr ⟨okk, eW2, eu19T, eu19N, Or.inr ⟨h164, eu20L, eu20H, Or.inl ⟨by rw [← eu20L, ← eu20H]; exact h188, rfl, rfl⟩⟩⟩⟩ hP9 hD9 hS
                  · refine z_iconst hC d_X_place_167 ?_
                    have hP9 := hP.sub (ws' := [(x, .inr (4, [.ref qs, .ref qr, .ref qw, .ref qg, .ref qu, .ref qp, sp, .int (iI lv)])), (qs, .inr (2, [.ref ql, .ref qh])), (ql, eL t.2.1 2000 Lo), (qh, eL t.2.1 2000 Hi), (qp, .inr (0, [.ref qt, .ref qn, .int (iI z)])), (qt, eI t.1 400 u19T), (qn, eI t.1 4800 u19N), (qw, eI t.1 20 WK)]) [0, 1, 2, 3, 4, 5, 6, 7] rfl
                    have hD9 := hD.sub (ws' := [(x, .inr (4, [.ref qs, .ref qr, .ref qw, .ref qg, .ref qu, .ref qp, sp, .int (iI lv)])), (qs, .inr (2, [.ref ql, .ref qh])), (ql, eL t.2.1 2000 Lo), (qh, eL t.2.1 2000 Hi), (qp, .inr (0, [.ref qt, .ref qn, .int (iI z)])), (qt, eI t.1 400 u19T), (qn, eI t.1 4800 u19N), (qw, eI t.1 20 WK)]) [0, 1, 2, 3, 4, 5, 6, 7] (by decide) rfl
                    exact retv (-1, z, u19T, u19N, Lo, Hi, WK) _ _ 168 _ _ d_X_place_168 ⟨rfl, Or.inr ⟨okk, eW2, eu19T, eu19N, Or.inl ⟨h164, rfl, rfl, rfl, rfl⟩⟩⟩ hP9 hD9 hS
            · refine z_iconst hC d_X_place_48 ?_
              have hP9 := hP.sub (ws' := [(x, .inr (4, [.ref qs, .ref qr, .ref qw, .ref qg, .ref qu, .ref qp, sp, .int (iI lv)])), (qs, .inr (2, [.ref ql, .ref qh])), (ql, eL t.2.1 2000 Lo), (qh, eL t.2.1 2000 Hi), (qp, .inr (0, [.ref qt, .ref qn, .int (iI z)])), (qt, eI t.1 400 T), (qn, eI t.1 4800 F), (qw, eI t.1 20 Wk)]) [0, 1, 2, 3, 4, 5, 6, 7] rfl
              have hD9 := hD.sub (ws' := [(x, .inr (4, [.ref qs, .ref qr, .ref qw, .ref qg, .ref qu, .ref qp, sp, .int (iI lv)])), (qs, .inr (2, [.ref ql, .ref qh])), (ql, eL t.2.1 2000 Lo), (qh, eL t.2.1 2000 Hi), (qp, .inr (0, [.ref qt, .ref qn, .int (iI z)])), (qt, eI t.1 400 T), (qn, eI t.1 4800 F), (qw, eI t.1 20 Wk)]) [0, 1, 2, 3, 4, 5, 6, 7] (by decide) rfl
              exact retv (-1, z, T, F, Lo, Hi, Wk) _ _ 49 _ _ d_X_place_49 ⟨rfl, Or.inl ⟨by unfold plOk; rw [h45]; simp, rfl, rfl, rfl, rfl, rfl, rfl, rfl⟩⟩ hP9 hD9 hS
          · refine z_iconst hC d_X_place_34 ?_
            have hP9 := hP.sub (ws' := [(x, .inr (4, [.ref qs, .ref qr, .ref qw, .ref qg, .ref qu, .ref qp, sp, .int (iI lv)])), (qs, .inr (2, [.ref ql, .ref qh])), (ql, eL t.2.1 2000 Lo), (qh, eL t.2.1 2000 Hi), (qp, .inr (0, [.ref qt, .ref qn, .int (iI z)])), (qt, eI t.1 400 T), (qn, eI t.1 4800 F), (qw, eI t.1 20 Wk)]) [0, 1, 2, 3, 4, 5, 6, 7] rfl
            have hD9 := hD.sub (ws' := [(x, .inr (4, [.ref qs, .ref qr, .ref qw, .ref qg, .ref qu, .ref qp, sp, .int (iI lv)])), (qs, .inr (2, [.ref ql, .ref qh])), (ql, eL t.2.1 2000 Lo), (qh, eL t.2.1 2000 Hi), (qp, .inr (0, [.ref qt, .ref qn, .int (iI z)])), (qt, eI t.1 400 T), (qn, eI t.1 4800 F), (qw, eI t.1 20 Wk)]) [0, 1, 2, 3, 4, 5, 6, 7] (by decide) rfl
            exact retv (-1, z, T, F, Lo, Hi, Wk) _ _ 35 _ _ d_X_place_35 ⟨rfl, Or.inl ⟨by unfold plOk; simp; intros; omega, rfl, rfl, rfl, rfl, rfl, rfl, rfl⟩⟩ hP9 hD9 hS
