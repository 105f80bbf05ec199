theorem ye_X_starClashes : ye y_X_starClashes R_X 2 := by unfold ye; decide +kernel
abbrev rm_X_starClashes : Room := { frames := 5, cells := 0, slots := 0, locals := 134 }
set_option maxHeartbeats 4000000 in
set_option maxRecDepth 100000 in
theorem c_X_starClashes (l : Launch) (D : va_G) (t : vt) (ts : Nat → Nat) (x qs qr qw qg qu qp ql qh qt qn : Nat) (sp : Value) (lv z : Int) (Lo Hi T F : Int → Int) (hz : 0 ≤ z ∧ z ≤ 400) (hLo : bL Lo) (hHi : bL Hi) (hT : bT T) (hF : bF F) (n c : Int) (hn : 0 ≤ n ∧ n < 400) (hc : 0 ≤ c ∧ c ≤ 2) : Met l y_X_starClashes (.code y_X_starClashes b_X_starClashes 5 (some .boolean) :: tb_ws) rm_X_starClashes (RoP D t ts [.ref x, .int (iI n), .int (iI c)] [(x, .inr (4, [.ref qs, .ref qr, .ref qw, .ref qg, .ref qu, .ref qp, sp, .int (iI lv)])), (qs, .inr (2, [.ref ql, .ref qh])), (ql, eL t.2.1 2000 Lo), (qh, eL t.2.1 2000 Hi), (qp, .inr (0, [.ref qt, .ref qn, .int (iI z)])), (qt, eI t.1 400 T), (qn, eI t.1 4800 F)]) (vp_Si (fun zr => zr = iI (zB (stcZ Lo Hi T F z n c)))) 0 0 (fun _ => False) := by
  refine ro_z (by decide +kernel) (Nat.le_of_ble_eq_true rfl) ?_
  intro zp ze zs zm zb zt zc zQ ls hC hP hK hE hl ret
  have hS : va_S (fun _ => False) zs.heap zs.heap [] := va_S.rf
  have hl : lv_has ls 5 [(0, .ref x), (1, .int (iI n)), (2, .int (iI c))] := hl
  have ret1 : ∀ (pc : Nat) (ls : Array Slot), decode b_X_starClashes pc = .ok (.ireturn, 1) → (stcZ Lo Hi T F z n c) = true → W zp l ze rm_X_starClashes zs zm [.ref x, .int (iI n), .int (iI c)].toArray zb zt zc zs.heap [] 0 0 zQ (F0 zm pc ls [.int (iI 1)]) := fun pc ls d h => by have r := ret pc ls d; rw [h] at r; exact r
  have ret0 : ∀ (pc : Nat) (ls : Array Slot), decode b_X_starClashes pc = .ok (.ireturn, 1) → (stcZ Lo Hi T F z n c) = false → W zp l ze rm_X_starClashes zs zm [.ref x, .int (iI n), .int (iI c)].toArray zb zt zc zs.heap [] 0 0 zQ (F0 zm pc ls [.int (iI 0)]) := fun pc ls d h => by have r := ret pc ls d; rw [h] at r; exact r
  have retb : ∀ (pc : Nat) (ls : Array Slot), decode b_X_starClashes pc = .ok (.ireturn, 1) → ∀ zv : Bool, zv = (stcZ Lo Hi T F z n c) → W zp l ze rm_X_starClashes zs zm [.ref x, .int (iI n), .int (iI c)].toArray zb zt zc zs.heap [] 0 0 zQ (F0 zm pc ls [.int (iI (zB zv))]) := fun pc ls d b h => by rw [h]; exact ret pc ls d
  refine z_iconst hC d_X_starClashes_0 ?_
  refine lv_istore_n (lv' := [(3, .int (iI 1)), (0, .ref x), (1, .int (iI n)), (2, .int (iI c))]) hC.1 hC.2.1 d_X_starClashes_1 rfl hl (by decide) rfl (fun ls hl => ?_)
  have L2 : ∀ (fu : Nat) (k : Int) (ls : Array Slot), 401 - k ≤ (fu : Int) → (1 ≤ k ∧ (k ≤ z ∨ k = 1)) → (∀ j, 0 ≤ j → j < k → (decide (1 ≤ j) && (decide (¬ cAt F j n c = -1) && cisZ Lo Hi T F j n c)) = false) → lv_has ls 5 [(3, .int (iI k)), (0, .ref x), (1, .int (iI n)), (2, .int (iI c))] → W zp l ze rm_X_starClashes zs zm [.ref x, .int (iI n), .int (iI c)].toArray zb zt zc zs.heap [] 0 0 zQ (F0 zm 2 ls []) := by
    intro fu
    induction fu with
    | zero =>
      intro k ls hm2 hk hi hl
      exact absurd hm2 (by omega)
    | succ fu ih2 =>
      intro k ls hm2 hk hi hl
      refine lv_iload_n hC.1 hC.2.1 d_X_starClashes_2 rfl (lv_at hl 0 rfl) ?_
      refine lv_aload_n hC.1 hC.2.1 d_X_starClashes_3 rfl (lv_at hl 1 rfl) ?_
      refine z_get (ci := 4) (C := R_X) (T := F_X) (N := 8) (v := .ref qp) hC in_X hK hP 0 rfl rfl 5 (by decide) k_103 rfl d_X_starClashes_4 ?_
      refine z_getN (ci := 0) (C := R_Ha) (T := F_Ha) (N := 3) (v := .int (iI z)) hC in_Ha hK hP 4 rfl rfl 2 (by decide) hE.1.2.2.2.2.1 rfl d_X_starClashes_7 ?_
      refine z_icmp_ge (tgt := 78) hC d_X_starClashes_10 (by decide) (by omega) (by omega) (fun h10 => ?_) (fun h10 => ?_)
      · refine z_iconst hC d_X_starClashes_78 ?_
        exact ret0 79 _ d_X_starClashes_79 (anyZ_f.mpr (fun j h1 h2 => hi j h1 (by omega)))
      · refine lv_aload_n hC.1 hC.2.1 d_X_starClashes_13 rfl (lv_at hl 1 rfl) ?_
        refine z_get (ci := 4) (C := R_X) (T := F_X) (N := 8) (v := .ref qp) hC in_X hK hP 0 rfl rfl 5 (by decide) k_103 rfl d_X_starClashes_14 ?_
        refine lv_iload_n hC.1 hC.2.1 d_X_starClashes_17 rfl (lv_at hl 0 rfl) ?_
        refine lv_iload_n hC.1 hC.2.1 d_X_starClashes_18 rfl (lv_at hl 2 rfl) ?_
        refine lv_iload_n hC.1 hC.2.1 d_X_starClashes_19 rfl (lv_at hl 3 rfl) ?_
        refine z_roVi (As := [.int (iI k), .int (iI n), .int (iI c)]) (rest := []) hC (c_Ha_cornerAt l D t ts qp qt qn z F k n c (by omega) (by omega) (by omega) hF) (cw_V hC k_329 k_330 k_331 k_5 k_332 ye_Ha_cornerAt (by decide)) hP hK hE hS [4, 6] rfl 4 (ci := 0) rfl rfl rfl rfl hl.1 rfl (Nat.le_of_ble_eq_true rfl) ⟨Nat.le_of_ble_eq_true rfl, Nat.le_of_ble_eq_true rfl⟩ d_X_starClashes_20 ?_
        refine z_iconst hC d_X_starClashes_23 ?_
        refine z_icmp_ne (tgt := 30) hC d_X_starClashes_24 (by decide) (by have := cAt_in F k n c; omega) (by decide) (fun h24 => ?_) (fun h24 => ?_)
        · refine z_iconst hC d_X_starClashes_30 ?_
          refine lv_istore (lv' := [(4, .int (iI 0)), (3, .int (iI k)), (0, .ref x), (1, .int (iI n)), (2, .int (iI c))]) hC.1 hC.2.1 d_X_starClashes_31 hl (by decide) rfl (fun ls hl => ?_)
          have L33 : ∀ (fu : Nat) (e : Int) (ls : Array Slot), k - e + 1 ≤ (fu : Int) → (0 ≤ e ∧ e ≤ k) → (∀ j, 0 ≤ j → j < e → (decide (¬ cAt F j n c = -1) && clZ Lo Hi T F j k) = false) → lv_has ls 5 [(4, .int (iI e)), (3, .int (iI k)), (0, .ref x), (1, .int (iI n)), (2, .int (iI c))] → W zp l ze rm_X_starClashes zs zm [.ref x, .int (iI n), .int (iI c)].toArray zb zt zc zs.heap [] 0 0 zQ (F0 zm 33 ls []) := by
            intro fu
            induction fu with
            | zero =>
              intro e ls hm33 hk2 hi2 hl
              exact absurd hm33 (by omega)
            | succ fu ih33 =>
              intro e ls hm33 hk2 hi2 hl
              refine lv_iload hC.1 hC.2.1 d_X_starClashes_33 (lv_at hl 0 rfl) ?_
              refine lv_iload_n hC.1 hC.2.1 d_X_starClashes_35 rfl (lv_at hl 1 rfl) ?_
              refine z_icmp_ge (tgt := 72) hC d_X_starClashes_36 (by decide) (by omega) (by omega) (fun h36 => ?_) (fun h36 => ?_)
              · refine lv_iinc (v := iI (k + 1)) (lv' := [(3, .int (iI (k + 1))), (4, .int (iI e)), (0, .ref x), (1, .int (iI n)), (2, .int (iI c))]) hC.1 hC.2.1 d_X_starClashes_72 hl (k := 1) rfl (z_inc (by omega)) (by decide) rfl (fun ls hl => ?_)
                refine z_goto (tgt := 2) hC d_X_starClashes_75 (by decide) ?_
                exact ih2 (k + 1) _ (by omega) (by omega) (stepF hi (by simp [show cisZ Lo Hi T F k n c = false from anyZ_f.mpr (fun j h1 h2 => hi2 j h1 (by omega))])) (lv_sub hl [0, 2, 3, 4] rfl)
              · refine lv_aload_n hC.1 hC.2.1 d_X_starClashes_39 rfl (lv_at hl 2 rfl) ?_
                refine z_get (ci := 4) (C := R_X) (T := F_X) (N := 8) (v := .ref qp) hC in_X hK hP 0 rfl rfl 5 (by decide) k_103 rfl d_X_starClashes_40 ?_
                refine lv_iload hC.1 hC.2.1 d_X_starClashes_43 (lv_at hl 0 rfl) ?_
                refine lv_iload_n hC.1 hC.2.1 d_X_starClashes_45 rfl (lv_at hl 3 rfl) ?_
                refine lv_iload_n hC.1 hC.2.1 d_X_starClashes_46 rfl (lv_at hl 4 rfl) ?_
                refine z_roVi (As := [.int (iI e), .int (iI n), .int (iI c)]) (rest := []) hC (c_Ha_cornerAt l D t ts qp qt qn z F e n c (by omega) (by omega) (by omega) hF) (cw_V hC k_329 k_330 k_331 k_5 k_332 ye_Ha_cornerAt (by decide)) hP hK hE hS [4, 6] rfl 4 (ci := 0) rfl rfl rfl rfl hl.1 rfl (Nat.le_of_ble_eq_true rfl) ⟨Nat.le_of_ble_eq_true rfl, Nat.le_of_ble_eq_true rfl⟩ d_X_starClashes_47 ?_
                refine z_iconst hC d_X_starClashes_50 ?_
                refine z_icmp_eq (tgt := 66) hC d_X_starClashes_51 (by decide) (by have := cAt_in F e n c; omega) (by decide) (fun h51 => ?_) (fun h51 => ?_)
                · refine lv_iinc (v := iI (e + 1)) (lv' := [(4, .int (iI (e + 1))), (3, .int (iI k)), (0, .ref x), (1, .int (iI n)), (2, .int (iI c))]) hC.1 hC.2.1 d_X_starClashes_66 hl (k := 0) rfl (z_inc (by omega)) (by decide) rfl (fun ls hl => ?_)
                  refine z_goto (tgt := 33) hC d_X_starClashes_69 (by decide) ?_
                  exact ih33 (e + 1) _ (by omega) (by omega) (stepF hi2 (by simp [h51])) (lv_sub hl [0, 1, 2, 3, 4] rfl)
                · refine lv_aload_n hC.1 hC.2.1 d_X_starClashes_54 rfl (lv_at hl 2 rfl) ?_
                  refine lv_iload hC.1 hC.2.1 d_X_starClashes_55 (lv_at hl 0 rfl) ?_
                  refine lv_iload_n hC.1 hC.2.1 d_X_starClashes_57 rfl (lv_at hl 1 rfl) ?_
                  refine z_roVi (As := [.int (iI e), .int (iI k)]) (rest := []) hC (c_X_clashing l D t ts x qs qr qw qg qu qp ql qh qt qn sp lv z Lo Hi T F (by omega) hLo hHi hT hF e k (by omega) (by omega)) (cw_V hC k_197 k_199 kp_2 k_1 k_200 ye_X_clashing (by decide)) hP hK hE hS [0, 1, 2, 3, 4, 5, 6] rfl 0 (ci := 4) rfl rfl rfl rfl hl.1 rfl (Nat.le_of_ble_eq_true rfl) ⟨Nat.le_of_ble_eq_true rfl, Nat.le_of_ble_eq_true rfl⟩ d_X_starClashes_58 ?_
                  refine z_if_eqB (tgt := 66) hC d_X_starClashes_61 (by decide) (fun h61 => ?_) (fun h61 => ?_)
                  · refine lv_iinc (v := iI (e + 1)) (lv' := [(4, .int (iI (e + 1))), (3, .int (iI k)), (0, .ref x), (1, .int (iI n)), (2, .int (iI c))]) hC.1 hC.2.1 d_X_starClashes_66 hl (k := 0) rfl (z_inc (by omega)) (by decide) rfl (fun ls hl => ?_)
                    refine z_goto (tgt := 33) hC d_X_starClashes_69 (by decide) ?_
                    exact ih33 (e + 1) _ (by omega) (by omega) (stepF hi2 (by simp [h61])) (lv_sub hl [0, 1, 2, 3, 4] rfl)
                  · refine z_iconst hC d_X_starClashes_64 ?_
                    exact ret1 65 _ d_X_starClashes_65 (anyZ_t (k := k) (by omega) (by omega) (by simp [h24, show cisZ Lo Hi T F k n c = true from anyZ_t (k := e) (by omega) (by omega) (by simp [h51, h61])]; omega))
          exact L33 (k - 0 + 1 : Int).toNat 0 _ (by omega) (by omega) (by intro j _ _; omega) (lv_sub hl [0, 1, 2, 3, 4] rfl)
        · refine z_goto (tgt := 72) hC d_X_starClashes_27 (by decide) ?_
          refine lv_iinc (v := iI (k + 1)) (lv' := [(3, .int (iI (k + 1))), (0, .ref x), (1, .int (iI n)), (2, .int (iI c))]) hC.1 hC.2.1 d_X_starClashes_72 hl (k := 0) rfl (z_inc (by omega)) (by decide) rfl (fun ls hl => ?_)
          refine z_goto (tgt := 2) hC d_X_starClashes_75 (by decide) ?_
          exact ih2 (k + 1) _ (by omega) (by omega) (stepF hi (by simp [h24])) (lv_sub hl [0, 1, 2, 3] rfl)
  exact L2 (401 - 1 : Int).toNat 1 _ (by omega) (by omega) (by intro j h1 h2; simp; omega) (lv_sub hl [0, 1, 2, 3] rfl)
theorem ye_X_findAtLegB : ye y_X_findAtLegB R_X 1 := by unfold ye; decide +kernel
abbrev rm_X_findAtLegB : Room := { frames := 2, cells := 0, slots := 0, locals := 46 }
set_option maxHeartbeats 4000000 in
set_option maxRecDepth 100000 in
theorem c_X_findAtLegB (l : Launch) (D : va_G) (t : vt) (ts : Nat → Nat) (x qs qr qw qg qu qp ql qh qt qn : Nat) (sp : Value) (lv z : Int) (Lo Hi T F : Int → Int) (hz : 0 ≤ z ∧ z ≤ 400) (hLo : bL Lo) (hHi : bL Hi) (hT : bT T) (hF : bF F) (y : Int) (hy : 0 ≤ y ∧ y < 400) : Met l y_X_findAtLegB (.code y_X_findAtLegB b_X_findAtLegB 3 (some .int) :: tb_ws) rm_X_findAtLegB (RoP D t ts [.ref x, .int (iI y)] [(x, .inr (4, [.ref qs, .ref qr, .ref qw, .ref qg, .ref qu, .ref qp, sp, .int (iI lv)])), (qs, .inr (2, [.ref ql, .ref qh])), (ql, eL t.2.1 2000 Lo), (qh, eL t.2.1 2000 Hi), (qp, .inr (0, [.ref qt, .ref qn, .int (iI z)])), (qt, eI t.1 400 T), (qn, eI t.1 4800 F)]) (vp_Si (fun zr => zr = iI (flbZ T F z y))) 0 0 (fun _ => False) := by
  refine ro_i (by decide +kernel) (Nat.le_of_ble_eq_true rfl) ?_
  intro zp ze zs zm zb zt zc zQ ls hC hP hK hE hl ret
  have hS : va_S (fun _ => False) zs.heap zs.heap [] := va_S.rf
  have hl : lv_has ls 3 [(0, .ref x), (1, .int (iI y))] := hl
  have retv : ∀ (pc : Nat) (ls : Array Slot) (zv : Int), decode b_X_findAtLegB pc = .ok (.ireturn, 1) → zv = (flbZ T F z y) → W zp l ze rm_X_findAtLegB zs zm [.ref x, .int (iI y)].toArray zb zt zc zs.heap [] 0 0 zQ (F0 zm pc ls [.int (iI zv)]) := fun pc ls v d h => by rw [h]; exact ret pc ls d
  refine z_iconst hC d_X_findAtLegB_0 ?_
  refine lv_istore_n (lv' := [(2, .int (iI 0)), (0, .ref x), (1, .int (iI y))]) hC.1 hC.2.1 d_X_findAtLegB_1 rfl hl (by decide) rfl (fun ls hl => ?_)
  have L2 : ∀ (fu : Nat) (k : Int) (ls : Array Slot), z - k + 1 ≤ (fu : Int) → (0 ≤ k ∧ k ≤ z) → (∀ j, 0 ≤ j → j < k → (decide (T j = 1) && (pS F (12 * j) (12 * y + 4) && pS F (12 * j + 4) (12 * y))) = false) → lv_has ls 3 [(2, .int (iI k)), (0, .ref x), (1, .int (iI y))] → W zp l ze rm_X_findAtLegB zs zm [.ref x, .int (iI y)].toArray zb zt zc zs.heap [] 0 0 zQ (F0 zm 2 ls []) := by
    intro fu
    induction fu with
    | zero =>
      intro k ls hm2 hk hi hl
      exact absurd hm2 (by omega)
    | succ fu ih2 =>
      intro k ls hm2 hk hi hl
      refine lv_iload_n hC.1 hC.2.1 d_X_findAtLegB_2 rfl (lv_at hl 0 rfl) ?_
      refine lv_aload_n hC.1 hC.2.1 d_X_findAtLegB_3 rfl (lv_at hl 1 rfl) ?_
      refine z_get (ci := 4) (C := R_X) (T := F_X) (N := 8) (v := .ref qp) hC in_X hK hP 0 rfl rfl 5 (by decide) k_103 rfl d_X_findAtLegB_4 ?_
      refine z_getN (ci := 0) (C := R_Ha) (T := F_Ha) (N := 3) (v := .int (iI z)) hC in_Ha hK hP 4 rfl rfl 2 (by decide) hE.1.2.2.2.2.1 rfl d_X_findAtLegB_7 ?_
      refine z_icmp_ge (tgt := 62) hC d_X_findAtLegB_10 (by decide) (by omega) (by omega) (fun h10 => ?_) (fun h10 => ?_)
      · refine z_iconst hC d_X_findAtLegB_62 ?_
        exact retv 63 _ _ d_X_findAtLegB_63 (fstZ_none (fun j h1 h2 => hi j h1 (by omega))).symm
      · refine lv_aload_n hC.1 hC.2.1 d_X_findAtLegB_13 rfl (lv_at hl 1 rfl) ?_
        refine z_get (ci := 4) (C := R_X) (T := F_X) (N := 8) (v := .ref qp) hC in_X hK hP 0 rfl rfl 5 (by decide) k_103 rfl d_X_findAtLegB_14 ?_
        refine z_getN (ci := 0) (C := R_Ha) (T := F_Ha) (N := 3) (v := .ref qt) hC in_Ha hK hP 4 rfl rfl 0 (by decide) hE.1.1 rfl d_X_findAtLegB_17 ?_
        refine lv_iload_n hC.1 hC.2.1 d_X_findAtLegB_20 rfl (lv_at hl 0 rfl) ?_
        refine z_iald hC hK hP 5 rfl (by omega) d_X_findAtLegB_21 ?_
        refine z_iconst hC d_X_findAtLegB_22 ?_
        refine z_icmp_ne (tgt := 56) hC d_X_findAtLegB_23 (by decide) (by have := hT k; omega) (by decide) (fun h23 => ?_) (fun h23 => ?_)
        · refine lv_iinc (v := iI (k + 1)) (lv' := [(2, .int (iI (k + 1))), (0, .ref x), (1, .int (iI y))]) hC.1 hC.2.1 d_X_findAtLegB_56 hl (k := 0) rfl (z_inc (by omega)) (by decide) rfl (fun ls hl => ?_)
          refine z_goto (tgt := 2) hC d_X_findAtLegB_59 (by decide) ?_
          exact ih2 (k + 1) _ (by omega) (by omega) (stepF hi (by simp [h23])) (lv_sub hl [0, 1, 2] rfl)
        · refine lv_aload_n hC.1 hC.2.1 d_X_findAtLegB_26 rfl (lv_at hl 1 rfl) ?_
          refine z_get (ci := 4) (C := R_X) (T := F_X) (N := 8) (v := .ref qp) hC in_X hK hP 0 rfl rfl 5 (by decide) k_103 rfl d_X_findAtLegB_27 ?_
          refine lv_iload_n hC.1 hC.2.1 d_X_findAtLegB_30 rfl (lv_at hl 0 rfl) ?_
          refine z_iconst hC d_X_findAtLegB_31 ?_
          refine lv_iload_n hC.1 hC.2.1 d_X_findAtLegB_32 rfl (lv_at hl 2 rfl) ?_
          refine z_iconst hC d_X_findAtLegB_33 ?_
          refine z_roVi (As := [.int (iI k), .int (iI 0), .int (iI y), .int (iI 1)]) (rest := []) hC (c_Ha_samePoint l D t ts qp qt qn z F k 0 y 1 (12 * k) (12 * y + 4) (by omega) (by omega) (by omega) (by omega) (by omega) (by omega) hF) (cw_V hC k_291 k_292 k_293 k_5 k_294 ye_Ha_samePoint (by decide)) hP hK hE hS [4, 6] rfl 4 (ci := 0) rfl rfl rfl rfl hl.1 rfl (Nat.le_of_ble_eq_true rfl) ⟨Nat.le_of_ble_eq_true rfl, Nat.le_of_ble_eq_true rfl⟩ d_X_findAtLegB_34 ?_
          refine z_if_eqB (tgt := 56) hC d_X_findAtLegB_37 (by decide) (fun h37 => ?_) (fun h37 => ?_)
          · refine lv_iinc (v := iI (k + 1)) (lv' := [(2, .int (iI (k + 1))), (0, .ref x), (1, .int (iI y))]) hC.1 hC.2.1 d_X_findAtLegB_56 hl (k := 0) rfl (z_inc (by omega)) (by decide) rfl (fun ls hl => ?_)
            refine z_goto (tgt := 2) hC d_X_findAtLegB_59 (by decide) ?_
            exact ih2 (k + 1) _ (by omega) (by omega) (stepF hi (by simp [h37])) (lv_sub hl [0, 1, 2] rfl)
          · refine lv_aload_n hC.1 hC.2.1 d_X_findAtLegB_40 rfl (lv_at hl 1 rfl) ?_
            refine z_get (ci := 4) (C := R_X) (T := F_X) (N := 8) (v := .ref qp) hC in_X hK hP 0 rfl rfl 5 (by decide) k_103 rfl d_X_findAtLegB_41 ?_
            refine lv_iload_n hC.1 hC.2.1 d_X_findAtLegB_44 rfl (lv_at hl 0 rfl) ?_
            refine z_iconst hC d_X_findAtLegB_45 ?_
            refine lv_iload_n hC.1 hC.2.1 d_X_findAtLegB_46 rfl (lv_at hl 2 rfl) ?_
            refine z_iconst hC d_X_findAtLegB_47 ?_
            refine z_roVi (As := [.int (iI k), .int (iI 1), .int (iI y), .int (iI 0)]) (rest := []) hC (c_Ha_samePoint l D t ts qp qt qn z F k 1 y 0 (12 * k + 4) (12 * y) (by omega) (by omega) (by omega) (by omega) (by omega) (by omega) hF) (cw_V hC k_291 k_292 k_293 k_5 k_294 ye_Ha_samePoint (by decide)) hP hK hE hS [4, 6] rfl 4 (ci := 0) rfl rfl rfl rfl hl.1 rfl (Nat.le_of_ble_eq_true rfl) ⟨Nat.le_of_ble_eq_true rfl, Nat.le_of_ble_eq_true rfl⟩ d_X_findAtLegB_48 ?_
            refine z_if_eqB (tgt := 56) hC d_X_findAtLegB_51 (by decide) (fun h51 => ?_) (fun h51 => ?_)
            · refine lv_iinc (v := iI (k + 1)) (lv' := [(2, .int (iI (k + 1))), (0, .ref x), (1, .int (iI y))]) hC.1 hC.2.1 d_X_findAtLegB_56 hl (k := 0) rfl (z_inc (by omega)) (by decide) rfl (fun ls hl => ?_)
              refine z_goto (tgt := 2) hC d_X_findAtLegB_59 (by decide) ?_
              exact ih2 (k + 1) _ (by omega) (by omega) (stepF hi (by simp [h51])) (lv_sub hl [0, 1, 2] rfl)
            · refine lv_iload_n hC.1 hC.2.1 d_X_findAtLegB_54 rfl (lv_at hl 0 rfl) ?_
              exact retv 55 _ _ d_X_findAtLegB_55 (fstZ_at (k := k) (by omega) (by omega) hi (by simp [h23, h37, h51])).symm
  exact L2 (z - 0 + 1 : Int).toNat 0 _ (by omega) (by omega) (by intro j _ _; omega) (lv_sub hl [0, 1, 2] rfl)
theorem ye_X_findAtLegC : ye y_X_findAtLegC R_X 1 := by unfold ye; decide +kernel
abbrev rm_X_findAtLegC : Room := { frames := 2, cells := 0, slots := 0, locals := 46 }
set_option maxHeartbeats 4000000 in
set_option maxRecDepth 100000 in
theorem c_X_findAtLegC (l : Launch) (D : va_G) (t : vt) (ts : Nat → Nat) (x qs qr qw qg qu qp ql qh qt qn : Nat) (sp : Value) (lv z : Int) (Lo Hi T F : Int → Int) (hz : 0 ≤ z ∧ z ≤ 400) (hLo : bL Lo) (hHi : bL Hi) (hT : bT T) (hF : bF F) (y : Int) (hy : 0 ≤ y ∧ y < 400) : Met l y_X_findAtLegC (.code y_X_findAtLegC b_X_findAtLegC 3 (some .int) :: tb_ws) rm_X_findAtLegC (RoP D t ts [.ref x, .int (iI y)] [(x, .inr (4, [.ref qs, .ref qr, .ref qw, .ref qg, .ref qu, .ref qp, sp, .int (iI lv)])), (qs, .inr (2, [.ref ql, .ref qh])), (ql, eL t.2.1 2000 Lo), (qh, eL t.2.1 2000 Hi), (qp, .inr (0, [.ref qt, .ref qn, .int (iI z)])), (qt, eI t.1 400 T), (qn, eI t.1 4800 F)]) (vp_Si (fun zr => zr = iI (flcZ F z y))) 0 0 (fun _ => False) := by
  refine ro_i (by decide +kernel) (Nat.le_of_ble_eq_true rfl) ?_
  intro zp ze zs zm zb zt zc zQ ls hC hP hK hE hl ret
  have hS : va_S (fun _ => False) zs.heap zs.heap [] := va_S.rf
  have hl : lv_has ls 3 [(0, .ref x), (1, .int (iI y))] := hl
  have retv : ∀ (pc : Nat) (ls : Array Slot) (zv : Int), decode b_X_findAtLegC pc = .ok (.ireturn, 1) → zv = (flcZ F z y) → W zp l ze rm_X_findAtLegC zs zm [.ref x, .int (iI y)].toArray zb zt zc zs.heap [] 0 0 zQ (F0 zm pc ls [.int (iI zv)]) := fun pc ls v d h => by rw [h]; exact ret pc ls d
  refine z_iconst hC d_X_findAtLegC_0 ?_
  refine lv_istore_n (lv' := [(2, .int (iI 0)), (0, .ref x), (1, .int (iI y))]) hC.1 hC.2.1 d_X_findAtLegC_1 rfl hl (by decide) rfl (fun ls hl => ?_)
  have L2 : ∀ (fu : Nat) (k : Int) (ls : Array Slot), z - k + 1 ≤ (fu : Int) → (0 ≤ k ∧ k ≤ z) → (∀ j, 0 ≤ j → j < k → (decide (¬ j = y) && (pS F (12 * j) (12 * y) && pS F (12 * j + 8) (12 * y + 8))) = false) → lv_has ls 3 [(2, .int (iI k)), (0, .ref x), (1, .int (iI y))] → W zp l ze rm_X_findAtLegC zs zm [.ref x, .int (iI y)].toArray zb zt zc zs.heap [] 0 0 zQ (F0 zm 2 ls []) := by
    intro fu
    induction fu with
    | zero =>
      intro k ls hm2 hk hi hl
      exact absurd hm2 (by omega)
    | succ fu ih2 =>
      intro k ls hm2 hk hi hl
      refine lv_iload_n hC.1 hC.2.1 d_X_findAtLegC_2 rfl (lv_at hl 0 rfl) ?_
      refine lv_aload_n hC.1 hC.2.1 d_X_findAtLegC_3 rfl (lv_at hl 1 rfl) ?_
      refine z_get (ci := 4) (C := R_X) (T := F_X) (N := 8) (v := .ref qp) hC in_X hK hP 0 rfl rfl 5 (by decide) k_103 rfl d_X_findAtLegC_4 ?_
      refine z_getN (ci := 0) (C := R_Ha) (T := F_Ha) (N := 3) (v := .int (iI z)) hC in_Ha hK hP 4 rfl rfl 2 (by decide) hE.1.2.2.2.2.1 rfl d_X_findAtLegC_7 ?_
      refine z_icmp_ge (tgt := 54) hC d_X_findAtLegC_10 (by decide) (by omega) (by omega) (fun h10 => ?_) (fun h10 => ?_)
      · refine z_iconst hC d_X_findAtLegC_54 ?_
        exact retv 55 _ _ d_X_findAtLegC_55 (fstZ_none (fun j h1 h2 => hi j h1 (by omega))).symm
      · refine lv_iload_n hC.1 hC.2.1 d_X_findAtLegC_13 rfl (lv_at hl 0 rfl) ?_
        refine lv_iload_n hC.1 hC.2.1 d_X_findAtLegC_14 rfl (lv_at hl 2 rfl) ?_
        refine z_icmp_eq (tgt := 48) hC d_X_findAtLegC_15 (by decide) (by omega) (by omega) (fun h15 => ?_) (fun h15 => ?_)
        · refine lv_iinc (v := iI (k + 1)) (lv' := [(2, .int (iI (k + 1))), (0, .ref x), (1, .int (iI y))]) hC.1 hC.2.1 d_X_findAtLegC_48 hl (k := 0) rfl (z_inc (by omega)) (by decide) rfl (fun ls hl => ?_)
          refine z_goto (tgt := 2) hC d_X_findAtLegC_51 (by decide) ?_
          exact ih2 (k + 1) _ (by omega) (by omega) (stepF hi (by simp [h15])) (lv_sub hl [0, 1, 2] rfl)
        · refine lv_aload_n hC.1 hC.2.1 d_X_findAtLegC_18 rfl (lv_at hl 1 rfl) ?_
          refine z_get (ci := 4) (C := R_X) (T := F_X) (N := 8) (v := .ref qp) hC in_X hK hP 0 rfl rfl 5 (by decide) k_103 rfl d_X_findAtLegC_19 ?_
          refine lv_iload_n hC.1 hC.2.1 d_X_findAtLegC_22 rfl (lv_at hl 0 rfl) ?_
          refine z_iconst hC d_X_findAtLegC_23 ?_
          refine lv_iload_n hC.1 hC.2.1 d_X_findAtLegC_24 rfl (lv_at hl 2 rfl) ?_
          refine z_iconst hC d_X_findAtLegC_25 ?_
          refine z_roVi (As := [.int (iI k), .int (iI 0), .int (iI y), .int (iI 0)]) (rest := []) hC (c_Ha_samePoint l D t ts qp qt qn z F k 0 y 0 (12 * k) (12 * y) (by omega) (by omega) (by omega) (by omega) (by omega) (by omega) hF) (cw_V hC k_291 k_292 k_293 k_5 k_294 ye_Ha_samePoint (by decide)) hP hK hE hS [4, 6] rfl 4 (ci := 0) rfl rfl rfl rfl hl.1 rfl (Nat.le_of_ble_eq_true rfl) ⟨Nat.le_of_ble_eq_true rfl, Nat.le_of_ble_eq_true rfl⟩ d_X_findAtLegC_26 ?_
          refine z_if_eqB (tgt := 48) hC d_X_findAtLegC_29 (by decide) (fun h29 => ?_) (fun h29 => ?_)
          · refine lv_iinc (v := iI (k + 1)) (lv' := [(2, .int (iI (k + 1))), (0, .ref x), (1, .int (iI y))]) hC.1 hC.2.1 d_X_findAtLegC_48 hl (k := 0) rfl (z_inc (by omega)) (by decide) rfl (fun ls hl => ?_)
            refine z_goto (tgt := 2) hC d_X_findAtLegC_51 (by decide) ?_
            exact ih2 (k + 1) _ (by omega) (by omega) (stepF hi (by simp [h29])) (lv_sub hl [0, 1, 2] rfl)
          · refine lv_aload_n hC.1 hC.2.1 d_X_findAtLegC_32 rfl (lv_at hl 1 rfl) ?_
            refine z_get (ci := 4) (C := R_X) (T := F_X) (N := 8) (v := .ref qp) hC in_X hK hP 0 rfl rfl 5 (by decide) k_103 rfl d_X_findAtLegC_33 ?_
            refine lv_iload_n hC.1 hC.2.1 d_X_findAtLegC_36 rfl (lv_at hl 0 rfl) ?_
            refine z_iconst hC d_X_findAtLegC_37 ?_
            refine lv_iload_n hC.1 hC.2.1 d_X_findAtLegC_38 rfl (lv_at hl 2 rfl) ?_
            refine z_iconst hC d_X_findAtLegC_39 ?_
            refine z_roVi (As := [.int (iI k), .int (iI 2), .int (iI y), .int (iI 2)]) (rest := []) hC (c_Ha_samePoint l D t ts qp qt qn z F k 2 y 2 (12 * k + 8) (12 * y + 8) (by omega) (by omega) (by omega) (by omega) (by omega) (by omega) hF) (cw_V hC k_291 k_292 k_293 k_5 k_294 ye_Ha_samePoint (by decide)) hP hK hE hS [4, 6] rfl 4 (ci := 0) rfl rfl rfl rfl hl.1 rfl (Nat.le_of_ble_eq_true rfl) ⟨Nat.le_of_ble_eq_true rfl, Nat.le_of_ble_eq_true rfl⟩ d_X_findAtLegC_40 ?_
            refine z_if_eqB (tgt := 48) hC d_X_findAtLegC_43 (by decide) (fun h43 => ?_) (fun h43 => ?_)
            · refine lv_iinc (v := iI (k + 1)) (lv' := [(2, .int (iI (k + 1))), (0, .ref x), (1, .int (iI y))]) hC.1 hC.2.1 d_X_findAtLegC_48 hl (k := 0) rfl (z_inc (by omega)) (by decide) rfl (fun ls hl => ?_)
              refine z_goto (tgt := 2) hC d_X_findAtLegC_51 (by decide) ?_
              exact ih2 (k + 1) _ (by omega) (by omega) (stepF hi (by simp [h43])) (lv_sub hl [0, 1, 2] rfl)
            · refine lv_iload_n hC.1 hC.2.1 d_X_findAtLegC_46 rfl (lv_at hl 0 rfl) ?_
              exact retv 47 _ _ d_X_findAtLegC_47 (fstZ_at (k := k) (by omega) (by omega) hi (by simp [h15, h29, h43])).symm
  exact L2 (z - 0 + 1 : Int).toNat 0 _ (by omega) (by omega) (by intro j _ _; omega) (lv_sub hl [0, 1, 2] rfl)
theorem ye_X_countUnused : ye y_X_countUnused R_X 0 := by unfold ye; decide +kernel
abbrev rm_X_countUnused : Room := { frames := 0, cells := 0, slots := 0, locals := 0 }
set_option maxHeartbeats 4000000 in
set_option maxRecDepth 100000 in
theorem c_X_countUnused (l : Launch) (D : va_G) (t : vt) (ts : Nat → Nat) (x qs qr qw qg qu qp ql qh qt qn : Nat) (sp : Value) (lv z : Int) (Lo Hi T F : Int → Int) (hz : 0 ≤ z ∧ z ≤ 400) (hLo : bL Lo) (hHi : bL Hi) (hT : bT T) (hF : bF F) (U : Int → Int) (hU : bF U) : Met l y_X_countUnused (.code y_X_countUnused b_X_countUnused 3 (some .int) :: tb_ws) rm_X_countUnused (RoP D t ts [.ref x] [(x, .inr (4, [.ref qs, .ref qr, .ref qw, .ref qg, .ref qu, .ref qp, sp, .int (iI lv)])), (qs, .inr (2, [.ref ql, .ref qh])), (ql, eL t.2.1 2000 Lo), (qh, eL t.2.1 2000 Hi), (qp, .inr (0, [.ref qt, .ref qn, .int (iI z)])), (qt, eI t.1 400 T), (qn, eI t.1 4800 F), (qu, eI t.1 400 U)]) (vp_Si (fun zr => zr = iI (unuZ U z))) 0 0 (fun _ => False) := by
  refine ro_i (by decide +kernel) (Nat.le_of_ble_eq_true rfl) ?_
  intro zp ze zs zm zb zt zc zQ ls hC hP hK hE hl ret
  have hS : va_S (fun _ => False) zs.heap zs.heap [] := va_S.rf
  have hl : lv_has ls 3 [(0, .ref x)] := hl
  have retv : ∀ (pc : Nat) (ls : Array Slot) (zv : Int), decode b_X_countUnused pc = .ok (.ireturn, 1) → zv = (unuZ U z) → W zp l ze rm_X_countUnused zs zm [.ref x].toArray zb zt zc zs.heap [] 0 0 zQ (F0 zm pc ls [.int (iI zv)]) := fun pc ls v d h => by rw [h]; exact ret pc ls d
  refine z_iconst hC d_X_countUnused_0 ?_
  refine lv_istore_n (lv' := [(1, .int (iI 0)), (0, .ref x)]) hC.1 hC.2.1 d_X_countUnused_1 rfl hl (by decide) rfl (fun ls hl => ?_)
  refine z_iconst hC d_X_countUnused_2 ?_
  refine lv_istore_n (lv' := [(2, .int (iI 0)), (1, .int (iI 0)), (0, .ref x)]) hC.1 hC.2.1 d_X_countUnused_3 rfl hl (by decide) rfl (fun ls hl => ?_)
  have L4 : ∀ (fu : Nat) (a : Int) (k : Int) (ls : Array Slot), z - k + 1 ≤ (fu : Int) → (0 ≤ k ∧ k ≤ z) → (a = cntZ k.toNat (fun n => decide (U n = 0))) → lv_has ls 3 [(2, .int (iI k)), (1, .int (iI a)), (0, .ref x)] → W zp l ze rm_X_countUnused zs zm [.ref x].toArray zb zt zc zs.heap [] 0 0 zQ (F0 zm 4 ls []) := by
    intro fu
    induction fu with
    | zero =>
      intro a k ls hm4 hk ea hl
      exact absurd hm4 (by omega)
    | succ fu ih4 =>
      intro a k ls hm4 hk ea hl
      refine lv_iload_n hC.1 hC.2.1 d_X_countUnused_4 rfl (lv_at hl 0 rfl) ?_
      refine lv_aload_n hC.1 hC.2.1 d_X_countUnused_5 rfl (lv_at hl 2 rfl) ?_
      refine z_get (ci := 4) (C := R_X) (T := F_X) (N := 8) (v := .ref qp) hC in_X hK hP 0 rfl rfl 5 (by decide) k_103 rfl d_X_countUnused_6 ?_
      refine z_getN (ci := 0) (C := R_Ha) (T := F_Ha) (N := 3) (v := .int (iI z)) hC in_Ha hK hP 4 rfl rfl 2 (by decide) hE.1.2.2.2.2.1 rfl d_X_countUnused_9 ?_
      refine z_icmp_ge (tgt := 33) hC d_X_countUnused_12 (by decide) (by omega) (by omega) (fun h12 => ?_) (fun h12 => ?_)
      · refine lv_iload_n hC.1 hC.2.1 d_X_countUnused_33 rfl (lv_at hl 1 rfl) ?_
        exact retv 34 _ _ d_X_countUnused_34 (by rw [ea, show k = z by omega]; rfl)
      · refine lv_aload_n hC.1 hC.2.1 d_X_countUnused_15 rfl (lv_at hl 2 rfl) ?_
        refine z_get (ci := 4) (C := R_X) (T := F_X) (N := 8) (v := .ref qu) hC in_X hK hP 0 rfl rfl 4 (by decide) k_102 rfl d_X_countUnused_16 ?_
        refine lv_iload_n hC.1 hC.2.1 d_X_countUnused_19 rfl (lv_at hl 0 rfl) ?_
        refine z_iald hC hK hP 7 rfl (by omega) d_X_countUnused_20 ?_
        refine z_if_ne (tgt := 27) hC d_X_countUnused_21 (by decide) (by have := hU k; omega) (fun h21 => ?_) (fun h21 => ?_)
        · refine lv_iinc (v := iI (k + 1)) (lv' := [(2, .int (iI (k + 1))), (1, .int (iI a)), (0, .ref x)]) hC.1 hC.2.1 d_X_countUnused_27 hl (k := 0) rfl (z_inc (by omega)) (by decide) rfl (fun ls hl => ?_)
          refine z_goto (tgt := 4) hC d_X_countUnused_30 (by decide) ?_
          exact ih4 a (k + 1) _ (by omega) (by omega) (by rw [cntZ_s (by omega), ← ea]; simp [h21]) (lv_sub hl [0, 1, 2] rfl)
        · refine lv_iinc (v := iI (a + 1)) (lv' := [(1, .int (iI (a + 1))), (2, .int (iI k)), (0, .ref x)]) hC.1 hC.2.1 d_X_countUnused_24 hl (k := 1) rfl (z_inc (by omega)) (by decide) rfl (fun ls hl => ?_)
          refine lv_iinc (v := iI (k + 1)) (lv' := [(2, .int (iI (k + 1))), (1, .int (iI (a + 1))), (0, .ref x)]) hC.1 hC.2.1 d_X_countUnused_27 hl (k := 1) rfl (z_inc (by omega)) (by decide) rfl (fun ls hl => ?_)
          refine z_goto (tgt := 4) hC d_X_countUnused_30 (by decide) ?_
          exact ih4 (a + 1) (k + 1) _ (by omega) (by omega) (by rw [cntZ_s (by omega), ← ea]; simp [h21]) (lv_sub hl [0, 1, 2] rfl)
  exact L4 (z - 0 + 1 : Int).toNat 0 0 _ (by omega) (by omega) (by rfl) (lv_sub hl [0, 1, 2] rfl)
theorem ye_X_countType : ye y_X_countType R_X 1 := by unfold ye; decide +kernel
abbrev rm_X_countType : Room := { frames := 0, cells := 0, slots := 0, locals := 0 }
set_option maxHeartbeats 4000000 in
set_option maxRecDepth 100000 in
theorem c_X_countType (l : Launch) (D : va_G) (t : vt) (ts : Nat → Nat) (x qs qr qw qg qu qp ql qh qt qn : Nat) (sp : Value) (lv z : Int) (Lo Hi T F : Int → Int) (hz : 0 ≤ z ∧ z ≤ 400) (hLo : bL Lo) (hHi : bL Hi) (hT : bT T) (hF : bF F) (y : Int) (hy : 0 ≤ y ∧ y ≤ 1) : Met l y_X_countType (.code y_X_countType b_X_countType 4 (some .int) :: tb_ws) rm_X_countType (RoP D t ts [.ref x, .int (iI y)] [(x, .inr (4, [.ref qs, .ref qr, .ref qw, .ref qg, .ref qu, .ref qp, sp, .int (iI lv)])), (qs, .inr (2, [.ref ql, .ref qh])), (ql, eL t.2.1 2000 Lo), (qh, eL t.2.1 2000 Hi), (qp, .inr (0, [.ref qt, .ref qn, .int (iI z)])), (qt, eI t.1 400 T), (qn, eI t.1 4800 F)]) (vp_Si (fun zr => zr = iI (ctZ T z y))) 0 0 (fun _ => False) := by
  refine ro_i (by decide +kernel) (Nat.le_of_ble_eq_true rfl) ?_
  intro zp ze zs zm zb zt zc zQ ls hC hP hK hE hl ret
  have hS : va_S (fun _ => False) zs.heap zs.heap [] := va_S.rf
  have hl : lv_has ls 4 [(0, .ref x), (1, .int (iI y))] := hl
  have retv : ∀ (pc : Nat) (ls : Array Slot) (zv : Int), decode b_X_countType pc = .ok (.ireturn, 1) → zv = (ctZ T z y) → W zp l ze rm_X_countType zs zm [.ref x, .int (iI y)].toArray zb zt zc zs.heap [] 0 0 zQ (F0 zm pc ls [.int (iI zv)]) := fun pc ls v d h => by rw [h]; exact ret pc ls d
  refine z_iconst hC d_X_countType_0 ?_
  refine lv_istore_n (lv' := [(2, .int (iI 0)), (0, .ref x), (1, .int (iI y))]) hC.1 hC.2.1 d_X_countType_1 rfl hl (by decide) rfl (fun ls hl => ?_)
  refine z_iconst hC d_X_countType_2 ?_
  refine lv_istore_n (lv' := [(3, .int (iI 0)), (2, .int (iI 0)), (0, .ref x), (1, .int (iI y))]) hC.1 hC.2.1 d_X_countType_3 rfl hl (by decide) rfl (fun ls hl => ?_)
  have L4 : ∀ (fu : Nat) (a : Int) (k : Int) (ls : Array Slot), z - k + 1 ≤ (fu : Int) → (0 ≤ k ∧ k ≤ z) → (a = cntZ k.toNat (fun n => decide (T n = y))) → lv_has ls 4 [(3, .int (iI k)), (2, .int (iI a)), (0, .ref x), (1, .int (iI y))] → W zp l ze rm_X_countType zs zm [.ref x, .int (iI y)].toArray zb zt zc zs.heap [] 0 0 zQ (F0 zm 4 ls []) := by
    intro fu
    induction fu with
    | zero =>
      intro a k ls hm4 hk ea hl
      exact absurd hm4 (by omega)
    | succ fu ih4 =>
      intro a k ls hm4 hk ea hl
      refine lv_iload_n hC.1 hC.2.1 d_X_countType_4 rfl (lv_at hl 0 rfl) ?_
      refine lv_aload_n hC.1 hC.2.1 d_X_countType_5 rfl (lv_at hl 2 rfl) ?_
      refine z_get (ci := 4) (C := R_X) (T := F_X) (N := 8) (v := .ref qp) hC in_X hK hP 0 rfl rfl 5 (by decide) k_103 rfl d_X_countType_6 ?_
      refine z_getN (ci := 0) (C := R_Ha) (T := F_Ha) (N := 3) (v := .int (iI z)) hC in_Ha hK hP 4 rfl rfl 2 (by decide) hE.1.2.2.2.2.1 rfl d_X_countType_9 ?_
      refine z_icmp_ge (tgt := 37) hC d_X_countType_12 (by decide) (by omega) (by omega) (fun h12 => ?_) (fun h12 => ?_)
      · refine lv_iload_n hC.1 hC.2.1 d_X_countType_37 rfl (lv_at hl 1 rfl) ?_
        exact retv 38 _ _ d_X_countType_38 (by rw [ea, show k = z by omega]; rfl)
      · refine lv_aload_n hC.1 hC.2.1 d_X_countType_15 rfl (lv_at hl 2 rfl) ?_
        refine z_get (ci := 4) (C := R_X) (T := F_X) (N := 8) (v := .ref qp) hC in_X hK hP 0 rfl rfl 5 (by decide) k_103 rfl d_X_countType_16 ?_
        refine z_getN (ci := 0) (C := R_Ha) (T := F_Ha) (N := 3) (v := .ref qt) hC in_Ha hK hP 4 rfl rfl 0 (by decide) hE.1.1 rfl d_X_countType_19 ?_
        refine lv_iload_n hC.1 hC.2.1 d_X_countType_22 rfl (lv_at hl 0 rfl) ?_
        refine z_iald hC hK hP 5 rfl (by omega) d_X_countType_23 ?_
        refine lv_iload_n hC.1 hC.2.1 d_X_countType_24 rfl (lv_at hl 3 rfl) ?_
        refine z_icmp_ne (tgt := 31) hC d_X_countType_25 (by decide) (by have := hT k; omega) (by omega) (fun h25 => ?_) (fun h25 => ?_)
        · refine lv_iinc (v := iI (k + 1)) (lv' := [(3, .int (iI (k + 1))), (2, .int (iI a)), (0, .ref x), (1, .int (iI y))]) hC.1 hC.2.1 d_X_countType_31 hl (k := 0) rfl (z_inc (by omega)) (by decide) rfl (fun ls hl => ?_)
          refine z_goto (tgt := 4) hC d_X_countType_34 (by decide) ?_
          exact ih4 a (k + 1) _ (by omega) (by omega) (by rw [cntZ_s (by omega), ← ea]; simp [h25]) (lv_sub hl [0, 1, 2, 3] rfl)
        · refine lv_iinc (v := iI (a + 1)) (lv' := [(2, .int (iI (a + 1))), (3, .int (iI k)), (0, .ref x), (1, .int (iI y))]) hC.1 hC.2.1 d_X_countType_28 hl (k := 1) rfl (z_inc (by omega)) (by decide) rfl (fun ls hl => ?_)
          refine lv_iinc (v := iI (k + 1)) (lv' := [(3, .int (iI (k + 1))), (2, .int (iI (a + 1))), (0, .ref x), (1, .int (iI y))]) hC.1 hC.2.1 d_X_countType_31 hl (k := 1) rfl (z_inc (by omega)) (by decide) rfl (fun ls hl => ?_)
          refine z_goto (tgt := 4) hC d_X_countType_34 (by decide) ?_
          exact ih4 (a + 1) (k + 1) _ (by omega) (by omega) (by rw [cntZ_s (by omega), ← ea]; simp [h25]) (lv_sub hl [0, 1, 2, 3] rfl)
  exact L4 (z - 0 + 1 : Int).toNat 0 0 _ (by omega) (by omega) (by rfl) (lv_sub hl [0, 1, 2, 3] rfl)
theorem ye_X_isFirstAt : ye y_X_isFirstAt R_X 2 := by unfold ye; decide +kernel
abbrev rm_X_isFirstAt : Room := { frames := 3, cells := 0, slots := 0, locals := 70 }
set_option maxHeartbeats 4000000 in
set_option maxRecDepth 100000 in
theorem c_X_isFirstAt (l : Launch) (D : va_G) (t : vt) (ts : Nat → Nat) (x qs qr qw qg qu qp ql qh qt qn : Nat) (sp : Value) (lv z : Int) (Lo Hi T F : Int → Int) (hz : 0 ≤ z ∧ z ≤ 400) (hLo : bL Lo) (hHi : bL Hi) (hT : bT T) (hF : bF F) (n c : Int) (hn : 0 ≤ n ∧ n < 400) (hc : 0 ≤ c ∧ c ≤ 2) : Met l y_X_isFirstAt (.code y_X_isFirstAt b_X_isFirstAt 4 (some .boolean) :: tb_ws) rm_X_isFirstAt (RoP D t ts [.ref x, .int (iI n), .int (iI c)] [(x, .inr (4, [.ref qs, .ref qr, .ref qw, .ref qg, .ref qu, .ref qp, sp, .int (iI lv)])), (qs, .inr (2, [.ref ql, .ref qh])), (ql, eL t.2.1 2000 Lo), (qh, eL t.2.1 2000 Hi), (qp, .inr (0, [.ref qt, .ref qn, .int (iI z)])), (qt, eI t.1 400 T), (qn, eI t.1 4800 F)]) (vp_Si (fun zr => zr = iI (zB (ifaZ F n c)))) 0 0 (fun _ => False) := by
  refine ro_z (by decide +kernel) (Nat.le_of_ble_eq_true rfl) ?_
  intro zp ze zs zm zb zt zc zQ ls hC hP hK hE hl ret
  have hS : va_S (fun _ => False) zs.heap zs.heap [] := va_S.rf
  have hl : lv_has ls 4 [(0, .ref x), (1, .int (iI n)), (2, .int (iI c))] := hl
  have ret1 : ∀ (pc : Nat) (ls : Array Slot), decode b_X_isFirstAt pc = .ok (.ireturn, 1) → (ifaZ F n c) = true → W zp l ze rm_X_isFirstAt zs zm [.ref x, .int (iI n), .int (iI c)].toArray zb zt zc zs.heap [] 0 0 zQ (F0 zm pc ls [.int (iI 1)]) := fun pc ls d h => by have r := ret pc ls d; rw [h] at r; exact r
  have ret0 : ∀ (pc : Nat) (ls : Array Slot), decode b_X_isFirstAt pc = .ok (.ireturn, 1) → (ifaZ F n c) = false → W zp l ze rm_X_isFirstAt zs zm [.ref x, .int (iI n), .int (iI c)].toArray zb zt zc zs.heap [] 0 0 zQ (F0 zm pc ls [.int (iI 0)]) := fun pc ls d h => by have r := ret pc ls d; rw [h] at r; exact r
  have retb : ∀ (pc : Nat) (ls : Array Slot), decode b_X_isFirstAt pc = .ok (.ireturn, 1) → ∀ zv : Bool, zv = (ifaZ F n c) → W zp l ze rm_X_isFirstAt zs zm [.ref x, .int (iI n), .int (iI c)].toArray zb zt zc zs.heap [] 0 0 zQ (F0 zm pc ls [.int (iI (zB zv))]) := fun pc ls d b h => by rw [h]; exact ret pc ls d
  refine z_iconst hC d_X_isFirstAt_0 ?_
  refine lv_istore_n (lv' := [(3, .int (iI 0)), (0, .ref x), (1, .int (iI n)), (2, .int (iI c))]) hC.1 hC.2.1 d_X_isFirstAt_1 rfl hl (by decide) rfl (fun ls hl => ?_)
  have L2 : ∀ (fu : Nat) (k : Int) (ls : Array Slot), n - k + 1 ≤ (fu : Int) → (0 ≤ k ∧ k ≤ n) → (∀ j, 0 ≤ j → j < k → decide (¬ cAt F j n c = -1) = false) → lv_has ls 4 [(3, .int (iI k)), (0, .ref x), (1, .int (iI n)), (2, .int (iI c))] → W zp l ze rm_X_isFirstAt zs zm [.ref x, .int (iI n), .int (iI c)].toArray zb zt zc zs.heap [] 0 0 zQ (F0 zm 2 ls []) := by
    intro fu
    induction fu with
    | zero =>
      intro k ls hm2 hk hi hl
      exact absurd hm2 (by omega)
    | succ fu ih2 =>
      intro k ls hm2 hk hi hl
      refine lv_iload_n hC.1 hC.2.1 d_X_isFirstAt_2 rfl (lv_at hl 0 rfl) ?_
      refine lv_iload_n hC.1 hC.2.1 d_X_isFirstAt_3 rfl (lv_at hl 2 rfl) ?_
      refine z_icmp_ge (tgt := 29) hC d_X_isFirstAt_4 (by decide) (by omega) (by omega) (fun h4 => ?_) (fun h4 => ?_)
      · refine z_iconst hC d_X_isFirstAt_29 ?_
        exact ret1 30 _ d_X_isFirstAt_30 (by unfold ifaZ; rw [(anyZ_f.mpr (fun j h1 h2 => hi j h1 (by omega)))]; rfl)
      · refine lv_aload_n hC.1 hC.2.1 d_X_isFirstAt_7 rfl (lv_at hl 1 rfl) ?_
        refine z_get (ci := 4) (C := R_X) (T := F_X) (N := 8) (v := .ref qp) hC in_X hK hP 0 rfl rfl 5 (by decide) k_103 rfl d_X_isFirstAt_8 ?_
        refine lv_iload_n hC.1 hC.2.1 d_X_isFirstAt_11 rfl (lv_at hl 0 rfl) ?_
        refine lv_iload_n hC.1 hC.2.1 d_X_isFirstAt_12 rfl (lv_at hl 2 rfl) ?_
        refine lv_iload_n hC.1 hC.2.1 d_X_isFirstAt_13 rfl (lv_at hl 3 rfl) ?_
        refine z_roVi (As := [.int (iI k), .int (iI n), .int (iI c)]) (rest := []) hC (c_Ha_cornerAt l D t ts qp qt qn z F k n c (by omega) (by omega) (by omega) hF) (cw_V hC k_329 k_330 k_331 k_5 k_332 ye_Ha_cornerAt (by decide)) hP hK hE hS [4, 6] rfl 4 (ci := 0) rfl rfl rfl rfl hl.1 rfl (Nat.le_of_ble_eq_true rfl) ⟨Nat.le_of_ble_eq_true rfl, Nat.le_of_ble_eq_true rfl⟩ d_X_isFirstAt_14 ?_
        refine z_iconst hC d_X_isFirstAt_17 ?_
        refine z_icmp_eq (tgt := 23) hC d_X_isFirstAt_18 (by decide) (by have := cAt_in F k n c; omega) (by decide) (fun h18 => ?_) (fun h18 => ?_)
        · refine lv_iinc (v := iI (k + 1)) (lv' := [(3, .int (iI (k + 1))), (0, .ref x), (1, .int (iI n)), (2, .int (iI c))]) hC.1 hC.2.1 d_X_isFirstAt_23 hl (k := 0) rfl (z_inc (by omega)) (by decide) rfl (fun ls hl => ?_)
          refine z_goto (tgt := 2) hC d_X_isFirstAt_26 (by decide) ?_
          exact ih2 (k + 1) _ (by omega) (by omega) (stepF hi (by simp [h18])) (lv_sub hl [0, 1, 2, 3] rfl)
        · refine z_iconst hC d_X_isFirstAt_21 ?_
          exact ret0 22 _ d_X_isFirstAt_22 (by unfold ifaZ; rw [anyZ_t (k := k) (by omega) (by omega) (by simp [h18])]; rfl)
  exact L2 (n - 0 + 1 : Int).toNat 0 _ (by omega) (by omega) (by intro j _ _; omega) (lv_sub hl [0, 1, 2, 3] rfl)
theorem ye_X_countPoints : ye y_X_countPoints R_X 0 := by unfold ye; decide +kernel
abbrev rm_X_countPoints : Room := { frames := 4, cells := 0, slots := 0, locals := 93 }
set_option maxHeartbeats 4000000 in
set_option maxRecDepth 100000 in
theorem c_X_countPoints (l : Launch) (D : va_G) (t : vt) (ts : Nat → Nat) (x qs qr qw qg qu qp ql qh qt qn : Nat) (sp : Value) (lv z : Int) (Lo Hi T F : Int → Int) (hz : 0 ≤ z ∧ z ≤ 400) (hLo : bL Lo) (hHi : bL Hi) (hT : bT T) (hF : bF F) : Met l y_X_countPoints (.code y_X_countPoints b_X_countPoints 4 (some .int) :: tb_ws) rm_X_countPoints (RoP D t ts [.ref x] [(x, .inr (4, [.ref qs, .ref qr, .ref qw, .ref qg, .ref qu, .ref qp, sp, .int (iI lv)])), (qs, .inr (2, [.ref ql, .ref qh])), (ql, eL t.2.1 2000 Lo), (qh, eL t.2.1 2000 Hi), (qp, .inr (0, [.ref qt, .ref qn, .int (iI z)])), (qt, eI t.1 400 T), (qn, eI t.1 4800 F)]) (vp_Si (fun zr => zr = iI (cpZ F z))) 0 0 (fun _ => False) := by
  refine ro_i (by decide +kernel) (Nat.le_of_ble_eq_true rfl) ?_
  intro zp ze zs zm zb zt zc zQ ls hC hP hK hE hl ret
  have hS : va_S (fun _ => False) zs.heap zs.heap [] := va_S.rf
  have hl : lv_has ls 4 [(0, .ref x)] := hl
  have retv : ∀ (pc : Nat) (ls : Array Slot) (zv : Int), decode b_X_countPoints pc = .ok (.ireturn, 1) → zv = (cpZ F z) → W zp l ze rm_X_countPoints zs zm [.ref x].toArray zb zt zc zs.heap [] 0 0 zQ (F0 zm pc ls [.int (iI zv)]) := fun pc ls v d h => by rw [h]; exact ret pc ls d
  refine z_iconst hC d_X_countPoints_0 ?_
  refine lv_istore_n (lv' := [(1, .int (iI 0)), (0, .ref x)]) hC.1 hC.2.1 d_X_countPoints_1 rfl hl (by decide) rfl (fun ls hl => ?_)
  refine z_iconst hC d_X_countPoints_2 ?_
  refine lv_istore_n (lv' := [(2, .int (iI 0)), (1, .int (iI 0)), (0, .ref x)]) hC.1 hC.2.1 d_X_countPoints_3 rfl hl (by decide) rfl (fun ls hl => ?_)
  have L4 : ∀ (fu : Nat) (a : Int) (k : Int) (ls : Array Slot), z - k + 1 ≤ (fu : Int) → (0 ≤ k ∧ k ≤ z) → (a = sumZ k.toNat (fun n => cntZ 3 (fun c => ifaZ F n c))) → lv_has ls 4 [(2, .int (iI k)), (1, .int (iI a)), (0, .ref x)] → W zp l ze rm_X_countPoints zs zm [.ref x].toArray zb zt zc zs.heap [] 0 0 zQ (F0 zm 4 ls []) := by
    intro fu
    induction fu with
    | zero =>
      intro a k ls hm4 hk ea hl
      exact absurd hm4 (by omega)
    | succ fu ih4 =>
      intro a k ls hm4 hk ea hl
      refine lv_iload_n hC.1 hC.2.1 d_X_countPoints_4 rfl (lv_at hl 0 rfl) ?_
      refine lv_aload_n hC.1 hC.2.1 d_X_countPoints_5 rfl (lv_at hl 2 rfl) ?_
      refine z_get (ci := 4) (C := R_X) (T := F_X) (N := 8) (v := .ref qp) hC in_X hK hP 0 rfl rfl 5 (by decide) k_103 rfl d_X_countPoints_6 ?_
      refine z_getN (ci := 0) (C := R_Ha) (T := F_Ha) (N := 3) (v := .int (iI z)) hC in_Ha hK hP 4 rfl rfl 2 (by decide) hE.1.2.2.2.2.1 rfl d_X_countPoints_9 ?_
      refine z_icmp_ge (tgt := 46) hC d_X_countPoints_12 (by decide) (by omega) (by omega) (fun h12 => ?_) (fun h12 => ?_)
      · refine lv_iload_n hC.1 hC.2.1 d_X_countPoints_46 rfl (lv_at hl 1 rfl) ?_
        exact retv 47 _ _ d_X_countPoints_47 (by rw [ea, show k = z by omega]; rfl)
      · refine z_iconst hC d_X_countPoints_15 ?_
        refine lv_istore_n (lv' := [(3, .int (iI 0)), (2, .int (iI k)), (1, .int (iI a)), (0, .ref x)]) hC.1 hC.2.1 d_X_countPoints_16 rfl hl (by decide) rfl (fun ls hl => ?_)
        have L17 : ∀ (fu : Nat) (b : Int) (j : Int) (ls : Array Slot), 3 - j + 1 ≤ (fu : Int) → (0 ≤ j ∧ j ≤ 3) → (b = a + cntZ j.toNat (fun c => ifaZ F k c)) → lv_has ls 4 [(3, .int (iI j)), (2, .int (iI k)), (1, .int (iI b)), (0, .ref x)] → W zp l ze rm_X_countPoints zs zm [.ref x].toArray zb zt zc zs.heap [] 0 0 zQ (F0 zm 17 ls []) := by
          intro fu
          induction fu with
          | zero =>
            intro b j ls hm17 hk2 eb hl
            exact absurd hm17 (by omega)
          | succ fu ih17 =>
            intro b j ls hm17 hk2 eb hl
            refine lv_iload_n hC.1 hC.2.1 d_X_countPoints_17 rfl (lv_at hl 0 rfl) ?_
            refine z_iconst hC d_X_countPoints_18 ?_
            refine z_icmp_ge (tgt := 40) hC d_X_countPoints_19 (by decide) (by omega) (by decide) (fun h19 => ?_) (fun h19 => ?_)
            · refine lv_iinc (v := iI (k + 1)) (lv' := [(2, .int (iI (k + 1))), (3, .int (iI j)), (1, .int (iI b)), (0, .ref x)]) hC.1 hC.2.1 d_X_countPoints_40 hl (k := 1) rfl (z_inc (by omega)) (by decide) rfl (fun ls hl => ?_)
              refine z_goto (tgt := 4) hC d_X_countPoints_43 (by decide) ?_
              exact ih4 b (k + 1) _ (by omega) (by omega) (by rw [sumZ_s (by omega), ← ea, eb, show j = 3 by omega]; rfl) (lv_sub hl [0, 2, 3] rfl)
            · refine lv_aload_n hC.1 hC.2.1 d_X_countPoints_22 rfl (lv_at hl 3 rfl) ?_
              refine lv_iload_n hC.1 hC.2.1 d_X_countPoints_23 rfl (lv_at hl 1 rfl) ?_
              refine lv_iload_n hC.1 hC.2.1 d_X_countPoints_24 rfl (lv_at hl 0 rfl) ?_
              refine z_roVi (As := [.int (iI k), .int (iI j)]) (rest := []) hC (c_X_isFirstAt l D t ts x qs qr qw qg qu qp ql qh qt qn sp lv z Lo Hi T F (by omega) hLo hHi hT hF k j (by omega) (by omega)) (cw_V hC k_344 k_346 kp_15 k_1 k_347 ye_X_isFirstAt (by decide)) hP hK hE hS [0, 1, 2, 3, 4, 5, 6] rfl 0 (ci := 4) rfl rfl rfl rfl hl.1 rfl (Nat.le_of_ble_eq_true rfl) ⟨Nat.le_of_ble_eq_true rfl, Nat.le_of_ble_eq_true rfl⟩ d_X_countPoints_25 ?_
              refine z_if_eqB (tgt := 34) hC d_X_countPoints_28 (by decide) (fun h28 => ?_) (fun h28 => ?_)
              · refine lv_iinc (v := iI (j + 1)) (lv' := [(3, .int (iI (j + 1))), (2, .int (iI k)), (1, .int (iI b)), (0, .ref x)]) hC.1 hC.2.1 d_X_countPoints_34 hl (k := 0) rfl (z_inc (by omega)) (by decide) rfl (fun ls hl => ?_)
                refine z_goto (tgt := 17) hC d_X_countPoints_37 (by decide) ?_
                exact ih17 b (j + 1) _ (by omega) (by omega) (by rw [cntZ_s (by omega)]; simp [h28]; omega) (lv_sub hl [0, 1, 2, 3] rfl)
              · refine lv_iinc (v := iI (b + 1)) (lv' := [(1, .int (iI (b + 1))), (3, .int (iI j)), (2, .int (iI k)), (0, .ref x)]) hC.1 hC.2.1 d_X_countPoints_31 hl (k := 2) rfl (z_inc (by omega)) (by decide) rfl (fun ls hl => ?_)
                refine lv_iinc (v := iI (j + 1)) (lv' := [(3, .int (iI (j + 1))), (1, .int (iI (b + 1))), (2, .int (iI k)), (0, .ref x)]) hC.1 hC.2.1 d_X_countPoints_34 hl (k := 1) rfl (z_inc (by omega)) (by decide) rfl (fun ls hl => ?_)
                refine z_goto (tgt := 17) hC d_X_countPoints_37 (by decide) ?_
                exact ih17 (b + 1) (j + 1) _ (by omega) (by omega) (by rw [cntZ_s (by omega)]; simp [h28]; omega) (lv_sub hl [0, 2, 1, 3] rfl)
        exact L17 (3 - 0 + 1 : Int).toNat a 0 _ (by omega) (by omega) (by simp [cntZ, sumZ]) (lv_sub hl [0, 1, 2, 3] rfl)
  exact L4 (z - 0 + 1 : Int).toNat 0 0 _ (by omega) (by omega) (by rfl) (lv_sub hl [0, 1, 2] rfl)
theorem ye_X_isPaired : ye y_X_isPaired R_X 1 := by unfold ye; decide +kernel
abbrev rm_X_isPaired : Room := { frames := 2, cells := 0, slots := 0, locals := 46 }
set_option maxHeartbeats 4000000 in
set_option maxRecDepth 100000 in
theorem c_X_isPaired (l : Launch) (D : va_G) (t : vt) (ts : Nat → Nat) (x qs qr qw qg qu qp ql qh qt qn : Nat) (sp : Value) (lv z : Int) (Lo Hi T F : Int → Int) (hz : 0 ≤ z ∧ z ≤ 400) (hLo : bL Lo) (hHi : bL Hi) (hT : bT T) (hF : bF F) (n : Int) (hn : 0 ≤ n ∧ n < 400) : Met l y_X_isPaired (.code y_X_isPaired b_X_isPaired 3 (some .boolean) :: tb_ws) rm_X_isPaired (RoP D t ts [.ref x, .int (iI n)] [(x, .inr (4, [.ref qs, .ref qr, .ref qw, .ref qg, .ref qu, .ref qp, sp, .int (iI lv)])), (qs, .inr (2, [.ref ql, .ref qh])), (ql, eL t.2.1 2000 Lo), (qh, eL t.2.1 2000 Hi), (qp, .inr (0, [.ref qt, .ref qn, .int (iI z)])), (qt, eI t.1 400 T), (qn, eI t.1 4800 F)]) (vp_Si (fun zr => zr = iI (zB (ipZ T F z n)))) 0 0 (fun _ => False) := by
  refine ro_z (by decide +kernel) (Nat.le_of_ble_eq_true rfl) ?_
  intro zp ze zs zm zb zt zc zQ ls hC hP hK hE hl ret
  have hS : va_S (fun _ => False) zs.heap zs.heap [] := va_S.rf
  have hl : lv_has ls 3 [(0, .ref x), (1, .int (iI n))] := hl
  have ret1 : ∀ (pc : Nat) (ls : Array Slot), decode b_X_isPaired pc = .ok (.ireturn, 1) → (ipZ T F z n) = true → W zp l ze rm_X_isPaired zs zm [.ref x, .int (iI n)].toArray zb zt zc zs.heap [] 0 0 zQ (F0 zm pc ls [.int (iI 1)]) := fun pc ls d h => by have r := ret pc ls d; rw [h] at r; exact r
  have ret0 : ∀ (pc : Nat) (ls : Array Slot), decode b_X_isPaired pc = .ok (.ireturn, 1) → (ipZ T F z n) = false → W zp l ze rm_X_isPaired zs zm [.ref x, .int (iI n)].toArray zb zt zc zs.heap [] 0 0 zQ (F0 zm pc ls [.int (iI 0)]) := fun pc ls d h => by have r := ret pc ls d; rw [h] at r; exact r
  have retb : ∀ (pc : Nat) (ls : Array Slot), decode b_X_isPaired pc = .ok (.ireturn, 1) → ∀ zv : Bool, zv = (ipZ T F z n) → W zp l ze rm_X_isPaired zs zm [.ref x, .int (iI n)].toArray zb zt zc zs.heap [] 0 0 zQ (F0 zm pc ls [.int (iI (zB zv))]) := fun pc ls d b h => by rw [h]; exact ret pc ls d
  refine z_iconst hC d_X_isPaired_0 ?_
  refine lv_istore_n (lv' := [(2, .int (iI 0)), (0, .ref x), (1, .int (iI n))]) hC.1 hC.2.1 d_X_isPaired_1 rfl hl (by decide) rfl (fun ls hl => ?_)
  have L2 : ∀ (fu : Nat) (k : Int) (ls : Array Slot), z - k + 1 ≤ (fu : Int) → (0 ≤ k ∧ k ≤ z) → (∀ j, 0 ≤ j → j < k → (decide (¬ j = n) && (decide (T j = T n) && (pS F (12 * j + 4) (12 * n + 4) && pS F (12 * j + 8) (12 * n + 8)))) = false) → lv_has ls 3 [(2, .int (iI k)), (0, .ref x), (1, .int (iI n))] → W zp l ze rm_X_isPaired zs zm [.ref x, .int (iI n)].toArray zb zt zc zs.heap [] 0 0 zQ (F0 zm 2 ls []) := by
    intro fu
    induction fu with
    | zero =>
      intro k ls hm2 hk hi hl
      exact absurd hm2 (by omega)
    | succ fu ih2 =>
      intro k ls hm2 hk hi hl
      refine lv_iload_n hC.1 hC.2.1 d_X_isPaired_2 rfl (lv_at hl 0 rfl) ?_
      refine lv_aload_n hC.1 hC.2.1 d_X_isPaired_3 rfl (lv_at hl 1 rfl) ?_
      refine z_get (ci := 4) (C := R_X) (T := F_X) (N := 8) (v := .ref qp) hC in_X hK hP 0 rfl rfl 5 (by decide) k_103 rfl d_X_isPaired_4 ?_
      refine z_getN (ci := 0) (C := R_Ha) (T := F_Ha) (N := 3) (v := .int (iI z)) hC in_Ha hK hP 4 rfl rfl 2 (by decide) hE.1.2.2.2.2.1 rfl d_X_isPaired_7 ?_
      refine z_icmp_ge (tgt := 75) hC d_X_isPaired_10 (by decide) (by omega) (by omega) (fun h10 => ?_) (fun h10 => ?_)
      · refine z_iconst hC d_X_isPaired_75 ?_
        exact ret0 76 _ d_X_isPaired_76 (anyZ_f.mpr (fun j h1 h2 => hi j h1 (by omega)))
      · refine lv_iload_n hC.1 hC.2.1 d_X_isPaired_13 rfl (lv_at hl 0 rfl) ?_
        refine lv_iload_n hC.1 hC.2.1 d_X_isPaired_14 rfl (lv_at hl 2 rfl) ?_
        refine z_icmp_eq (tgt := 69) hC d_X_isPaired_15 (by decide) (by omega) (by omega) (fun h15 => ?_) (fun h15 => ?_)
        · refine lv_iinc (v := iI (k + 1)) (lv' := [(2, .int (iI (k + 1))), (0, .ref x), (1, .int (iI n))]) hC.1 hC.2.1 d_X_isPaired_69 hl (k := 0) rfl (z_inc (by omega)) (by decide) rfl (fun ls hl => ?_)
          refine z_goto (tgt := 2) hC d_X_isPaired_72 (by decide) ?_
          exact ih2 (k + 1) _ (by omega) (by omega) (stepF hi (by simp [h15])) (lv_sub hl [0, 1, 2] rfl)
        · refine lv_aload_n hC.1 hC.2.1 d_X_isPaired_18 rfl (lv_at hl 1 rfl) ?_
          refine z_get (ci := 4) (C := R_X) (T := F_X) (N := 8) (v := .ref qp) hC in_X hK hP 0 rfl rfl 5 (by decide) k_103 rfl d_X_isPaired_19 ?_
          refine z_getN (ci := 0) (C := R_Ha) (T := F_Ha) (N := 3) (v := .ref qt) hC in_Ha hK hP 4 rfl rfl 0 (by decide) hE.1.1 rfl d_X_isPaired_22 ?_
          refine lv_iload_n hC.1 hC.2.1 d_X_isPaired_25 rfl (lv_at hl 0 rfl) ?_
          refine z_iald hC hK hP 5 rfl (by omega) d_X_isPaired_26 ?_
          refine lv_aload_n hC.1 hC.2.1 d_X_isPaired_27 rfl (lv_at hl 1 rfl) ?_
          refine z_get (ci := 4) (C := R_X) (T := F_X) (N := 8) (v := .ref qp) hC in_X hK hP 0 rfl rfl 5 (by decide) k_103 rfl d_X_isPaired_28 ?_
          refine z_getN (ci := 0) (C := R_Ha) (T := F_Ha) (N := 3) (v := .ref qt) hC in_Ha hK hP 4 rfl rfl 0 (by decide) hE.1.1 rfl d_X_isPaired_31 ?_
          refine lv_iload_n hC.1 hC.2.1 d_X_isPaired_34 rfl (lv_at hl 2 rfl) ?_
          refine z_iald hC hK hP 5 rfl (by omega) d_X_isPaired_35 ?_
          refine z_icmp_ne (tgt := 69) hC d_X_isPaired_36 (by decide) (by have := hT k; omega) (by have := hT n; omega) (fun h36 => ?_) (fun h36 => ?_)
          · refine lv_iinc (v := iI (k + 1)) (lv' := [(2, .int (iI (k + 1))), (0, .ref x), (1, .int (iI n))]) hC.1 hC.2.1 d_X_isPaired_69 hl (k := 0) rfl (z_inc (by omega)) (by decide) rfl (fun ls hl => ?_)
            refine z_goto (tgt := 2) hC d_X_isPaired_72 (by decide) ?_
            exact ih2 (k + 1) _ (by omega) (by omega) (stepF hi (by simp [h36])) (lv_sub hl [0, 1, 2] rfl)
          · refine lv_aload_n hC.1 hC.2.1 d_X_isPaired_39 rfl (lv_at hl 1 rfl) ?_
            refine z_get (ci := 4) (C := R_X) (T := F_X) (N := 8) (v := .ref qp) hC in_X hK hP 0 rfl rfl 5 (by decide) k_103 rfl d_X_isPaired_40 ?_
            refine lv_iload_n hC.1 hC.2.1 d_X_isPaired_43 rfl (lv_at hl 0 rfl) ?_
            refine z_iconst hC d_X_isPaired_44 ?_
            refine lv_iload_n hC.1 hC.2.1 d_X_isPaired_45 rfl (lv_at hl 2 rfl) ?_
            refine z_iconst hC d_X_isPaired_46 ?_
            refine z_roVi (As := [.int (iI k), .int (iI 1), .int (iI n), .int (iI 1)]) (rest := []) hC (c_Ha_samePoint l D t ts qp qt qn z F k 1 n 1 (12 * k + 4) (12 * n + 4) (by omega) (by omega) (by omega) (by omega) (by omega) (by omega) hF) (cw_V hC k_291 k_292 k_293 k_5 k_294 ye_Ha_samePoint (by decide)) hP hK hE hS [4, 6] rfl 4 (ci := 0) rfl rfl rfl rfl hl.1 rfl (Nat.le_of_ble_eq_true rfl) ⟨Nat.le_of_ble_eq_true rfl, Nat.le_of_ble_eq_true rfl⟩ d_X_isPaired_47 ?_
            refine z_if_eqB (tgt := 69) hC d_X_isPaired_50 (by decide) (fun h50 => ?_) (fun h50 => ?_)
            · refine lv_iinc (v := iI (k + 1)) (lv' := [(2, .int (iI (k + 1))), (0, .ref x), (1, .int (iI n))]) hC.1 hC.2.1 d_X_isPaired_69 hl (k := 0) rfl (z_inc (by omega)) (by decide) rfl (fun ls hl => ?_)
              refine z_goto (tgt := 2) hC d_X_isPaired_72 (by decide) ?_
              exact ih2 (k + 1) _ (by omega) (by omega) (stepF hi (by simp [h50])) (lv_sub hl [0, 1, 2] rfl)
            · refine lv_aload_n hC.1 hC.2.1 d_X_isPaired_53 rfl (lv_at hl 1 rfl) ?_
              refine z_get (ci := 4) (C := R_X) (T := F_X) (N := 8) (v := .ref qp) hC in_X hK hP 0 rfl rfl 5 (by decide) k_103 rfl d_X_isPaired_54 ?_
              refine lv_iload_n hC.1 hC.2.1 d_X_isPaired_57 rfl (lv_at hl 0 rfl) ?_
              refine z_iconst hC d_X_isPaired_58 ?_
              refine lv_iload_n hC.1 hC.2.1 d_X_isPaired_59 rfl (lv_at hl 2 rfl) ?_
              refine z_iconst hC d_X_isPaired_60 ?_
              refine z_roVi (As := [.int (iI k), .int (iI 2), .int (iI n), .int (iI 2)]) (rest := []) hC (c_Ha_samePoint l D t ts qp qt qn z F k 2 n 2 (12 * k + 8) (12 * n + 8) (by omega) (by omega) (by omega) (by omega) (by omega) (by omega) hF) (cw_V hC k_291 k_292 k_293 k_5 k_294 ye_Ha_samePoint (by decide)) hP hK hE hS [4, 6] rfl 4 (ci := 0) rfl rfl rfl rfl hl.1 rfl (Nat.le_of_ble_eq_true rfl) ⟨Nat.le_of_ble_eq_true rfl, Nat.le_of_ble_eq_true rfl⟩ d_X_isPaired_61 ?_
              refine z_if_eqB (tgt := 69) hC d_X_isPaired_64 (by decide) (fun h64 => ?_) (fun h64 => ?_)
              · refine lv_iinc (v := iI (k + 1)) (lv' := [(2, .int (iI (k + 1))), (0, .ref x), (1, .int (iI n))]) hC.1 hC.2.1 d_X_isPaired_69 hl (k := 0) rfl (z_inc (by omega)) (by decide) rfl (fun ls hl => ?_)
                refine z_goto (tgt := 2) hC d_X_isPaired_72 (by decide) ?_
                exact ih2 (k + 1) _ (by omega) (by omega) (stepF hi (by simp [h64])) (lv_sub hl [0, 1, 2] rfl)
              · refine z_iconst hC d_X_isPaired_67 ?_
                exact ret1 68 _ d_X_isPaired_68 (anyZ_t (k := k) (by omega) (by omega) (by simp [h15, h36, h50, h64]))
  exact L2 (z - 0 + 1 : Int).toNat 0 _ (by omega) (by omega) (by intro j _ _; omega) (lv_sub hl [0, 1, 2] rfl)
theorem ye_X_countPaired : ye y_X_countPaired R_X 0 := by unfold ye; decide +kernel
abbrev rm_X_countPaired : Room := { frames := 3, cells := 0, slots := 0, locals := 68 }
set_option maxHeartbeats 4000000 in
set_option maxRecDepth 100000 in
theorem c_X_countPaired (l : Launch) (D : va_G) (t : vt) (ts : Nat → Nat) (x qs qr qw qg qu qp ql qh qt qn : Nat) (sp : Value) (lv z : Int) (Lo Hi T F : Int → Int) (hz : 0 ≤ z ∧ z ≤ 400) (hLo : bL Lo) (hHi : bL Hi) (hT : bT T) (hF : bF F) : Met l y_X_countPaired (.code y_X_countPaired b_X_countPaired 3 (some .int) :: tb_ws) rm_X_countPaired (RoP D t ts [.ref x] [(x, .inr (4, [.ref qs, .ref qr, .ref qw, .ref qg, .ref qu, .ref qp, sp, .int (iI lv)])), (qs, .inr (2, [.ref ql, .ref qh])), (ql, eL t.2.1 2000 Lo), (qh, eL t.2.1 2000 Hi), (qp, .inr (0, [.ref qt, .ref qn, .int (iI z)])), (qt, eI t.1 400 T), (qn, eI t.1 4800 F)]) (vp_Si (fun zr => zr = iI (cprZ T F z))) 0 0 (fun _ => False) := by
  refine ro_i (by decide +kernel) (Nat.le_of_ble_eq_true rfl) ?_
  intro zp ze zs zm zb zt zc zQ ls hC hP hK hE hl ret
  have hS : va_S (fun _ => False) zs.heap zs.heap [] := va_S.rf
  have hl : lv_has ls 3 [(0, .ref x)] := hl
  have retv : ∀ (pc : Nat) (ls : Array Slot) (zv : Int), decode b_X_countPaired pc = .ok (.ireturn, 1) → zv = (cprZ T F z) → W zp l ze rm_X_countPaired zs zm [.ref x].toArray zb zt zc zs.heap [] 0 0 zQ (F0 zm pc ls [.int (iI zv)]) := fun pc ls v d h => by rw [h]; exact ret pc ls d
  refine z_iconst hC d_X_countPaired_0 ?_
  refine lv_istore_n (lv' := [(1, .int (iI 0)), (0, .ref x)]) hC.1 hC.2.1 d_X_countPaired_1 rfl hl (by decide) rfl (fun ls hl => ?_)
  refine z_iconst hC d_X_countPaired_2 ?_
  refine lv_istore_n (lv' := [(2, .int (iI 0)), (1, .int (iI 0)), (0, .ref x)]) hC.1 hC.2.1 d_X_countPaired_3 rfl hl (by decide) rfl (fun ls hl => ?_)
  have L4 : ∀ (fu : Nat) (a : Int) (k : Int) (ls : Array Slot), z - k + 1 ≤ (fu : Int) → (0 ≤ k ∧ k ≤ z) → (a = cntZ k.toNat (fun n => ipZ T F z n)) → lv_has ls 3 [(2, .int (iI k)), (1, .int (iI a)), (0, .ref x)] → W zp l ze rm_X_countPaired zs zm [.ref x].toArray zb zt zc zs.heap [] 0 0 zQ (F0 zm 4 ls []) := by
    intro fu
    induction fu with
    | zero =>
      intro a k ls hm4 hk ea hl
      exact absurd hm4 (by omega)
    | succ fu ih4 =>
      intro a k ls hm4 hk ea hl
      refine lv_iload_n hC.1 hC.2.1 d_X_countPaired_4 rfl (lv_at hl 0 rfl) ?_
      refine lv_aload_n hC.1 hC.2.1 d_X_countPaired_5 rfl (lv_at hl 2 rfl) ?_
      refine z_get (ci := 4) (C := R_X) (T := F_X) (N := 8) (v := .ref qp) hC in_X hK hP 0 rfl rfl 5 (by decide) k_103 rfl d_X_countPaired_6 ?_
      refine z_getN (ci := 0) (C := R_Ha) (T := F_Ha) (N := 3) (v := .int (iI z)) hC in_Ha hK hP 4 rfl rfl 2 (by decide) hE.1.2.2.2.2.1 rfl d_X_countPaired_9 ?_
      refine z_icmp_ge (tgt := 32) hC d_X_countPaired_12 (by decide) (by omega) (by omega) (fun h12 => ?_) (fun h12 => ?_)
      · refine lv_iload_n hC.1 hC.2.1 d_X_countPaired_32 rfl (lv_at hl 1 rfl) ?_
        exact retv 33 _ _ d_X_countPaired_33 (by rw [ea, show k = z by omega]; rfl)
      · refine lv_aload_n hC.1 hC.2.1 d_X_countPaired_15 rfl (lv_at hl 2 rfl) ?_
        refine lv_iload_n hC.1 hC.2.1 d_X_countPaired_16 rfl (lv_at hl 0 rfl) ?_
        refine z_roVi (As := [.int (iI k)]) (rest := []) hC (c_X_isPaired l D t ts x qs qr qw qg qu qp ql qh qt qn sp lv z Lo Hi T F (by omega) hLo hHi hT hF k (by omega)) (cw_V hC k_352 k_354 kp_17 k_1 k_355 ye_X_isPaired (by decide)) hP hK hE hS [0, 1, 2, 3, 4, 5, 6] rfl 0 (ci := 4) rfl rfl rfl rfl hl.1 rfl (Nat.le_of_ble_eq_true rfl) ⟨Nat.le_of_ble_eq_true rfl, Nat.le_of_ble_eq_true rfl⟩ d_X_countPaired_17 ?_
        refine z_if_eqB (tgt := 26) hC d_X_countPaired_20 (by decide) (fun h20 => ?_) (fun h20 => ?_)
        · refine lv_iinc (v := iI (k + 1)) (lv' := [(2, .int (iI (k + 1))), (1, .int (iI a)), (0, .ref x)]) hC.1 hC.2.1 d_X_countPaired_26 hl (k := 0) rfl (z_inc (by omega)) (by decide) rfl (fun ls hl => ?_)
          refine z_goto (tgt := 4) hC d_X_countPaired_29 (by decide) ?_
          exact ih4 a (k + 1) _ (by omega) (by omega) (by rw [cntZ_s (by omega), ← ea]; simp [h20]) (lv_sub hl [0, 1, 2] rfl)
        · refine lv_iinc (v := iI (a + 1)) (lv' := [(1, .int (iI (a + 1))), (2, .int (iI k)), (0, .ref x)]) hC.1 hC.2.1 d_X_countPaired_23 hl (k := 1) rfl (z_inc (by omega)) (by decide) rfl (fun ls hl => ?_)
          refine lv_iinc (v := iI (k + 1)) (lv' := [(2, .int (iI (k + 1))), (1, .int (iI (a + 1))), (0, .ref x)]) hC.1 hC.2.1 d_X_countPaired_26 hl (k := 1) rfl (z_inc (by omega)) (by decide) rfl (fun ls hl => ?_)
          refine z_goto (tgt := 4) hC d_X_countPaired_29 (by decide) ?_
          exact ih4 (a + 1) (k + 1) _ (by omega) (by omega) (by rw [cntZ_s (by omega), ← ea]; simp [h20]) (lv_sub hl [0, 1, 2] rfl)
  exact L4 (z - 0 + 1 : Int).toNat 0 0 _ (by omega) (by omega) (by rfl) (lv_sub hl [0, 1, 2] rfl)
theorem ye_X_sharedEdges : ye y_X_sharedEdges R_X 2 := by unfold ye; decide +kernel
abbrev rm_X_sharedEdges : Room := { frames := 3, cells := 0, slots := 0, locals := 70 }
set_option maxHeartbeats 4000000 in
set_option maxRecDepth 100000 in
theorem c_X_sharedEdges (l : Launch) (D : va_G) (t : vt) (ts : Nat → Nat) (x qs qr qw qg qu qp ql qh qt qn : Nat) (sp : Value) (lv z : Int) (Lo Hi T F : Int → Int) (hz : 0 ≤ z ∧ z ≤ 400) (hLo : bL Lo) (hHi : bL Hi) (hT : bT T) (hF : bF F) (n m : Int) (hn : 0 ≤ n ∧ n < 400) (hm : 0 ≤ m ∧ m < 400) : Met l y_X_sharedEdges (.code y_X_sharedEdges b_X_sharedEdges 6 (some .int) :: tb_ws) rm_X_sharedEdges (RoP D t ts [.ref x, .int (iI n), .int (iI m)] [(x, .inr (4, [.ref qs, .ref qr, .ref qw, .ref qg, .ref qu, .ref qp, sp, .int (iI lv)])), (qs, .inr (2, [.ref ql, .ref qh])), (ql, eL t.2.1 2000 Lo), (qh, eL t.2.1 2000 Hi), (qp, .inr (0, [.ref qt, .ref qn, .int (iI z)])), (qt, eI t.1 400 T), (qn, eI t.1 4800 F)]) (vp_Si (fun zr => zr = iI (sb (shA F n m) (shB F n m) (shC F n m)))) 0 0 (fun _ => False) := by
  refine ro_i (by decide +kernel) (Nat.le_of_ble_eq_true rfl) ?_
  intro zp ze zs zm zb zt zc zQ ls hC hP hK hE hl ret
  have hS : va_S (fun _ => False) zs.heap zs.heap [] := va_S.rf
  have hl : lv_has ls 6 [(0, .ref x), (1, .int (iI n)), (2, .int (iI m))] := hl
  have retv : ∀ (pc : Nat) (ls : Array Slot) (zv : Int), decode b_X_sharedEdges pc = .ok (.ireturn, 1) → zv = (sb (shA F n m) (shB F n m) (shC F n m)) → W zp l ze rm_X_sharedEdges zs zm [.ref x, .int (iI n), .int (iI m)].toArray zb zt zc zs.heap [] 0 0 zQ (F0 zm pc ls [.int (iI zv)]) := fun pc ls v d h => by rw [h]; exact ret pc ls d
  refine lv_aload_n hC.1 hC.2.1 d_X_sharedEdges_0 rfl (lv_at hl 0 rfl) ?_
  refine z_get (ci := 4) (C := R_X) (T := F_X) (N := 8) (v := .ref qp) hC in_X hK hP 0 rfl rfl 5 (by decide) k_103 rfl d_X_sharedEdges_1 ?_
  refine lv_iload_n hC.1 hC.2.1 d_X_sharedEdges_4 rfl (lv_at hl 2 rfl) ?_
  refine lv_iload_n hC.1 hC.2.1 d_X_sharedEdges_5 rfl (lv_at hl 1 rfl) ?_
  refine z_iconst hC d_X_sharedEdges_6 ?_
  refine z_roVi (As := [.int (iI m), .int (iI n), .int (iI 0)]) (rest := []) hC (c_Ha_cornerAt l D t ts qp qt qn z F m n 0 (by omega) (by omega) (by omega) hF) (cw_V hC k_329 k_330 k_331 k_5 k_332 ye_Ha_cornerAt (by decide)) hP hK hE hS [4, 6] rfl 4 (ci := 0) rfl rfl rfl rfl hl.1 rfl (Nat.le_of_ble_eq_true rfl) ⟨Nat.le_of_ble_eq_true rfl, Nat.le_of_ble_eq_true rfl⟩ d_X_sharedEdges_7 ?_
  refine z_iconst hC d_X_sharedEdges_10 ?_
  refine z_icmp_eq (tgt := 18) hC d_X_sharedEdges_11 (by decide) (by have := cAt_in F m n 0; omega) (by decide) (fun h11 => ?_) (fun h11 => ?_)
  · refine z_iconst hC d_X_sharedEdges_18 ?_
    refine lv_istore_n (lv' := [(3, .int (iI 0)), (0, .ref x), (1, .int (iI n)), (2, .int (iI m))]) hC.1 hC.2.1 d_X_sharedEdges_19 rfl hl (by decide) rfl (fun ls hl => ?_)
    refine lv_aload_n hC.1 hC.2.1 d_X_sharedEdges_20 rfl (lv_at hl 1 rfl) ?_
    refine z_get (ci := 4) (C := R_X) (T := F_X) (N := 8) (v := .ref qp) hC in_X hK hP 0 rfl rfl 5 (by decide) k_103 rfl d_X_sharedEdges_21 ?_
    refine lv_iload_n hC.1 hC.2.1 d_X_sharedEdges_24 rfl (lv_at hl 3 rfl) ?_
    refine lv_iload_n hC.1 hC.2.1 d_X_sharedEdges_25 rfl (lv_at hl 2 rfl) ?_
    refine z_iconst hC d_X_sharedEdges_26 ?_
    refine z_roVi (As := [.int (iI m), .int (iI n), .int (iI 1)]) (rest := []) hC (c_Ha_cornerAt l D t ts qp qt qn z F m n 1 (by omega) (by omega) (by omega) hF) (cw_V hC k_329 k_330 k_331 k_5 k_332 ye_Ha_cornerAt (by decide)) hP hK hE hS [4, 6] rfl 4 (ci := 0) rfl rfl rfl rfl hl.1 rfl (Nat.le_of_ble_eq_true rfl) ⟨Nat.le_of_ble_eq_true rfl, Nat.le_of_ble_eq_true rfl⟩ d_X_sharedEdges_27 ?_
    refine z_iconst hC d_X_sharedEdges_30 ?_
    refine z_icmp_eq (tgt := 38) hC d_X_sharedEdges_31 (by decide) (by have := cAt_in F m n 1; omega) (by decide) (fun h31 => ?_) (fun h31 => ?_)
    · refine z_iconst hC d_X_sharedEdges_38 ?_
      refine lv_istore (lv' := [(4, .int (iI 0)), (3, .int (iI 0)), (0, .ref x), (1, .int (iI n)), (2, .int (iI m))]) hC.1 hC.2.1 d_X_sharedEdges_39 hl (by decide) rfl (fun ls hl => ?_)
      refine lv_aload_n hC.1 hC.2.1 d_X_sharedEdges_41 rfl (lv_at hl 2 rfl) ?_
      refine z_get (ci := 4) (C := R_X) (T := F_X) (N := 8) (v := .ref qp) hC in_X hK hP 0 rfl rfl 5 (by decide) k_103 rfl d_X_sharedEdges_42 ?_
      refine lv_iload_n hC.1 hC.2.1 d_X_sharedEdges_45 rfl (lv_at hl 4 rfl) ?_
      refine lv_iload_n hC.1 hC.2.1 d_X_sharedEdges_46 rfl (lv_at hl 3 rfl) ?_
      refine z_iconst hC d_X_sharedEdges_47 ?_
      refine z_roVi (As := [.int (iI m), .int (iI n), .int (iI 2)]) (rest := []) hC (c_Ha_cornerAt l D t ts qp qt qn z F m n 2 (by omega) (by omega) (by omega) hF) (cw_V hC k_329 k_330 k_331 k_5 k_332 ye_Ha_cornerAt (by decide)) hP hK hE hS [4, 6] rfl 4 (ci := 0) rfl rfl rfl rfl hl.1 rfl (Nat.le_of_ble_eq_true rfl) ⟨Nat.le_of_ble_eq_true rfl, Nat.le_of_ble_eq_true rfl⟩ d_X_sharedEdges_48 ?_
      refine z_iconst hC d_X_sharedEdges_51 ?_
      refine z_icmp_eq (tgt := 59) hC d_X_sharedEdges_52 (by decide) (by have := cAt_in F m n 2; omega) (by decide) (fun h52 => ?_) (fun h52 => ?_)
      · refine z_iconst hC d_X_sharedEdges_59 ?_
        refine lv_istore (lv' := [(5, .int (iI 0)), (4, .int (iI 0)), (3, .int (iI 0)), (0, .ref x), (1, .int (iI n)), (2, .int (iI m))]) hC.1 hC.2.1 d_X_sharedEdges_60 hl (by decide) rfl (fun ls hl => ?_)
        refine lv_iload_n hC.1 hC.2.1 d_X_sharedEdges_62 rfl (lv_at hl 2 rfl) ?_
        refine z_if_eq (tgt := 75) hC d_X_sharedEdges_63 (by decide) (by decide) (fun _ => ?_) (fun h => absurd h (by decide))
        refine z_iconst hC d_X_sharedEdges_75 ?_
        refine lv_iload_n hC.1 hC.2.1 d_X_sharedEdges_76 rfl (lv_at hl 2 rfl) ?_
        refine z_if_eq (tgt := 89) hC d_X_sharedEdges_77 (by decide) (by decide) (fun _ => ?_) (fun h => absurd h (by decide))
        refine z_iconst hC d_X_sharedEdges_89 ?_
        refine z_ior (z := 0) hC (by decide) d_X_sharedEdges_90 ?_
        refine lv_iload hC.1 hC.2.1 d_X_sharedEdges_91 (lv_at hl 1 rfl) ?_
        refine z_if_eq (tgt := 105) hC d_X_sharedEdges_93 (by decide) (by decide) (fun _ => ?_) (fun h => absurd h (by decide))
        refine z_iconst hC d_X_sharedEdges_105 ?_
        refine z_ior (z := 0) hC (by decide) d_X_sharedEdges_106 ?_
        exact retv 107 _ _ d_X_sharedEdges_107 (by unfold shA shB shC crn; simp [h11, h31, h52]; decide)
      · refine z_iconst hC d_X_sharedEdges_55 ?_
        refine z_goto (tgt := 60) hC d_X_sharedEdges_56 (by decide) ?_
        refine lv_istore (lv' := [(5, .int (iI 1)), (4, .int (iI 0)), (3, .int (iI 0)), (0, .ref x), (1, .int (iI n)), (2, .int (iI m))]) hC.1 hC.2.1 d_X_sharedEdges_60 hl (by decide) rfl (fun ls hl => ?_)
        refine lv_iload_n hC.1 hC.2.1 d_X_sharedEdges_62 rfl (lv_at hl 2 rfl) ?_
        refine z_if_eq (tgt := 75) hC d_X_sharedEdges_63 (by decide) (by decide) (fun _ => ?_) (fun h => absurd h (by decide))
        refine z_iconst hC d_X_sharedEdges_75 ?_
        refine lv_iload_n hC.1 hC.2.1 d_X_sharedEdges_76 rfl (lv_at hl 2 rfl) ?_
        refine z_if_eq (tgt := 89) hC d_X_sharedEdges_77 (by decide) (by decide) (fun _ => ?_) (fun h => absurd h (by decide))
        refine z_iconst hC d_X_sharedEdges_89 ?_
        refine z_ior (z := 0) hC (by decide) d_X_sharedEdges_90 ?_
        refine lv_iload hC.1 hC.2.1 d_X_sharedEdges_91 (lv_at hl 1 rfl) ?_
        refine z_if_eq (tgt := 105) hC d_X_sharedEdges_93 (by decide) (by decide) (fun _ => ?_) (fun h => absurd h (by decide))
        refine z_iconst hC d_X_sharedEdges_105 ?_
        refine z_ior (z := 0) hC (by decide) d_X_sharedEdges_106 ?_
        exact retv 107 _ _ d_X_sharedEdges_107 (by unfold shA shB shC crn; simp [h11, h31, h52]; decide)
    · refine z_iconst hC d_X_sharedEdges_34 ?_
      refine z_goto (tgt := 39) hC d_X_sharedEdges_35 (by decide) ?_
      refine lv_istore (lv' := [(4, .int (iI 1)), (3, .int (iI 0)), (0, .ref x), (1, .int (iI n)), (2, .int (iI m))]) hC.1 hC.2.1 d_X_sharedEdges_39 hl (by decide) rfl (fun ls hl => ?_)
      refine lv_aload_n hC.1 hC.2.1 d_X_sharedEdges_41 rfl (lv_at hl 2 rfl) ?_
      refine z_get (ci := 4) (C := R_X) (T := F_X) (N := 8) (v := .ref qp) hC in_X hK hP 0 rfl rfl 5 (by decide) k_103 rfl d_X_sharedEdges_42 ?_
      refine lv_iload_n hC.1 hC.2.1 d_X_sharedEdges_45 rfl (lv_at hl 4 rfl) ?_
      refine lv_iload_n hC.1 hC.2.1 d_X_sharedEdges_46 rfl (lv_at hl 3 rfl) ?_
      refine z_iconst hC d_X_sharedEdges_47 ?_
      refine z_roVi (As := [.int (iI m), .int (iI n), .int (iI 2)]) (rest := []) hC (c_Ha_cornerAt l D t ts qp qt qn z F m n 2 (by omega) (by omega) (by omega) hF) (cw_V hC k_329 k_330 k_331 k_5 k_332 ye_Ha_cornerAt (by decide)) hP hK hE hS [4, 6] rfl 4 (ci := 0) rfl rfl rfl rfl hl.1 rfl (Nat.le_of_ble_eq_true rfl) ⟨Nat.le_of_ble_eq_true rfl, Nat.le_of_ble_eq_true rfl⟩ d_X_sharedEdges_48 ?_
      refine z_iconst hC d_X_sharedEdges_51 ?_
      refine z_icmp_eq (tgt := 59) hC d_X_sharedEdges_52 (by decide) (by have := cAt_in F m n 2; omega) (by decide) (fun h52 => ?_) (fun h52 => ?_)
      · refine z_iconst hC d_X_sharedEdges_59 ?_
        refine lv_istore (lv' := [(5, .int (iI 0)), (4, .int (iI 1)), (3, .int (iI 0)), (0, .ref x), (1, .int (iI n)), (2, .int (iI m))]) hC.1 hC.2.1 d_X_sharedEdges_60 hl (by decide) rfl (fun ls hl => ?_)
        refine lv_iload_n hC.1 hC.2.1 d_X_sharedEdges_62 rfl (lv_at hl 2 rfl) ?_
        refine z_if_eq (tgt := 75) hC d_X_sharedEdges_63 (by decide) (by decide) (fun _ => ?_) (fun h => absurd h (by decide))
        refine z_iconst hC d_X_sharedEdges_75 ?_
        refine lv_iload_n hC.1 hC.2.1 d_X_sharedEdges_76 rfl (lv_at hl 2 rfl) ?_
        refine z_if_eq (tgt := 89) hC d_X_sharedEdges_77 (by decide) (by decide) (fun _ => ?_) (fun h => absurd h (by decide))
        refine z_iconst hC d_X_sharedEdges_89 ?_
        refine z_ior (z := 0) hC (by decide) d_X_sharedEdges_90 ?_
        refine lv_iload hC.1 hC.2.1 d_X_sharedEdges_91 (lv_at hl 1 rfl) ?_
        refine z_if_eq (tgt := 105) hC d_X_sharedEdges_93 (by decide) (by decide) (fun h => absurd h (by decide)) (fun _ => ?_)
        refine lv_iload hC.1 hC.2.1 d_X_sharedEdges_96 (lv_at hl 0 rfl) ?_
        refine z_if_eq (tgt := 105) hC d_X_sharedEdges_98 (by decide) (by decide) (fun _ => ?_) (fun h => absurd h (by decide))
        refine z_iconst hC d_X_sharedEdges_105 ?_
        refine z_ior (z := 0) hC (by decide) d_X_sharedEdges_106 ?_
        exact retv 107 _ _ d_X_sharedEdges_107 (by unfold shA shB shC crn; simp [h11, h31, h52]; decide)
      · refine z_iconst hC d_X_sharedEdges_55 ?_
        refine z_goto (tgt := 60) hC d_X_sharedEdges_56 (by decide) ?_
        refine lv_istore (lv' := [(5, .int (iI 1)), (4, .int (iI 1)), (3, .int (iI 0)), (0, .ref x), (1, .int (iI n)), (2, .int (iI m))]) hC.1 hC.2.1 d_X_sharedEdges_60 hl (by decide) rfl (fun ls hl => ?_)
        refine lv_iload_n hC.1 hC.2.1 d_X_sharedEdges_62 rfl (lv_at hl 2 rfl) ?_
        refine z_if_eq (tgt := 75) hC d_X_sharedEdges_63 (by decide) (by decide) (fun _ => ?_) (fun h => absurd h (by decide))
        refine z_iconst hC d_X_sharedEdges_75 ?_
        refine lv_iload_n hC.1 hC.2.1 d_X_sharedEdges_76 rfl (lv_at hl 2 rfl) ?_
        refine z_if_eq (tgt := 89) hC d_X_sharedEdges_77 (by decide) (by decide) (fun _ => ?_) (fun h => absurd h (by decide))
        refine z_iconst hC d_X_sharedEdges_89 ?_
        refine z_ior (z := 0) hC (by decide) d_X_sharedEdges_90 ?_
        refine lv_iload hC.1 hC.2.1 d_X_sharedEdges_91 (lv_at hl 1 rfl) ?_
        refine z_if_eq (tgt := 105) hC d_X_sharedEdges_93 (by decide) (by decide) (fun h => absurd h (by decide)) (fun _ => ?_)
        refine lv_iload hC.1 hC.2.1 d_X_sharedEdges_96 (lv_at hl 0 rfl) ?_
        refine z_if_eq (tgt := 105) hC d_X_sharedEdges_98 (by decide) (by decide) (fun h => absurd h (by decide)) (fun _ => ?_)
        refine z_iconst hC d_X_sharedEdges_101 ?_
        refine z_goto (tgt := 106) hC d_X_sharedEdges_102 (by decide) ?_
        refine z_ior (z := 4) hC (by decide) d_X_sharedEdges_106 ?_
        exact retv 107 _ _ d_X_sharedEdges_107 (by unfold shA shB shC crn; simp [h11, h31, h52]; decide)
  · refine z_iconst hC d_X_sharedEdges_14 ?_
    refine z_goto (tgt := 19) hC d_X_sharedEdges_15 (by decide) ?_
    refine lv_istore_n (lv' := [(3, .int (iI 1)), (0, .ref x), (1, .int (iI n)), (2, .int (iI m))]) hC.1 hC.2.1 d_X_sharedEdges_19 rfl hl (by decide) rfl (fun ls hl => ?_)
    refine lv_aload_n hC.1 hC.2.1 d_X_sharedEdges_20 rfl (lv_at hl 1 rfl) ?_
    refine z_get (ci := 4) (C := R_X) (T := F_X) (N := 8) (v := .ref qp) hC in_X hK hP 0 rfl rfl 5 (by decide) k_103 rfl d_X_sharedEdges_21 ?_
    refine lv_iload_n hC.1 hC.2.1 d_X_sharedEdges_24 rfl (lv_at hl 3 rfl) ?_
    refine lv_iload_n hC.1 hC.2.1 d_X_sharedEdges_25 rfl (lv_at hl 2 rfl) ?_
    refine z_iconst hC d_X_sharedEdges_26 ?_
    refine z_roVi (As := [.int (iI m), .int (iI n), .int (iI 1)]) (rest := []) hC (c_Ha_cornerAt l D t ts qp qt qn z F m n 1 (by omega) (by omega) (by omega) hF) (cw_V hC k_329 k_330 k_331 k_5 k_332 ye_Ha_cornerAt (by decide)) hP hK hE hS [4, 6] rfl 4 (ci := 0) rfl rfl rfl rfl hl.1 rfl (Nat.le_of_ble_eq_true rfl) ⟨Nat.le_of_ble_eq_true rfl, Nat.le_of_ble_eq_true rfl⟩ d_X_sharedEdges_27 ?_
    refine z_iconst hC d_X_sharedEdges_30 ?_
    refine z_icmp_eq (tgt := 38) hC d_X_sharedEdges_31 (by decide) (by have := cAt_in F m n 1; omega) (by decide) (fun h31 => ?_) (fun h31 => ?_)
    · refine z_iconst hC d_X_sharedEdges_38 ?_
      refine lv_istore (lv' := [(4, .int (iI 0)), (3, .int (iI 1)), (0, .ref x), (1, .int (iI n)), (2, .int (iI m))]) hC.1 hC.2.1 d_X_sharedEdges_39 hl (by decide) rfl (fun ls hl => ?_)
      refine lv_aload_n hC.1 hC.2.1 d_X_sharedEdges_41 rfl (lv_at hl 2 rfl) ?_
      refine z_get (ci := 4) (C := R_X) (T := F_X) (N := 8) (v := .ref qp) hC in_X hK hP 0 rfl rfl 5 (by decide) k_103 rfl d_X_sharedEdges_42 ?_
      refine lv_iload_n hC.1 hC.2.1 d_X_sharedEdges_45 rfl (lv_at hl 4 rfl) ?_
      refine lv_iload_n hC.1 hC.2.1 d_X_sharedEdges_46 rfl (lv_at hl 3 rfl) ?_
      refine z_iconst hC d_X_sharedEdges_47 ?_
      refine z_roVi (As := [.int (iI m), .int (iI n), .int (iI 2)]) (rest := []) hC (c_Ha_cornerAt l D t ts qp qt qn z F m n 2 (by omega) (by omega) (by omega) hF) (cw_V hC k_329 k_330 k_331 k_5 k_332 ye_Ha_cornerAt (by decide)) hP hK hE hS [4, 6] rfl 4 (ci := 0) rfl rfl rfl rfl hl.1 rfl (Nat.le_of_ble_eq_true rfl) ⟨Nat.le_of_ble_eq_true rfl, Nat.le_of_ble_eq_true rfl⟩ d_X_sharedEdges_48 ?_
      refine z_iconst hC d_X_sharedEdges_51 ?_
      refine z_icmp_eq (tgt := 59) hC d_X_sharedEdges_52 (by decide) (by have := cAt_in F m n 2; omega) (by decide) (fun h52 => ?_) (fun h52 => ?_)
      · refine z_iconst hC d_X_sharedEdges_59 ?_
        refine lv_istore (lv' := [(5, .int (iI 0)), (4, .int (iI 0)), (3, .int (iI 1)), (0, .ref x), (1, .int (iI n)), (2, .int (iI m))]) hC.1 hC.2.1 d_X_sharedEdges_60 hl (by decide) rfl (fun ls hl => ?_)
        refine lv_iload_n hC.1 hC.2.1 d_X_sharedEdges_62 rfl (lv_at hl 2 rfl) ?_
        refine z_if_eq (tgt := 75) hC d_X_sharedEdges_63 (by decide) (by decide) (fun h => absurd h (by decide)) (fun _ => ?_)
        refine lv_iload hC.1 hC.2.1 d_X_sharedEdges_66 (lv_at hl 1 rfl) ?_
        refine z_if_eq (tgt := 75) hC d_X_sharedEdges_68 (by decide) (by decide) (fun _ => ?_) (fun h => absurd h (by decide))
        refine z_iconst hC d_X_sharedEdges_75 ?_
        refine lv_iload_n hC.1 hC.2.1 d_X_sharedEdges_76 rfl (lv_at hl 2 rfl) ?_
        refine z_if_eq (tgt := 89) hC d_X_sharedEdges_77 (by decide) (by decide) (fun h => absurd h (by decide)) (fun _ => ?_)
        refine lv_iload hC.1 hC.2.1 d_X_sharedEdges_80 (lv_at hl 0 rfl) ?_
        refine z_if_eq (tgt := 89) hC d_X_sharedEdges_82 (by decide) (by decide) (fun _ => ?_) (fun h => absurd h (by decide))
        refine z_iconst hC d_X_sharedEdges_89 ?_
        refine z_ior (z := 0) hC (by decide) d_X_sharedEdges_90 ?_
        refine lv_iload hC.1 hC.2.1 d_X_sharedEdges_91 (lv_at hl 1 rfl) ?_
        refine z_if_eq (tgt := 105) hC d_X_sharedEdges_93 (by decide) (by decide) (fun _ => ?_) (fun h => absurd h (by decide))
        refine z_iconst hC d_X_sharedEdges_105 ?_
        refine z_ior (z := 0) hC (by decide) d_X_sharedEdges_106 ?_
        exact retv 107 _ _ d_X_sharedEdges_107 (by unfold shA shB shC crn; simp [h11, h31, h52]; decide)
      · refine z_iconst hC d_X_sharedEdges_55 ?_
        refine z_goto (tgt := 60) hC d_X_sharedEdges_56 (by decide) ?_
        refine lv_istore (lv' := [(5, .int (iI 1)), (4, .int (iI 0)), (3, .int (iI 1)), (0, .ref x), (1, .int (iI n)), (2, .int (iI m))]) hC.1 hC.2.1 d_X_sharedEdges_60 hl (by decide) rfl (fun ls hl => ?_)
        refine lv_iload_n hC.1 hC.2.1 d_X_sharedEdges_62 rfl (lv_at hl 2 rfl) ?_
        refine z_if_eq (tgt := 75) hC d_X_sharedEdges_63 (by decide) (by decide) (fun h => absurd h (by decide)) (fun _ => ?_)
        refine lv_iload hC.1 hC.2.1 d_X_sharedEdges_66 (lv_at hl 1 rfl) ?_
        refine z_if_eq (tgt := 75) hC d_X_sharedEdges_68 (by decide) (by decide) (fun _ => ?_) (fun h => absurd h (by decide))
        refine z_iconst hC d_X_sharedEdges_75 ?_
        refine lv_iload_n hC.1 hC.2.1 d_X_sharedEdges_76 rfl (lv_at hl 2 rfl) ?_
        refine z_if_eq (tgt := 89) hC d_X_sharedEdges_77 (by decide) (by decide) (fun h => absurd h (by decide)) (fun _ => ?_)
        refine lv_iload hC.1 hC.2.1 d_X_sharedEdges_80 (lv_at hl 0 rfl) ?_
        refine z_if_eq (tgt := 89) hC d_X_sharedEdges_82 (by decide) (by decide) (fun h => absurd h (by decide)) (fun _ => ?_)
        refine z_iconst hC d_X_sharedEdges_85 ?_
        refine z_goto (tgt := 90) hC d_X_sharedEdges_86 (by decide) ?_
        refine z_ior (z := 2) hC (by decide) d_X_sharedEdges_90 ?_
        refine lv_iload hC.1 hC.2.1 d_X_sharedEdges_91 (lv_at hl 1 rfl) ?_
        refine z_if_eq (tgt := 105) hC d_X_sharedEdges_93 (by decide) (by decide) (fun _ => ?_) (fun h => absurd h (by decide))
        refine z_iconst hC d_X_sharedEdges_105 ?_
        refine z_ior (z := 2) hC (by decide) d_X_sharedEdges_106 ?_
        exact retv 107 _ _ d_X_sharedEdges_107 (by unfold shA shB shC crn; simp [h11, h31, h52]; decide)
    · refine z_iconst hC d_X_sharedEdges_34 ?_
      refine z_goto (tgt := 39) hC d_X_sharedEdges_35 (by decide) ?_
      refine lv_istore (lv' := [(4, .int (iI 1)), (3, .int (iI 1)), (0, .ref x), (1, .int (iI n)), (2, .int (iI m))]) hC.1 hC.2.1 d_X_sharedEdges_39 hl (by decide) rfl (fun ls hl => ?_)
      refine lv_aload_n hC.1 hC.2.1 d_X_sharedEdges_41 rfl (lv_at hl 2 rfl) ?_
      refine z_get (ci := 4) (C := R_X) (T := F_X) (N := 8) (v := .ref qp) hC in_X hK hP 0 rfl rfl 5 (by decide) k_103 rfl d_X_sharedEdges_42 ?_
      refine lv_iload_n hC.1 hC.2.1 d_X_sharedEdges_45 rfl (lv_at hl 4 rfl) ?_
      refine lv_iload_n hC.1 hC.2.1 d_X_sharedEdges_46 rfl (lv_at hl 3 rfl) ?_
      refine z_iconst hC d_X_sharedEdges_47 ?_
      refine z_roVi (As := [.int (iI m), .int (iI n), .int (iI 2)]) (rest := []) hC (c_Ha_cornerAt l D t ts qp qt qn z F m n 2 (by omega) (by omega) (by omega) hF) (cw_V hC k_329 k_330 k_331 k_5 k_332 ye_Ha_cornerAt (by decide)) hP hK hE hS [4, 6] rfl 4 (ci := 0) rfl rfl rfl rfl hl.1 rfl (Nat.le_of_ble_eq_true rfl) ⟨Nat.le_of_ble_eq_true rfl, Nat.le_of_ble_eq_true rfl⟩ d_X_sharedEdges_48 ?_
      refine z_iconst hC d_X_sharedEdges_51 ?_
      refine z_icmp_eq (tgt := 59) hC d_X_sharedEdges_52 (by decide) (by have := cAt_in F m n 2; omega) (by decide) (fun h52 => ?_) (fun h52 => ?_)
      · refine z_iconst hC d_X_sharedEdges_59 ?_
        refine lv_istore (lv' := [(5, .int (iI 0)), (4, .int (iI 1)), (3, .int (iI 1)), (0, .ref x), (1, .int (iI n)), (2, .int (iI m))]) hC.1 hC.2.1 d_X_sharedEdges_60 hl (by decide) rfl (fun ls hl => ?_)
        refine lv_iload_n hC.1 hC.2.1 d_X_sharedEdges_62 rfl (lv_at hl 2 rfl) ?_
        refine z_if_eq (tgt := 75) hC d_X_sharedEdges_63 (by decide) (by decide) (fun h => absurd h (by decide)) (fun _ => ?_)
        refine lv_iload hC.1 hC.2.1 d_X_sharedEdges_66 (lv_at hl 1 rfl) ?_
        refine z_if_eq (tgt := 75) hC d_X_sharedEdges_68 (by decide) (by decide) (fun h => absurd h (by decide)) (fun _ => ?_)
        refine z_iconst hC d_X_sharedEdges_71 ?_
        refine z_goto (tgt := 76) hC d_X_sharedEdges_72 (by decide) ?_
        refine lv_iload_n hC.1 hC.2.1 d_X_sharedEdges_76 rfl (lv_at hl 2 rfl) ?_
        refine z_if_eq (tgt := 89) hC d_X_sharedEdges_77 (by decide) (by decide) (fun h => absurd h (by decide)) (fun _ => ?_)
        refine lv_iload hC.1 hC.2.1 d_X_sharedEdges_80 (lv_at hl 0 rfl) ?_
        refine z_if_eq (tgt := 89) hC d_X_sharedEdges_82 (by decide) (by decide) (fun _ => ?_) (fun h => absurd h (by decide))
        refine z_iconst hC d_X_sharedEdges_89 ?_
        refine z_ior (z := 1) hC (by decide) d_X_sharedEdges_90 ?_
        refine lv_iload hC.1 hC.2.1 d_X_sharedEdges_91 (lv_at hl 1 rfl) ?_
        refine z_if_eq (tgt := 105) hC d_X_sharedEdges_93 (by decide) (by decide) (fun h => absurd h (by decide)) (fun _ => ?_)
        refine lv_iload hC.1 hC.2.1 d_X_sharedEdges_96 (lv_at hl 0 rfl) ?_
        refine z_if_eq (tgt := 105) hC d_X_sharedEdges_98 (by decide) (by decide) (fun _ => ?_) (fun h => absurd h (by decide))
        refine z_iconst hC d_X_sharedEdges_105 ?_
        refine z_ior (z := 1) hC (by decide) d_X_sharedEdges_106 ?_
        exact retv 107 _ _ d_X_sharedEdges_107 (by unfold shA shB shC crn; simp [h11, h31, h52]; decide)
      · refine z_iconst hC d_X_sharedEdges_55 ?_
        refine z_goto (tgt := 60) hC d_X_sharedEdges_56 (by decide) ?_
        refine lv_istore (lv' := [(5, .int (iI 1)), (4, .int (iI 1)), (3, .int (iI 1)), (0, .ref x), (1, .int (iI n)), (2, .int (iI m))]) hC.1 hC.2.1 d_X_sharedEdges_60 hl (by decide) rfl (fun ls hl => ?_)
        refine lv_iload_n hC.1 hC.2.1 d_X_sharedEdges_62 rfl (lv_at hl 2 rfl) ?_
        refine z_if_eq (tgt := 75) hC d_X_sharedEdges_63 (by decide) (by decide) (fun h => absurd h (by decide)) (fun _ => ?_)
        refine lv_iload hC.1 hC.2.1 d_X_sharedEdges_66 (lv_at hl 1 rfl) ?_
        refine z_if_eq (tgt := 75) hC d_X_sharedEdges_68 (by decide) (by decide) (fun h => absurd h (by decide)) (fun _ => ?_)
        refine z_iconst hC d_X_sharedEdges_71 ?_
        refine z_goto (tgt := 76) hC d_X_sharedEdges_72 (by decide) ?_
        refine lv_iload_n hC.1 hC.2.1 d_X_sharedEdges_76 rfl (lv_at hl 2 rfl) ?_
        refine z_if_eq (tgt := 89) hC d_X_sharedEdges_77 (by decide) (by decide) (fun h => absurd h (by decide)) (fun _ => ?_)
        refine lv_iload hC.1 hC.2.1 d_X_sharedEdges_80 (lv_at hl 0 rfl) ?_
        refine z_if_eq (tgt := 89) hC d_X_sharedEdges_82 (by decide) (by decide) (fun h => absurd h (by decide)) (fun _ => ?_)
        refine z_iconst hC d_X_sharedEdges_85 ?_
        refine z_goto (tgt := 90) hC d_X_sharedEdges_86 (by decide) ?_
        refine z_ior (z := 3) hC (by decide) d_X_sharedEdges_90 ?_
        refine lv_iload hC.1 hC.2.1 d_X_sharedEdges_91 (lv_at hl 1 rfl) ?_
        refine z_if_eq (tgt := 105) hC d_X_sharedEdges_93 (by decide) (by decide) (fun h => absurd h (by decide)) (fun _ => ?_)
        refine lv_iload hC.1 hC.2.1 d_X_sharedEdges_96 (lv_at hl 0 rfl) ?_
        refine z_if_eq (tgt := 105) hC d_X_sharedEdges_98 (by decide) (by decide) (fun h => absurd h (by decide)) (fun _ => ?_)
        refine z_iconst hC d_X_sharedEdges_101 ?_
        refine z_goto (tgt := 106) hC d_X_sharedEdges_102 (by decide) ?_
        refine z_ior (z := 7) hC (by decide) d_X_sharedEdges_106 ?_
        exact retv 107 _ _ d_X_sharedEdges_107 (by unfold shA shB shC crn; simp [h11, h31, h52]; decide)
