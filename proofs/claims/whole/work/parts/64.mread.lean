theorem ye_Mo_isCorner : ye y_Mo_isCorner R_Mo 2 := by unfold ye; decide +kernel
abbrev rm_Mo_isCorner : Room := { frames := 0, cells := 0, slots := 0, locals := 0 }
set_option maxHeartbeats 4000000 in
set_option maxRecDepth 100000 in
theorem c_Mo_isCorner (l : Launch) (D : va_G) (t : vt) (ts : Nat → Nat) (o qT qC qF qY qZ qu qv qw qg qh qx qc qa qb qd qp qq : Nat) (cd z lv fm : Int) (n c : Int) (hz : 0 ≤ z ∧ z ≤ 400) (hn : inI n) (hc : inI c) : Met l y_Mo_isCorner (.code y_Mo_isCorner b_Mo_isCorner 3 (some .boolean) :: tb_ws) rm_Mo_isCorner (RoP D t ts [.ref o, .int (iI n), .int (iI c)] [(o, .inr (5, [.int (iI cd), .int (iI z), .int (iI lv), .ref qT, .ref qC, .ref qF, .ref qY, .ref qZ, .ref qu, .ref qv, .ref qw, .ref qg, .ref qh, .ref qx, .ref qc, .ref qa, .ref qb, .ref qd, .int (iI fm), .ref qp, .ref qq]))]) (vp_Si (fun zr => zr = iI (zB (hasZ z n c)))) 0 0 (fun _ => False) := by
  refine ro_z (by decide +kernel) (Nat.le_of_ble_eq_true rfl) ?_
  intro zp ze zs zm zb zt zc zQ ls hC hP hK hE hl ret
  have hS : va_S (fun _ => False) zs.heap zs.heap [] := va_S.rf
  have hl : lv_has ls 3 [(0, .ref o), (1, .int (iI n)), (2, .int (iI c))] := hl
  have ret1 : ∀ (pc : Nat) (ls : Array Slot), decode b_Mo_isCorner pc = .ok (.ireturn, 1) → (hasZ z n c) = true → W zp l ze rm_Mo_isCorner zs zm [.ref o, .int (iI n), .int (iI c)].toArray zb zt zc zs.heap [] 0 0 zQ (F0 zm pc ls [.int (iI 1)]) := fun pc ls d h => by have r := ret pc ls d; rw [h] at r; exact r
  have ret0 : ∀ (pc : Nat) (ls : Array Slot), decode b_Mo_isCorner pc = .ok (.ireturn, 1) → (hasZ z n c) = false → W zp l ze rm_Mo_isCorner zs zm [.ref o, .int (iI n), .int (iI c)].toArray zb zt zc zs.heap [] 0 0 zQ (F0 zm pc ls [.int (iI 0)]) := fun pc ls d h => by have r := ret pc ls d; rw [h] at r; exact r
  have retb : ∀ (pc : Nat) (ls : Array Slot), decode b_Mo_isCorner pc = .ok (.ireturn, 1) → ∀ zv : Bool, zv = (hasZ z n c) → W zp l ze rm_Mo_isCorner zs zm [.ref o, .int (iI n), .int (iI c)].toArray zb zt zc zs.heap [] 0 0 zQ (F0 zm pc ls [.int (iI (zB zv))]) := fun pc ls d b h => by rw [h]; exact ret pc ls d
  refine lv_iload_n hC.1 hC.2.1 d_Mo_isCorner_0 rfl (lv_at hl 1 rfl) ?_
  refine z_if_lt (tgt := 25) hC d_Mo_isCorner_1 (by decide) (by omega) (fun h1 => ?_) (fun h1 => ?_)
  · refine z_iconst hC d_Mo_isCorner_25 ?_
    exact ret0 26 _ d_Mo_isCorner_26 (by unfold hasZ; simp; omega)
  · refine lv_iload_n hC.1 hC.2.1 d_Mo_isCorner_4 rfl (lv_at hl 1 rfl) ?_
    refine lv_aload_n hC.1 hC.2.1 d_Mo_isCorner_5 rfl (lv_at hl 0 rfl) ?_
    refine z_get (ci := 5) (C := R_Mo) (T := F_Mo) (N := 21) (v := .int (iI z)) hC in_Mo hK hP 0 rfl rfl 1 (by decide) k_454 rfl d_Mo_isCorner_6 ?_
    refine z_icmp_ge (tgt := 25) hC d_Mo_isCorner_9 (by decide) (by omega) (by omega) (fun h9 => ?_) (fun h9 => ?_)
    · refine z_iconst hC d_Mo_isCorner_25 ?_
      exact ret0 26 _ d_Mo_isCorner_26 (by unfold hasZ; simp; omega)
    · refine lv_iload_n hC.1 hC.2.1 d_Mo_isCorner_12 rfl (lv_at hl 2 rfl) ?_
      refine z_if_lt (tgt := 25) hC d_Mo_isCorner_13 (by decide) (by omega) (fun h13 => ?_) (fun h13 => ?_)
      · refine z_iconst hC d_Mo_isCorner_25 ?_
        exact ret0 26 _ d_Mo_isCorner_26 (by unfold hasZ; simp; omega)
      · refine lv_iload_n hC.1 hC.2.1 d_Mo_isCorner_16 rfl (lv_at hl 2 rfl) ?_
        refine z_iconst hC d_Mo_isCorner_17 ?_
        refine z_icmp_ge (tgt := 25) hC d_Mo_isCorner_18 (by decide) (by omega) (by decide) (fun h18 => ?_) (fun h18 => ?_)
        · refine z_iconst hC d_Mo_isCorner_25 ?_
          exact ret0 26 _ d_Mo_isCorner_26 (by unfold hasZ; simp; omega)
        · refine z_iconst hC d_Mo_isCorner_21 ?_
          refine z_goto (tgt := 26) hC d_Mo_isCorner_22 (by decide) ?_
          exact ret1 26 _ d_Mo_isCorner_26 (by unfold hasZ; simp; omega)
theorem ye_Mo_end : ye y_Mo_end R_Mo 2 := by unfold ye; decide +kernel
abbrev rm_Mo_end : Room := { frames := 0, cells := 0, slots := 0, locals := 0 }
set_option maxHeartbeats 4000000 in
set_option maxRecDepth 100000 in
theorem c_Mo_end (l : Launch) (D : va_G) (t : vt) (ts : Nat → Nat) (e w : Int) (he : 0 ≤ e ∧ e ≤ 2) (hw : 0 ≤ w ∧ w ≤ 1) : Met l y_Mo_end (.code y_Mo_end b_Mo_end 2 (some .int) :: tb_ws) rm_Mo_end (RoP D t ts [.int (iI e), .int (iI w)] []) (vp_Si (fun zr => zr = iI (enZ e w))) 0 0 (fun _ => False) := by
  refine ro_i (by decide +kernel) (Nat.le_of_ble_eq_true rfl) ?_
  intro zp ze zs zm zb zt zc zQ ls hC hP hK hE hl ret
  have hS : va_S (fun _ => False) zs.heap zs.heap [] := va_S.rf
  have hl : lv_has ls 2 [(0, .int (iI e)), (1, .int (iI w))] := hl
  have retv : ∀ (pc : Nat) (ls : Array Slot) (zv : Int), decode b_Mo_end pc = .ok (.ireturn, 1) → zv = (enZ e w) → W zp l ze rm_Mo_end zs zm [.int (iI e), .int (iI w)].toArray zb zt zc zs.heap [] 0 0 zQ (F0 zm pc ls [.int (iI zv)]) := fun pc ls v d h => by rw [h]; exact ret pc ls d
  refine lv_iload_n hC.1 hC.2.1 d_Mo_end_0 rfl (lv_at hl 0 rfl) ?_
  refine z_if_ne (tgt := 8) hC d_Mo_end_1 (by decide) (by omega) (fun h1 => ?_) (fun h1 => ?_)
  · refine lv_iload_n hC.1 hC.2.1 d_Mo_end_8 rfl (lv_at hl 0 rfl) ?_
    refine z_iconst hC d_Mo_end_9 ?_
    refine z_icmp_ne (tgt := 19) hC d_Mo_end_10 (by decide) (by omega) (by decide) (fun h10 => ?_) (fun h10 => ?_)
    · refine z_iconst hC d_Mo_end_19 ?_
      refine lv_iload_n hC.1 hC.2.1 d_Mo_end_20 rfl (lv_at hl 1 rfl) ?_
      refine z_iadd hC d_Mo_end_21 ?_
      refine z_topi (z := w + 1) (by omega) ?_
      exact retv 22 _ _ d_Mo_end_22 (by unfold enZ; (repeat' split) <;> omega)
    · refine z_iconst hC d_Mo_end_13 ?_
      refine lv_iload_n hC.1 hC.2.1 d_Mo_end_14 rfl (lv_at hl 1 rfl) ?_
      refine z_imul hC d_Mo_end_15 ?_
      refine z_goto (tgt := 22) hC d_Mo_end_16 (by decide) ?_
      exact retv 22 _ _ d_Mo_end_22 (by unfold enZ; (repeat' split) <;> omega)
  · refine lv_iload_n hC.1 hC.2.1 d_Mo_end_4 rfl (lv_at hl 1 rfl) ?_
    refine z_goto (tgt := 22) hC d_Mo_end_5 (by decide) ?_
    exact retv 22 _ _ d_Mo_end_22 (by unfold enZ; (repeat' split) <;> omega)
theorem ye_Mo_hasEdge : ye y_Mo_hasEdge R_Mo 3 := by unfold ye; decide +kernel
abbrev rm_Mo_hasEdge : Room := { frames := 1, cells := 0, slots := 0, locals := 23 }
set_option maxHeartbeats 4000000 in
set_option maxRecDepth 100000 in
theorem c_Mo_hasEdge (l : Launch) (D : va_G) (t : vt) (ts : Nat → Nat) (o qT qC qF qY qZ qu qv qw qg qh qx qc qa qb qd qp qq : Nat) (cd z lv fm : Int) (F : Int → Int) (o2 i1 i2 : Int) (ho : 0 ≤ o2 ∧ o2 < 1200) (hi1 : 0 ≤ i1 ∧ i1 + 3 < 14400) (hi2 : 0 ≤ i2 ∧ i2 + 3 < 14400) (hF : bF F) : Met l y_Mo_hasEdge (.code y_Mo_hasEdge b_Mo_hasEdge 7 (some .boolean) :: tb_ws) rm_Mo_hasEdge (RoP D t ts [.ref o, .int (iI o2), .int (iI i1), .int (iI i2)] [(o, .inr (5, [.int (iI cd), .int (iI z), .int (iI lv), .ref qT, .ref qC, .ref qF, .ref qY, .ref qZ, .ref qu, .ref qv, .ref qw, .ref qg, .ref qh, .ref qx, .ref qc, .ref qa, .ref qb, .ref qd, .int (iI fm), .ref qp, .ref qq])), (qC, eI t.1 14400 F)]) (vp_Si (fun zr => zr = iI (zB (heZ F o2 i1 i2)))) 0 0 (fun _ => False) := by
  refine ro_z (by decide +kernel) (Nat.le_of_ble_eq_true rfl) ?_
  intro zp ze zs zm zb zt zc zQ ls hC hP hK hE hl ret
  have hS : va_S (fun _ => False) zs.heap zs.heap [] := va_S.rf
  have hl : lv_has ls 7 [(0, .ref o), (1, .int (iI o2)), (2, .int (iI i1)), (3, .int (iI i2))] := hl
  have ret1 : ∀ (pc : Nat) (ls : Array Slot), decode b_Mo_hasEdge pc = .ok (.ireturn, 1) → (heZ F o2 i1 i2) = true → W zp l ze rm_Mo_hasEdge zs zm [.ref o, .int (iI o2), .int (iI i1), .int (iI i2)].toArray zb zt zc zs.heap [] 0 0 zQ (F0 zm pc ls [.int (iI 1)]) := fun pc ls d h => by have r := ret pc ls d; rw [h] at r; exact r
  have ret0 : ∀ (pc : Nat) (ls : Array Slot), decode b_Mo_hasEdge pc = .ok (.ireturn, 1) → (heZ F o2 i1 i2) = false → W zp l ze rm_Mo_hasEdge zs zm [.ref o, .int (iI o2), .int (iI i1), .int (iI i2)].toArray zb zt zc zs.heap [] 0 0 zQ (F0 zm pc ls [.int (iI 0)]) := fun pc ls d h => by have r := ret pc ls d; rw [h] at r; exact r
  have retb : ∀ (pc : Nat) (ls : Array Slot), decode b_Mo_hasEdge pc = .ok (.ireturn, 1) → ∀ zv : Bool, zv = (heZ F o2 i1 i2) → W zp l ze rm_Mo_hasEdge zs zm [.ref o, .int (iI o2), .int (iI i1), .int (iI i2)].toArray zb zt zc zs.heap [] 0 0 zQ (F0 zm pc ls [.int (iI (zB zv))]) := fun pc ls d b h => by rw [h]; exact ret pc ls d
  refine z_iconst hC d_Mo_hasEdge_0 ?_
  refine lv_istore (lv' := [(4, .int (iI 0)), (0, .ref o), (1, .int (iI o2)), (2, .int (iI i1)), (3, .int (iI i2))]) hC.1 hC.2.1 d_Mo_hasEdge_1 hl (by decide) rfl (fun ls hl => ?_)
  have L3 : ∀ (fu : Nat) (f : Int) (ls : Array Slot), 3 - f + 1 ≤ (fu : Int) → (0 ≤ f ∧ f ≤ 3) → (∀ j, 0 ≤ j → j < f → hef F o2 i1 i2 j = false) → lv_has ls 7 [(4, .int (iI f)), (0, .ref o), (1, .int (iI o2)), (2, .int (iI i1)), (3, .int (iI i2))] → W zp l ze rm_Mo_hasEdge zs zm [.ref o, .int (iI o2), .int (iI i1), .int (iI i2)].toArray zb zt zc zs.heap [] 0 0 zQ (F0 zm 3 ls []) := by
    intro fu
    induction fu with
    | zero =>
      intro f ls hm3 hf hi hl
      exact absurd hm3 (by omega)
    | succ fu ih3 =>
      intro f ls hm3 hf hi hl
      refine lv_iload hC.1 hC.2.1 d_Mo_hasEdge_3 (lv_at hl 0 rfl) ?_
      refine z_iconst hC d_Mo_hasEdge_5 ?_
      refine z_icmp_ge (tgt := 83) hC d_Mo_hasEdge_6 (by decide) (by omega) (by decide) (fun h6 => ?_) (fun h6 => ?_)
      · refine z_iconst hC d_Mo_hasEdge_83 ?_
        exact ret0 84 _ d_Mo_hasEdge_84 (anyZ_f.mpr (fun j h1 h2 => hi j h1 (by omega)))
      · have e0 := enZ_in (e := f) (w := 0) (by decide)
        have e1 := enZ_in (e := f) (w := 1) (by decide)
        refine lv_aload_n hC.1 hC.2.1 d_Mo_hasEdge_9 rfl (lv_at hl 1 rfl) ?_
        refine lv_iload_n hC.1 hC.2.1 d_Mo_hasEdge_10 rfl (lv_at hl 2 rfl) ?_
        refine lv_iload hC.1 hC.2.1 d_Mo_hasEdge_11 (lv_at hl 0 rfl) ?_
        refine z_iconst hC d_Mo_hasEdge_13 ?_
        refine z_roSi (As := [.int (iI f), .int (iI 0)]) (rest := [.int (iI o2), .ref o]) hC (c_Mo_end l D t ts f 0 (by omega) (by omega)) (cw_S hC k_699 k_700 k_6 k_701 ye_Mo_end (by decide)) hP hK hE hS [] rfl rfl hl.1 rfl (Nat.le_of_ble_eq_true rfl) ⟨Nat.le_of_ble_eq_true rfl, Nat.le_of_ble_eq_true rfl⟩ d_Mo_hasEdge_14 ?_
        refine z_roVi (As := [.int (iI o2), .int (iI (enZ f 0))]) (rest := []) hC (c_Mo_at l D t ts o o2 (enZ f 0) (4 * enZ f 0 + 12 * o2) (by omega)) (cw_V hC k_537 k_539 kp_26 k_6 k_540 ye_Mo_at (by decide)) hP hK hE hS [] rfl 0 (ci := 5) rfl rfl rfl rfl hl.1 rfl (Nat.le_of_ble_eq_true rfl) ⟨Nat.le_of_ble_eq_true rfl, Nat.le_of_ble_eq_true rfl⟩ d_Mo_hasEdge_17 ?_
        refine lv_istore (lv' := [(5, .int (iI (4 * enZ f 0 + 12 * o2))), (4, .int (iI f)), (0, .ref o), (1, .int (iI o2)), (2, .int (iI i1)), (3, .int (iI i2))]) hC.1 hC.2.1 d_Mo_hasEdge_20 hl (by decide) rfl (fun ls hl => ?_)
        refine lv_aload_n hC.1 hC.2.1 d_Mo_hasEdge_22 rfl (lv_at hl 2 rfl) ?_
        refine lv_iload_n hC.1 hC.2.1 d_Mo_hasEdge_23 rfl (lv_at hl 3 rfl) ?_
        refine lv_iload hC.1 hC.2.1 d_Mo_hasEdge_24 (lv_at hl 1 rfl) ?_
        refine z_iconst hC d_Mo_hasEdge_26 ?_
        refine z_roSi (As := [.int (iI f), .int (iI 1)]) (rest := [.int (iI o2), .ref o]) hC (c_Mo_end l D t ts f 1 (by omega) (by omega)) (cw_S hC k_699 k_700 k_6 k_701 ye_Mo_end (by decide)) hP hK hE hS [] rfl rfl hl.1 rfl (Nat.le_of_ble_eq_true rfl) ⟨Nat.le_of_ble_eq_true rfl, Nat.le_of_ble_eq_true rfl⟩ d_Mo_hasEdge_27 ?_
        refine z_roVi (As := [.int (iI o2), .int (iI (enZ f 1))]) (rest := []) hC (c_Mo_at l D t ts o o2 (enZ f 1) (4 * enZ f 1 + 12 * o2) (by omega)) (cw_V hC k_537 k_539 kp_26 k_6 k_540 ye_Mo_at (by decide)) hP hK hE hS [] rfl 0 (ci := 5) rfl rfl rfl rfl hl.1 rfl (Nat.le_of_ble_eq_true rfl) ⟨Nat.le_of_ble_eq_true rfl, Nat.le_of_ble_eq_true rfl⟩ d_Mo_hasEdge_30 ?_
        refine lv_istore (lv' := [(6, .int (iI (4 * enZ f 1 + 12 * o2))), (5, .int (iI (4 * enZ f 0 + 12 * o2))), (4, .int (iI f)), (0, .ref o), (1, .int (iI o2)), (2, .int (iI i1)), (3, .int (iI i2))]) hC.1 hC.2.1 d_Mo_hasEdge_33 hl (by decide) rfl (fun ls hl => ?_)
        refine lv_aload_n hC.1 hC.2.1 d_Mo_hasEdge_35 rfl (lv_at hl 3 rfl) ?_
        refine lv_iload hC.1 hC.2.1 d_Mo_hasEdge_36 (lv_at hl 1 rfl) ?_
        refine lv_iload_n hC.1 hC.2.1 d_Mo_hasEdge_38 rfl (lv_at hl 5 rfl) ?_
        refine z_roVi (As := [.int (iI (4 * enZ f 0 + 12 * o2)), .int (iI i1)]) (rest := []) hC (c_Mo_same l D t ts o qT qC qF qY qZ qu qv qw qg qh qx qc qa qb qd qp qq cd z lv fm F (4 * enZ f 0 + 12 * o2) i1 (by omega) (by omega) hF) (cw_V hC k_623 k_625 kp_43 k_6 k_626 ye_Mo_same (by decide)) hP hK hE hS [0, 1] rfl 0 (ci := 5) rfl rfl rfl rfl hl.1 rfl (Nat.le_of_ble_eq_true rfl) ⟨Nat.le_of_ble_eq_true rfl, Nat.le_of_ble_eq_true rfl⟩ d_Mo_hasEdge_39 ?_
        refine z_if_eqB (tgt := 55) hC d_Mo_hasEdge_42 (by decide) (fun h42 => ?_) (fun h42 => ?_)
        · refine lv_aload_n hC.1 hC.2.1 d_Mo_hasEdge_55 rfl (lv_at hl 3 rfl) ?_
          refine lv_iload hC.1 hC.2.1 d_Mo_hasEdge_56 (lv_at hl 1 rfl) ?_
          refine lv_iload_n hC.1 hC.2.1 d_Mo_hasEdge_58 rfl (lv_at hl 6 rfl) ?_
          refine z_roVi (As := [.int (iI (4 * enZ f 0 + 12 * o2)), .int (iI i2)]) (rest := []) hC (c_Mo_same l D t ts o qT qC qF qY qZ qu qv qw qg qh qx qc qa qb qd qp qq cd z lv fm F (4 * enZ f 0 + 12 * o2) i2 (by omega) (by omega) hF) (cw_V hC k_623 k_625 kp_43 k_6 k_626 ye_Mo_same (by decide)) hP hK hE hS [0, 1] rfl 0 (ci := 5) rfl rfl rfl rfl hl.1 rfl (Nat.le_of_ble_eq_true rfl) ⟨Nat.le_of_ble_eq_true rfl, Nat.le_of_ble_eq_true rfl⟩ d_Mo_hasEdge_59 ?_
          refine z_if_eqB (tgt := 77) hC d_Mo_hasEdge_62 (by decide) (fun h62 => ?_) (fun h62 => ?_)
          · refine lv_iinc (v := iI (f + 1)) (lv' := [(4, .int (iI (f + 1))), (6, .int (iI (4 * enZ f 1 + 12 * o2))), (5, .int (iI (4 * enZ f 0 + 12 * o2))), (0, .ref o), (1, .int (iI o2)), (2, .int (iI i1)), (3, .int (iI i2))]) hC.1 hC.2.1 d_Mo_hasEdge_77 hl (k := 2) rfl (z_inc (by omega)) (by decide) rfl (fun ls hl => ?_)
            refine z_goto (tgt := 3) hC d_Mo_hasEdge_80 (by decide) ?_
            exact ih3 (f + 1) _ (by omega) (by omega) (stepF hi (by unfold hef; simp [h42, h62])) (lv_sub hl [0, 3, 4, 5, 6] rfl)
          · refine lv_aload_n hC.1 hC.2.1 d_Mo_hasEdge_65 rfl (lv_at hl 3 rfl) ?_
            refine lv_iload hC.1 hC.2.1 d_Mo_hasEdge_66 (lv_at hl 0 rfl) ?_
            refine lv_iload_n hC.1 hC.2.1 d_Mo_hasEdge_68 rfl (lv_at hl 5 rfl) ?_
            refine z_roVi (As := [.int (iI (4 * enZ f 1 + 12 * o2)), .int (iI i1)]) (rest := []) hC (c_Mo_same l D t ts o qT qC qF qY qZ qu qv qw qg qh qx qc qa qb qd qp qq cd z lv fm F (4 * enZ f 1 + 12 * o2) i1 (by omega) (by omega) hF) (cw_V hC k_623 k_625 kp_43 k_6 k_626 ye_Mo_same (by decide)) hP hK hE hS [0, 1] rfl 0 (ci := 5) rfl rfl rfl rfl hl.1 rfl (Nat.le_of_ble_eq_true rfl) ⟨Nat.le_of_ble_eq_true rfl, Nat.le_of_ble_eq_true rfl⟩ d_Mo_hasEdge_69 ?_
            refine z_if_eqB (tgt := 77) hC d_Mo_hasEdge_72 (by decide) (fun h72 => ?_) (fun h72 => ?_)
            · refine lv_iinc (v := iI (f + 1)) (lv' := [(4, .int (iI (f + 1))), (6, .int (iI (4 * enZ f 1 + 12 * o2))), (5, .int (iI (4 * enZ f 0 + 12 * o2))), (0, .ref o), (1, .int (iI o2)), (2, .int (iI i1)), (3, .int (iI i2))]) hC.1 hC.2.1 d_Mo_hasEdge_77 hl (k := 2) rfl (z_inc (by omega)) (by decide) rfl (fun ls hl => ?_)
              refine z_goto (tgt := 3) hC d_Mo_hasEdge_80 (by decide) ?_
              exact ih3 (f + 1) _ (by omega) (by omega) (stepF hi (by unfold hef; simp [h42, h62, h72])) (lv_sub hl [0, 3, 4, 5, 6] rfl)
            · refine z_iconst hC d_Mo_hasEdge_75 ?_
              exact ret1 76 _ d_Mo_hasEdge_76 (anyZ_t (k := f) (by omega) (by omega) (by unfold hef; simp [h42, h62, h72]))
        · refine lv_aload_n hC.1 hC.2.1 d_Mo_hasEdge_45 rfl (lv_at hl 3 rfl) ?_
          refine lv_iload hC.1 hC.2.1 d_Mo_hasEdge_46 (lv_at hl 0 rfl) ?_
          refine lv_iload_n hC.1 hC.2.1 d_Mo_hasEdge_48 rfl (lv_at hl 6 rfl) ?_
          refine z_roVi (As := [.int (iI (4 * enZ f 1 + 12 * o2)), .int (iI i2)]) (rest := []) hC (c_Mo_same l D t ts o qT qC qF qY qZ qu qv qw qg qh qx qc qa qb qd qp qq cd z lv fm F (4 * enZ f 1 + 12 * o2) i2 (by omega) (by omega) hF) (cw_V hC k_623 k_625 kp_43 k_6 k_626 ye_Mo_same (by decide)) hP hK hE hS [0, 1] rfl 0 (ci := 5) rfl rfl rfl rfl hl.1 rfl (Nat.le_of_ble_eq_true rfl) ⟨Nat.le_of_ble_eq_true rfl, Nat.le_of_ble_eq_true rfl⟩ d_Mo_hasEdge_49 ?_
          refine z_if_neB (tgt := 75) hC d_Mo_hasEdge_52 (by decide) (fun h52 => ?_) (fun h52 => ?_)
          · refine z_iconst hC d_Mo_hasEdge_75 ?_
            exact ret1 76 _ d_Mo_hasEdge_76 (anyZ_t (k := f) (by omega) (by omega) (by unfold hef; simp [h42, h52]))
          · refine lv_aload_n hC.1 hC.2.1 d_Mo_hasEdge_55 rfl (lv_at hl 3 rfl) ?_
            refine lv_iload hC.1 hC.2.1 d_Mo_hasEdge_56 (lv_at hl 1 rfl) ?_
            refine lv_iload_n hC.1 hC.2.1 d_Mo_hasEdge_58 rfl (lv_at hl 6 rfl) ?_
            refine z_roVi (As := [.int (iI (4 * enZ f 0 + 12 * o2)), .int (iI i2)]) (rest := []) hC (c_Mo_same l D t ts o qT qC qF qY qZ qu qv qw qg qh qx qc qa qb qd qp qq cd z lv fm F (4 * enZ f 0 + 12 * o2) i2 (by omega) (by omega) hF) (cw_V hC k_623 k_625 kp_43 k_6 k_626 ye_Mo_same (by decide)) hP hK hE hS [0, 1] rfl 0 (ci := 5) rfl rfl rfl rfl hl.1 rfl (Nat.le_of_ble_eq_true rfl) ⟨Nat.le_of_ble_eq_true rfl, Nat.le_of_ble_eq_true rfl⟩ d_Mo_hasEdge_59 ?_
            refine z_if_eqB (tgt := 77) hC d_Mo_hasEdge_62 (by decide) (fun h62 => ?_) (fun h62 => ?_)
            · refine lv_iinc (v := iI (f + 1)) (lv' := [(4, .int (iI (f + 1))), (6, .int (iI (4 * enZ f 1 + 12 * o2))), (5, .int (iI (4 * enZ f 0 + 12 * o2))), (0, .ref o), (1, .int (iI o2)), (2, .int (iI i1)), (3, .int (iI i2))]) hC.1 hC.2.1 d_Mo_hasEdge_77 hl (k := 2) rfl (z_inc (by omega)) (by decide) rfl (fun ls hl => ?_)
              refine z_goto (tgt := 3) hC d_Mo_hasEdge_80 (by decide) ?_
              exact ih3 (f + 1) _ (by omega) (by omega) (stepF hi (by unfold hef; simp [h42, h52, h62])) (lv_sub hl [0, 3, 4, 5, 6] rfl)
            · refine lv_aload_n hC.1 hC.2.1 d_Mo_hasEdge_65 rfl (lv_at hl 3 rfl) ?_
              refine lv_iload hC.1 hC.2.1 d_Mo_hasEdge_66 (lv_at hl 0 rfl) ?_
              refine lv_iload_n hC.1 hC.2.1 d_Mo_hasEdge_68 rfl (lv_at hl 5 rfl) ?_
              refine z_roVi (As := [.int (iI (4 * enZ f 1 + 12 * o2)), .int (iI i1)]) (rest := []) hC (c_Mo_same l D t ts o qT qC qF qY qZ qu qv qw qg qh qx qc qa qb qd qp qq cd z lv fm F (4 * enZ f 1 + 12 * o2) i1 (by omega) (by omega) hF) (cw_V hC k_623 k_625 kp_43 k_6 k_626 ye_Mo_same (by decide)) hP hK hE hS [0, 1] rfl 0 (ci := 5) rfl rfl rfl rfl hl.1 rfl (Nat.le_of_ble_eq_true rfl) ⟨Nat.le_of_ble_eq_true rfl, Nat.le_of_ble_eq_true rfl⟩ d_Mo_hasEdge_69 ?_
              refine z_if_eqB (tgt := 77) hC d_Mo_hasEdge_72 (by decide) (fun h72 => ?_) (fun h72 => ?_)
              · refine lv_iinc (v := iI (f + 1)) (lv' := [(4, .int (iI (f + 1))), (6, .int (iI (4 * enZ f 1 + 12 * o2))), (5, .int (iI (4 * enZ f 0 + 12 * o2))), (0, .ref o), (1, .int (iI o2)), (2, .int (iI i1)), (3, .int (iI i2))]) hC.1 hC.2.1 d_Mo_hasEdge_77 hl (k := 2) rfl (z_inc (by omega)) (by decide) rfl (fun ls hl => ?_)
                refine z_goto (tgt := 3) hC d_Mo_hasEdge_80 (by decide) ?_
                exact ih3 (f + 1) _ (by omega) (by omega) (stepF hi (by unfold hef; simp [h42, h52, h62, h72])) (lv_sub hl [0, 3, 4, 5, 6] rfl)
              · refine z_iconst hC d_Mo_hasEdge_75 ?_
                exact ret1 76 _ d_Mo_hasEdge_76 (anyZ_t (k := f) (by omega) (by omega) (by unfold hef; simp [h42, h52, h62, h72]))
  exact L3 (3 - 0 + 1 : Int).toNat 0 _ (by omega) (by omega) (by intro j _ _; omega) (lv_sub hl [0, 1, 2, 3, 4] rfl)
theorem ye_Mo_edges : ye y_Mo_edges R_Mo 0 := by unfold ye; decide +kernel
abbrev rm_Mo_edges : Room := { frames := 2, cells := 0, slots := 0, locals := 49 }
set_option maxHeartbeats 4000000 in
set_option maxRecDepth 100000 in
theorem c_Mo_edges (l : Launch) (D : va_G) (t : vt) (ts : Nat → Nat) (o qT qC qF qY qZ qu qv qw qg qh qx qc qa qb qd qp qq : Nat) (cd z lv fm : Int) (F : Int → Int) (hz : 0 ≤ z ∧ z ≤ 400) (hF : bF F) : Met l y_Mo_edges (.code y_Mo_edges b_Mo_edges 6 (some .int) :: tb_ws) rm_Mo_edges (RoP D t ts [.ref o] [(o, .inr (5, [.int (iI cd), .int (iI z), .int (iI lv), .ref qT, .ref qC, .ref qF, .ref qY, .ref qZ, .ref qu, .ref qv, .ref qw, .ref qg, .ref qh, .ref qx, .ref qc, .ref qa, .ref qb, .ref qd, .int (iI fm), .ref qp, .ref qq])), (qC, eI t.1 14400 F)]) (vp_Si (fun zr => zr = iI (moE F z))) 0 0 (fun _ => False) := by
  refine ro_i (by decide +kernel) (Nat.le_of_ble_eq_true rfl) ?_
  intro zp ze zs zm zb zt zc zQ ls hC hP hK hE hl ret
  have hS : va_S (fun _ => False) zs.heap zs.heap [] := va_S.rf
  have hl : lv_has ls 6 [(0, .ref o)] := hl
  have retv : ∀ (pc : Nat) (ls : Array Slot) (zv : Int), decode b_Mo_edges pc = .ok (.ireturn, 1) → zv = (moE F z) → W zp l ze rm_Mo_edges zs zm [.ref o].toArray zb zt zc zs.heap [] 0 0 zQ (F0 zm pc ls [.int (iI zv)]) := fun pc ls v d h => by rw [h]; exact ret pc ls d
  refine z_iconst hC d_Mo_edges_0 ?_
  refine lv_istore_n (lv' := [(1, .int (iI 0)), (0, .ref o)]) hC.1 hC.2.1 d_Mo_edges_1 rfl hl (by decide) rfl (fun ls hl => ?_)
  refine z_iconst hC d_Mo_edges_2 ?_
  refine lv_istore_n (lv' := [(2, .int (iI 0)), (1, .int (iI 0)), (0, .ref o)]) hC.1 hC.2.1 d_Mo_edges_3 rfl hl (by decide) rfl (fun ls hl => ?_)
  have L4 : ∀ (fu : Nat) (ct : Int) (n : Int) (ls : Array Slot), z - n + 1 ≤ (fu : Int) → (0 ≤ n ∧ n ≤ z) → (ct = sumZ n.toNat (fun n => cntZ 3 (fun e => alf F z n e))) → lv_has ls 6 [(2, .int (iI n)), (1, .int (iI ct)), (0, .ref o)] → W zp l ze rm_Mo_edges zs zm [.ref o].toArray zb zt zc zs.heap [] 0 0 zQ (F0 zm 4 ls []) := by
    intro fu
    induction fu with
    | zero =>
      intro ct n ls hm4 hn ec hl
      exact absurd hm4 (by omega)
    | succ fu ih4 =>
      intro ct n ls hm4 hn ec hl
      refine lv_iload_n hC.1 hC.2.1 d_Mo_edges_4 rfl (lv_at hl 0 rfl) ?_
      refine lv_aload_n hC.1 hC.2.1 d_Mo_edges_5 rfl (lv_at hl 2 rfl) ?_
      refine z_get (ci := 5) (C := R_Mo) (T := F_Mo) (N := 21) (v := .int (iI z)) hC in_Mo hK hP 0 rfl rfl 1 (by decide) k_454 rfl d_Mo_edges_6 ?_
      refine z_icmp_ge (tgt := 112) hC d_Mo_edges_9 (by decide) (by omega) (by omega) (fun h9 => ?_) (fun h9 => ?_)
      · refine lv_iload_n hC.1 hC.2.1 d_Mo_edges_112 rfl (lv_at hl 1 rfl) ?_
        exact retv 113 _ _ d_Mo_edges_113 (by rw [ec, show n = z by omega]; rfl)
      · refine z_iconst hC d_Mo_edges_12 ?_
        refine lv_istore_n (lv' := [(3, .int (iI 0)), (2, .int (iI n)), (1, .int (iI ct)), (0, .ref o)]) hC.1 hC.2.1 d_Mo_edges_13 rfl hl (by decide) rfl (fun ls hl => ?_)
        have L14 : ∀ (fu : Nat) (ct2 : Int) (e : Int) (ls : Array Slot), 3 - e + 1 ≤ (fu : Int) → (0 ≤ e ∧ e ≤ 3) → (ct2 = ct + cntZ e.toNat (fun e => alf F z n e)) → lv_has ls 6 [(3, .int (iI e)), (2, .int (iI n)), (1, .int (iI ct2)), (0, .ref o)] → W zp l ze rm_Mo_edges zs zm [.ref o].toArray zb zt zc zs.heap [] 0 0 zQ (F0 zm 14 ls []) := by
          intro fu
          induction fu with
          | zero =>
            intro ct2 e ls hm14 he ec2 hl
            exact absurd hm14 (by omega)
          | succ fu ih14 =>
            intro ct2 e ls hm14 he ec2 hl
            refine lv_iload_n hC.1 hC.2.1 d_Mo_edges_14 rfl (lv_at hl 0 rfl) ?_
            refine z_iconst hC d_Mo_edges_15 ?_
            refine z_icmp_ge (tgt := 106) hC d_Mo_edges_16 (by decide) (by omega) (by decide) (fun h16 => ?_) (fun h16 => ?_)
            · refine lv_iinc (v := iI (n + 1)) (lv' := [(2, .int (iI (n + 1))), (3, .int (iI e)), (1, .int (iI ct2)), (0, .ref o)]) hC.1 hC.2.1 d_Mo_edges_106 hl (k := 1) rfl (z_inc (by omega)) (by decide) rfl (fun ls hl => ?_)
              refine z_goto (tgt := 4) hC d_Mo_edges_109 (by decide) ?_
              exact ih4 ct2 (n + 1) _ (by omega) (by omega) (by rw [sumZ_s (by omega), ← ec, ec2, show e = 3 by omega]; rfl) (lv_sub hl [0, 2, 3] rfl)
            · refine z_iconst hC d_Mo_edges_19 ?_
              refine lv_istore (lv' := [(4, .int (iI 1)), (3, .int (iI e)), (2, .int (iI n)), (1, .int (iI ct2)), (0, .ref o)]) hC.1 hC.2.1 d_Mo_edges_20 hl (by decide) rfl (fun ls hl => ?_)
              refine z_iconst hC d_Mo_edges_22 ?_
              refine lv_istore (lv' := [(5, .int (iI 0)), (4, .int (iI 1)), (3, .int (iI e)), (2, .int (iI n)), (1, .int (iI ct2)), (0, .ref o)]) hC.1 hC.2.1 d_Mo_edges_23 hl (by decide) rfl (fun ls hl => ?_)
              have L25 : ∀ (fu : Nat) (al : Bool) (o2 : Int) (ls : Array Slot), z - o2 + 1 ≤ (fu : Int) → (0 ≤ o2 ∧ o2 ≤ z) → (al = !anyZ o2.toNat (fun o => alq F n e o)) → lv_has ls 6 [(5, .int (iI o2)), (4, .int (iI (zB al))), (3, .int (iI e)), (2, .int (iI n)), (1, .int (iI ct2)), (0, .ref o)] → W zp l ze rm_Mo_edges zs zm [.ref o].toArray zb zt zc zs.heap [] 0 0 zQ (F0 zm 25 ls []) := by
                intro fu
                induction fu with
                | zero =>
                  intro al o2 ls hm25 ho hl0 hl
                  exact absurd hm25 (by omega)
                | succ fu ih25 =>
                  intro al o2 ls hm25 ho hl0 hl
                  refine lv_iload hC.1 hC.2.1 d_Mo_edges_25 (lv_at hl 0 rfl) ?_
                  refine lv_aload_n hC.1 hC.2.1 d_Mo_edges_27 rfl (lv_at hl 5 rfl) ?_
                  refine z_get (ci := 5) (C := R_Mo) (T := F_Mo) (N := 21) (v := .int (iI z)) hC in_Mo hK hP 0 rfl rfl 1 (by decide) k_454 rfl d_Mo_edges_28 ?_
                  refine z_icmp_ge (tgt := 87) hC d_Mo_edges_31 (by decide) (by omega) (by omega) (fun h31 => ?_) (fun h31 => ?_)
                  · have hal : al = alf F z n e := anyZ_stop (by omega) (by omega) hl0 (by first | exact Or.inr h36 | exact Or.inl (by omega))
                    refine lv_iload_n hC.1 hC.2.1 d_Mo_edges_87 rfl (lv_at hl 4 rfl) ?_
                    refine lv_iload hC.1 hC.2.1 d_Mo_edges_88 (lv_at hl 1 rfl) ?_
                    refine z_if_eqB (tgt := 97) hC d_Mo_edges_90 (by decide) (fun h90 => ?_) (fun h90 => ?_)
                    · refine z_iconst hC d_Mo_edges_97 ?_
                      refine z_iadd hC d_Mo_edges_98 ?_
                      refine z_topi (z := ct2) (by omega) ?_
                      refine lv_istore_n (lv' := [(1, .int (iI ct2)), (5, .int (iI o2)), (4, .int (iI (zB al))), (3, .int (iI e)), (2, .int (iI n)), (0, .ref o)]) hC.1 hC.2.1 d_Mo_edges_99 rfl hl (by decide) rfl (fun ls hl => ?_)
                      refine lv_iinc (v := iI (e + 1)) (lv' := [(3, .int (iI (e + 1))), (1, .int (iI ct2)), (5, .int (iI o2)), (4, .int (iI (zB al))), (2, .int (iI n)), (0, .ref o)]) hC.1 hC.2.1 d_Mo_edges_100 hl (k := 3) rfl (z_inc (by omega)) (by decide) rfl (fun ls hl => ?_)
                      refine z_goto (tgt := 14) hC d_Mo_edges_103 (by decide) ?_
                      exact ih14 ct2 (e + 1) _ (by omega) (by omega) (by rw [cntZ_s (by omega), ← hal, h90, ec2]; simp; try omega) (lv_sub hl [0, 4, 1, 5] rfl)
                    · refine z_iconst hC d_Mo_edges_93 ?_
                      refine z_goto (tgt := 98) hC d_Mo_edges_94 (by decide) ?_
                      refine z_iadd hC d_Mo_edges_98 ?_
                      refine lv_istore_n (lv' := [(1, .int (iI (ct2 + 1))), (5, .int (iI o2)), (4, .int (iI (zB al))), (3, .int (iI e)), (2, .int (iI n)), (0, .ref o)]) hC.1 hC.2.1 d_Mo_edges_99 rfl hl (by decide) rfl (fun ls hl => ?_)
                      refine lv_iinc (v := iI (e + 1)) (lv' := [(3, .int (iI (e + 1))), (1, .int (iI (ct2 + 1))), (5, .int (iI o2)), (4, .int (iI (zB al))), (2, .int (iI n)), (0, .ref o)]) hC.1 hC.2.1 d_Mo_edges_100 hl (k := 3) rfl (z_inc (by omega)) (by decide) rfl (fun ls hl => ?_)
                      refine z_goto (tgt := 14) hC d_Mo_edges_103 (by decide) ?_
                      exact ih14 (ct2 + 1) (e + 1) _ (by omega) (by omega) (by rw [cntZ_s (by omega), ← hal, h90, ec2]; simp; try omega) (lv_sub hl [0, 4, 1, 5] rfl)
                  · refine lv_iload hC.1 hC.2.1 d_Mo_edges_34 (lv_at hl 1 rfl) ?_
                    refine z_if_eqB (tgt := 87) hC d_Mo_edges_36 (by decide) (fun h36 => ?_) (fun h36 => ?_)
                    · have hal : al = alf F z n e := anyZ_stop (by omega) (by omega) hl0 (by first | exact Or.inr h36 | exact Or.inl (by omega))
                      refine lv_iload_n hC.1 hC.2.1 d_Mo_edges_87 rfl (lv_at hl 4 rfl) ?_
                      refine lv_iload hC.1 hC.2.1 d_Mo_edges_88 (lv_at hl 1 rfl) ?_
                      refine z_if_eqB (tgt := 97) hC d_Mo_edges_90 (by decide) (fun h90 => ?_) (fun h90 => ?_)
                      · refine z_iconst hC d_Mo_edges_97 ?_
                        refine z_iadd hC d_Mo_edges_98 ?_
                        refine z_topi (z := ct2) (by omega) ?_
                        refine lv_istore_n (lv' := [(1, .int (iI ct2)), (5, .int (iI o2)), (4, .int (iI (zB al))), (3, .int (iI e)), (2, .int (iI n)), (0, .ref o)]) hC.1 hC.2.1 d_Mo_edges_99 rfl hl (by decide) rfl (fun ls hl => ?_)
                        refine lv_iinc (v := iI (e + 1)) (lv' := [(3, .int (iI (e + 1))), (1, .int (iI ct2)), (5, .int (iI o2)), (4, .int (iI (zB al))), (2, .int (iI n)), (0, .ref o)]) hC.1 hC.2.1 d_Mo_edges_100 hl (k := 3) rfl (z_inc (by omega)) (by decide) rfl (fun ls hl => ?_)
                        refine z_goto (tgt := 14) hC d_Mo_edges_103 (by decide) ?_
                        exact ih14 ct2 (e + 1) _ (by omega) (by omega) (by rw [cntZ_s (by omega), ← hal, h90, ec2]; simp; try omega) (lv_sub hl [0, 4, 1, 5] rfl)
                      · refine z_iconst hC d_Mo_edges_93 ?_
                        refine z_goto (tgt := 98) hC d_Mo_edges_94 (by decide) ?_
                        refine z_iadd hC d_Mo_edges_98 ?_
                        refine lv_istore_n (lv' := [(1, .int (iI (ct2 + 1))), (5, .int (iI o2)), (4, .int (iI (zB al))), (3, .int (iI e)), (2, .int (iI n)), (0, .ref o)]) hC.1 hC.2.1 d_Mo_edges_99 rfl hl (by decide) rfl (fun ls hl => ?_)
                        refine lv_iinc (v := iI (e + 1)) (lv' := [(3, .int (iI (e + 1))), (1, .int (iI (ct2 + 1))), (5, .int (iI o2)), (4, .int (iI (zB al))), (2, .int (iI n)), (0, .ref o)]) hC.1 hC.2.1 d_Mo_edges_100 hl (k := 3) rfl (z_inc (by omega)) (by decide) rfl (fun ls hl => ?_)
                        refine z_goto (tgt := 14) hC d_Mo_edges_103 (by decide) ?_
                        exact ih14 (ct2 + 1) (e + 1) _ (by omega) (by omega) (by rw [cntZ_s (by omega), ← hal, h90, ec2]; simp; try omega) (lv_sub hl [0, 4, 1, 5] rfl)
                    · have e0 := enZ_in (e := e) (w := 0) (by decide)
                      have e1 := enZ_in (e := e) (w := 1) (by decide)
                      refine lv_iload hC.1 hC.2.1 d_Mo_edges_39 (lv_at hl 0 rfl) ?_
                      refine lv_iload_n hC.1 hC.2.1 d_Mo_edges_41 rfl (lv_at hl 3 rfl) ?_
                      refine z_icmp_eq (tgt := 74) hC d_Mo_edges_42 (by decide) (by omega) (by omega) (fun h42 => ?_) (fun h42 => ?_)
                      · refine z_iconst hC d_Mo_edges_74 ?_
                        refine z_goto (tgt := 79) hC d_Mo_edges_75 (by decide) ?_
                        refine lv_istore (lv' := [(4, .int (iI 1)), (5, .int (iI o2)), (3, .int (iI e)), (2, .int (iI n)), (1, .int (iI ct2)), (0, .ref o)]) hC.1 hC.2.1 d_Mo_edges_79 hl (by decide) rfl (fun ls hl => ?_)
                        refine lv_iinc (v := iI (o2 + 1)) (lv' := [(5, .int (iI (o2 + 1))), (4, .int (iI 1)), (3, .int (iI e)), (2, .int (iI n)), (1, .int (iI ct2)), (0, .ref o)]) hC.1 hC.2.1 d_Mo_edges_81 hl (k := 1) rfl (z_inc (by omega)) (by decide) rfl (fun ls hl => ?_)
                        refine z_goto (tgt := 25) hC d_Mo_edges_84 (by decide) ?_
                        exact ih25 true (o2 + 1) _ (by omega) (by omega) (any_st1 (by omega) hl0 h36 true (by unfold alq; simp [h42])) (lv_sub hl [0, 1, 2, 3, 4, 5] rfl)
                      · refine lv_aload_n hC.1 hC.2.1 d_Mo_edges_45 rfl (lv_at hl 5 rfl) ?_
                        refine lv_iload hC.1 hC.2.1 d_Mo_edges_46 (lv_at hl 0 rfl) ?_
                        refine lv_aload_n hC.1 hC.2.1 d_Mo_edges_48 rfl (lv_at hl 5 rfl) ?_
                        refine lv_iload_n hC.1 hC.2.1 d_Mo_edges_49 rfl (lv_at hl 3 rfl) ?_
                        refine lv_iload_n hC.1 hC.2.1 d_Mo_edges_50 rfl (lv_at hl 2 rfl) ?_
                        refine z_iconst hC d_Mo_edges_51 ?_
                        refine z_roSi (As := [.int (iI e), .int (iI 0)]) (rest := [.int (iI n), .ref o, .int (iI o2), .ref o]) hC (c_Mo_end l D t ts e 0 (by omega) (by omega)) (cw_S hC k_699 k_700 k_6 k_701 ye_Mo_end (by decide)) hP hK hE hS [] rfl rfl hl.1 rfl (Nat.le_of_ble_eq_true rfl) ⟨Nat.le_of_ble_eq_true rfl, Nat.le_of_ble_eq_true rfl⟩ d_Mo_edges_52 ?_
                        refine z_roVi (As := [.int (iI n), .int (iI (enZ e 0))]) (rest := [.int (iI o2), .ref o]) hC (c_Mo_at l D t ts o n (enZ e 0) (4 * enZ e 0 + 12 * n) (by omega)) (cw_V hC k_537 k_539 kp_26 k_6 k_540 ye_Mo_at (by decide)) hP hK hE hS [] rfl 0 (ci := 5) rfl rfl rfl rfl hl.1 rfl (Nat.le_of_ble_eq_true rfl) ⟨Nat.le_of_ble_eq_true rfl, Nat.le_of_ble_eq_true rfl⟩ d_Mo_edges_55 ?_
                        refine lv_aload_n hC.1 hC.2.1 d_Mo_edges_58 rfl (lv_at hl 5 rfl) ?_
                        refine lv_iload_n hC.1 hC.2.1 d_Mo_edges_59 rfl (lv_at hl 3 rfl) ?_
                        refine lv_iload_n hC.1 hC.2.1 d_Mo_edges_60 rfl (lv_at hl 2 rfl) ?_
                        refine z_iconst hC d_Mo_edges_61 ?_
                        refine z_roSi (As := [.int (iI e), .int (iI 1)]) (rest := [.int (iI n), .ref o, .int (iI (4 * enZ e 0 + 12 * n)), .int (iI o2), .ref o]) hC (c_Mo_end l D t ts e 1 (by omega) (by omega)) (cw_S hC k_699 k_700 k_6 k_701 ye_Mo_end (by decide)) hP hK hE hS [] rfl rfl hl.1 rfl (Nat.le_of_ble_eq_true rfl) ⟨Nat.le_of_ble_eq_true rfl, Nat.le_of_ble_eq_true rfl⟩ d_Mo_edges_62 ?_
                        refine z_roVi (As := [.int (iI n), .int (iI (enZ e 1))]) (rest := [.int (iI (4 * enZ e 0 + 12 * n)), .int (iI o2), .ref o]) hC (c_Mo_at l D t ts o n (enZ e 1) (4 * enZ e 1 + 12 * n) (by omega)) (cw_V hC k_537 k_539 kp_26 k_6 k_540 ye_Mo_at (by decide)) hP hK hE hS [] rfl 0 (ci := 5) rfl rfl rfl rfl hl.1 rfl (Nat.le_of_ble_eq_true rfl) ⟨Nat.le_of_ble_eq_true rfl, Nat.le_of_ble_eq_true rfl⟩ d_Mo_edges_65 ?_
                        refine z_roVi (As := [.int (iI o2), .int (iI (4 * enZ e 0 + 12 * n)), .int (iI (4 * enZ e 1 + 12 * n))]) (rest := []) hC (c_Mo_hasEdge l D t ts o qT qC qF qY qZ qu qv qw qg qh qx qc qa qb qd qp qq cd z lv fm F o2 (4 * enZ e 0 + 12 * n) (4 * enZ e 1 + 12 * n) (by omega) (by omega) (by omega) hF) (cw_V hC k_702 k_704 kp_57 k_6 k_705 ye_Mo_hasEdge (by decide)) hP hK hE hS [0, 1] rfl 0 (ci := 5) rfl rfl rfl rfl hl.1 rfl (Nat.le_of_ble_eq_true rfl) ⟨Nat.le_of_ble_eq_true rfl, Nat.le_of_ble_eq_true rfl⟩ d_Mo_edges_68 ?_
                        refine z_if_neB (tgt := 78) hC d_Mo_edges_71 (by decide) (fun h71 => ?_) (fun h71 => ?_)
                        · refine z_iconst hC d_Mo_edges_78 ?_
                          refine lv_istore (lv' := [(4, .int (iI 0)), (5, .int (iI o2)), (3, .int (iI e)), (2, .int (iI n)), (1, .int (iI ct2)), (0, .ref o)]) hC.1 hC.2.1 d_Mo_edges_79 hl (by decide) rfl (fun ls hl => ?_)
                          refine lv_iinc (v := iI (o2 + 1)) (lv' := [(5, .int (iI (o2 + 1))), (4, .int (iI 0)), (3, .int (iI e)), (2, .int (iI n)), (1, .int (iI ct2)), (0, .ref o)]) hC.1 hC.2.1 d_Mo_edges_81 hl (k := 1) rfl (z_inc (by omega)) (by decide) rfl (fun ls hl => ?_)
                          refine z_goto (tgt := 25) hC d_Mo_edges_84 (by decide) ?_
                          exact ih25 false (o2 + 1) _ (by omega) (by omega) (any_st1 (by omega) hl0 h36 false (by unfold alq; simp [h42, h71])) (lv_sub hl [0, 1, 2, 3, 4, 5] rfl)
                        · refine z_iconst hC d_Mo_edges_74 ?_
                          refine z_goto (tgt := 79) hC d_Mo_edges_75 (by decide) ?_
                          refine lv_istore (lv' := [(4, .int (iI 1)), (5, .int (iI o2)), (3, .int (iI e)), (2, .int (iI n)), (1, .int (iI ct2)), (0, .ref o)]) hC.1 hC.2.1 d_Mo_edges_79 hl (by decide) rfl (fun ls hl => ?_)
                          refine lv_iinc (v := iI (o2 + 1)) (lv' := [(5, .int (iI (o2 + 1))), (4, .int (iI 1)), (3, .int (iI e)), (2, .int (iI n)), (1, .int (iI ct2)), (0, .ref o)]) hC.1 hC.2.1 d_Mo_edges_81 hl (k := 1) rfl (z_inc (by omega)) (by decide) rfl (fun ls hl => ?_)
                          refine z_goto (tgt := 25) hC d_Mo_edges_84 (by decide) ?_
                          exact ih25 true (o2 + 1) _ (by omega) (by omega) (any_st1 (by omega) hl0 h36 true (by unfold alq; simp [h42, h71])) (lv_sub hl [0, 1, 2, 3, 4, 5] rfl)
              exact L25 (z - 0 + 1 : Int).toNat true 0 _ (by omega) (by omega) (by rfl) (lv_sub hl [0, 1, 2, 3, 4, 5] rfl)
        exact L14 (3 - 0 + 1 : Int).toNat ct 0 _ (by omega) (by omega) (by show ct = ct + 0; omega) (lv_sub hl [0, 1, 2, 3] rfl)
  exact L4 (z - 0 + 1 : Int).toNat 0 0 _ (by omega) (by omega) (by rfl) (lv_sub hl [0, 1, 2] rfl)
theorem ye_Mo_points : ye y_Mo_points R_Mo 0 := by unfold ye; decide +kernel
abbrev rm_Mo_points : Room := { frames := 1, cells := 0, slots := 0, locals := 23 }
set_option maxHeartbeats 4000000 in
set_option maxRecDepth 100000 in
theorem c_Mo_points (l : Launch) (D : va_G) (t : vt) (ts : Nat → Nat) (o qT qC qF qY qZ qu qv qw qg qh qx qc qa qb qd qp qq : Nat) (cd z lv fm : Int) (F : Int → Int) (hz : 0 ≤ z ∧ z ≤ 400) (hF : bF F) : Met l y_Mo_points (.code y_Mo_points b_Mo_points 5 (some .int) :: tb_ws) rm_Mo_points (RoP D t ts [.ref o] [(o, .inr (5, [.int (iI cd), .int (iI z), .int (iI lv), .ref qT, .ref qC, .ref qF, .ref qY, .ref qZ, .ref qu, .ref qv, .ref qw, .ref qg, .ref qh, .ref qx, .ref qc, .ref qa, .ref qb, .ref qd, .int (iI fm), .ref qp, .ref qq])), (qC, eI t.1 14400 F)]) (vp_Si (fun zr => zr = iI (moP F z))) 0 0 (fun _ => False) := by
  refine ro_i (by decide +kernel) (Nat.le_of_ble_eq_true rfl) ?_
  intro zp ze zs zm zb zt zc zQ ls hC hP hK hE hl ret
  have hS : va_S (fun _ => False) zs.heap zs.heap [] := va_S.rf
  have hl : lv_has ls 5 [(0, .ref o)] := hl
  have retv : ∀ (pc : Nat) (ls : Array Slot) (zv : Int), decode b_Mo_points pc = .ok (.ireturn, 1) → zv = (moP F z) → W zp l ze rm_Mo_points zs zm [.ref o].toArray zb zt zc zs.heap [] 0 0 zQ (F0 zm pc ls [.int (iI zv)]) := fun pc ls v d h => by rw [h]; exact ret pc ls d
  refine z_iconst hC d_Mo_points_0 ?_
  refine lv_istore_n (lv' := [(1, .int (iI 0)), (0, .ref o)]) hC.1 hC.2.1 d_Mo_points_1 rfl hl (by decide) rfl (fun ls hl => ?_)
  refine z_iconst hC d_Mo_points_2 ?_
  refine lv_istore_n (lv' := [(2, .int (iI 0)), (1, .int (iI 0)), (0, .ref o)]) hC.1 hC.2.1 d_Mo_points_3 rfl hl (by decide) rfl (fun ls hl => ?_)
  have L4 : ∀ (fu : Nat) (ct : Int) (k : Int) (ls : Array Slot), 3 * z - k + 1 ≤ (fu : Int) → (0 ≤ k ∧ k ≤ 3 * z) → (ct = cntZ k.toNat (fun k => fsf F k)) → lv_has ls 5 [(2, .int (iI k)), (1, .int (iI ct)), (0, .ref o)] → W zp l ze rm_Mo_points zs zm [.ref o].toArray zb zt zc zs.heap [] 0 0 zQ (F0 zm 4 ls []) := by
    intro fu
    induction fu with
    | zero =>
      intro ct k ls hm4 hk ec hl
      exact absurd hm4 (by omega)
    | succ fu ih4 =>
      intro ct k ls hm4 hk ec hl
      refine lv_iload_n hC.1 hC.2.1 d_Mo_points_4 rfl (lv_at hl 0 rfl) ?_
      refine z_iconst hC d_Mo_points_5 ?_
      refine lv_aload_n hC.1 hC.2.1 d_Mo_points_6 rfl (lv_at hl 2 rfl) ?_
      refine z_get (ci := 5) (C := R_Mo) (T := F_Mo) (N := 21) (v := .int (iI z)) hC in_Mo hK hP 0 rfl rfl 1 (by decide) k_454 rfl d_Mo_points_7 ?_
      refine z_imul hC d_Mo_points_10 ?_
      refine z_icmp_ge (tgt := 73) hC d_Mo_points_11 (by decide) (by omega) (by omega) (fun h11 => ?_) (fun h11 => ?_)
      · refine lv_iload_n hC.1 hC.2.1 d_Mo_points_73 rfl (lv_at hl 1 rfl) ?_
        exact retv 74 _ _ d_Mo_points_74 (by rw [ec, show k = 3 * z by omega]; rfl)
      · refine z_iconst hC d_Mo_points_14 ?_
        refine lv_istore_n (lv' := [(3, .int (iI 1)), (2, .int (iI k)), (1, .int (iI ct)), (0, .ref o)]) hC.1 hC.2.1 d_Mo_points_15 rfl hl (by decide) rfl (fun ls hl => ?_)
        refine z_iconst hC d_Mo_points_16 ?_
        refine lv_istore (lv' := [(4, .int (iI 0)), (3, .int (iI 1)), (2, .int (iI k)), (1, .int (iI ct)), (0, .ref o)]) hC.1 hC.2.1 d_Mo_points_17 hl (by decide) rfl (fun ls hl => ?_)
        have L19 : ∀ (fu : Nat) (al : Bool) (j : Int) (ls : Array Slot), k - j + 1 ≤ (fu : Int) → (0 ≤ j ∧ j ≤ k) → (al = !anyZ j.toNat (fun j => pS F (4 * j) (4 * k))) → lv_has ls 5 [(4, .int (iI j)), (3, .int (iI (zB al))), (2, .int (iI k)), (1, .int (iI ct)), (0, .ref o)] → W zp l ze rm_Mo_points zs zm [.ref o].toArray zb zt zc zs.heap [] 0 0 zQ (F0 zm 19 ls []) := by
          intro fu
          induction fu with
          | zero =>
            intro al j ls hm19 hj hl0 hl
            exact absurd hm19 (by omega)
          | succ fu ih19 =>
            intro al j ls hm19 hj hl0 hl
            refine lv_iload hC.1 hC.2.1 d_Mo_points_19 (lv_at hl 0 rfl) ?_
            refine lv_iload_n hC.1 hC.2.1 d_Mo_points_21 rfl (lv_at hl 2 rfl) ?_
            refine z_icmp_ge (tgt := 55) hC d_Mo_points_22 (by decide) (by omega) (by omega) (fun h22 => ?_) (fun h22 => ?_)
            · have hal : al = fsf F k := anyZ_stop (by omega) (by omega) hl0 (by first | exact Or.inr h26 | exact Or.inl (by omega))
              refine lv_iload_n hC.1 hC.2.1 d_Mo_points_55 rfl (lv_at hl 3 rfl) ?_
              refine lv_iload_n hC.1 hC.2.1 d_Mo_points_56 rfl (lv_at hl 1 rfl) ?_
              refine z_if_eqB (tgt := 64) hC d_Mo_points_57 (by decide) (fun h57 => ?_) (fun h57 => ?_)
              · refine z_iconst hC d_Mo_points_64 ?_
                refine z_iadd hC d_Mo_points_65 ?_
                refine z_topi (z := ct) (by omega) ?_
                refine lv_istore_n (lv' := [(1, .int (iI ct)), (4, .int (iI j)), (3, .int (iI (zB al))), (2, .int (iI k)), (0, .ref o)]) hC.1 hC.2.1 d_Mo_points_66 rfl hl (by decide) rfl (fun ls hl => ?_)
                refine lv_iinc (v := iI (k + 1)) (lv' := [(2, .int (iI (k + 1))), (1, .int (iI ct)), (4, .int (iI j)), (3, .int (iI (zB al))), (0, .ref o)]) hC.1 hC.2.1 d_Mo_points_67 hl (k := 3) rfl (z_inc (by omega)) (by decide) rfl (fun ls hl => ?_)
                refine z_goto (tgt := 4) hC d_Mo_points_70 (by decide) ?_
                exact ih4 ct (k + 1) _ (by omega) (by omega) (by rw [cntZ_s (by omega), ← hal, h57, ec]; simp) (lv_sub hl [0, 1, 4] rfl)
              · refine z_iconst hC d_Mo_points_60 ?_
                refine z_goto (tgt := 65) hC d_Mo_points_61 (by decide) ?_
                refine z_iadd hC d_Mo_points_65 ?_
                refine lv_istore_n (lv' := [(1, .int (iI (ct + 1))), (4, .int (iI j)), (3, .int (iI (zB al))), (2, .int (iI k)), (0, .ref o)]) hC.1 hC.2.1 d_Mo_points_66 rfl hl (by decide) rfl (fun ls hl => ?_)
                refine lv_iinc (v := iI (k + 1)) (lv' := [(2, .int (iI (k + 1))), (1, .int (iI (ct + 1))), (4, .int (iI j)), (3, .int (iI (zB al))), (0, .ref o)]) hC.1 hC.2.1 d_Mo_points_67 hl (k := 3) rfl (z_inc (by omega)) (by decide) rfl (fun ls hl => ?_)
                refine z_goto (tgt := 4) hC d_Mo_points_70 (by decide) ?_
                exact ih4 (ct + 1) (k + 1) _ (by omega) (by omega) (by rw [cntZ_s (by omega), ← hal, h57, ec]; simp) (lv_sub hl [0, 1, 4] rfl)
            · refine lv_iload_n hC.1 hC.2.1 d_Mo_points_25 rfl (lv_at hl 1 rfl) ?_
              refine z_if_eqB (tgt := 55) hC d_Mo_points_26 (by decide) (fun h26 => ?_) (fun h26 => ?_)
              · have hal : al = fsf F k := anyZ_stop (by omega) (by omega) hl0 (by first | exact Or.inr h26 | exact Or.inl (by omega))
                refine lv_iload_n hC.1 hC.2.1 d_Mo_points_55 rfl (lv_at hl 3 rfl) ?_
                refine lv_iload_n hC.1 hC.2.1 d_Mo_points_56 rfl (lv_at hl 1 rfl) ?_
                refine z_if_eqB (tgt := 64) hC d_Mo_points_57 (by decide) (fun h57 => ?_) (fun h57 => ?_)
                · refine z_iconst hC d_Mo_points_64 ?_
                  refine z_iadd hC d_Mo_points_65 ?_
                  refine z_topi (z := ct) (by omega) ?_
                  refine lv_istore_n (lv' := [(1, .int (iI ct)), (4, .int (iI j)), (3, .int (iI (zB al))), (2, .int (iI k)), (0, .ref o)]) hC.1 hC.2.1 d_Mo_points_66 rfl hl (by decide) rfl (fun ls hl => ?_)
                  refine lv_iinc (v := iI (k + 1)) (lv' := [(2, .int (iI (k + 1))), (1, .int (iI ct)), (4, .int (iI j)), (3, .int (iI (zB al))), (0, .ref o)]) hC.1 hC.2.1 d_Mo_points_67 hl (k := 3) rfl (z_inc (by omega)) (by decide) rfl (fun ls hl => ?_)
                  refine z_goto (tgt := 4) hC d_Mo_points_70 (by decide) ?_
                  exact ih4 ct (k + 1) _ (by omega) (by omega) (by rw [cntZ_s (by omega), ← hal, h57, ec]; simp) (lv_sub hl [0, 1, 4] rfl)
                · refine z_iconst hC d_Mo_points_60 ?_
                  refine z_goto (tgt := 65) hC d_Mo_points_61 (by decide) ?_
                  refine z_iadd hC d_Mo_points_65 ?_
                  refine lv_istore_n (lv' := [(1, .int (iI (ct + 1))), (4, .int (iI j)), (3, .int (iI (zB al))), (2, .int (iI k)), (0, .ref o)]) hC.1 hC.2.1 d_Mo_points_66 rfl hl (by decide) rfl (fun ls hl => ?_)
                  refine lv_iinc (v := iI (k + 1)) (lv' := [(2, .int (iI (k + 1))), (1, .int (iI (ct + 1))), (4, .int (iI j)), (3, .int (iI (zB al))), (0, .ref o)]) hC.1 hC.2.1 d_Mo_points_67 hl (k := 3) rfl (z_inc (by omega)) (by decide) rfl (fun ls hl => ?_)
                  refine z_goto (tgt := 4) hC d_Mo_points_70 (by decide) ?_
                  exact ih4 (ct + 1) (k + 1) _ (by omega) (by omega) (by rw [cntZ_s (by omega), ← hal, h57, ec]; simp) (lv_sub hl [0, 1, 4] rfl)
              · refine lv_aload_n hC.1 hC.2.1 d_Mo_points_29 rfl (lv_at hl 4 rfl) ?_
                refine z_iconst hC d_Mo_points_30 ?_
                refine lv_iload hC.1 hC.2.1 d_Mo_points_31 (lv_at hl 0 rfl) ?_
                refine z_imul hC d_Mo_points_33 ?_
                refine z_iconst hC d_Mo_points_34 ?_
                refine lv_iload_n hC.1 hC.2.1 d_Mo_points_35 rfl (lv_at hl 2 rfl) ?_
                refine z_imul hC d_Mo_points_36 ?_
                refine z_roVi (As := [.int (iI (4 * j)), .int (iI (4 * k))]) (rest := []) hC (c_Mo_same l D t ts o qT qC qF qY qZ qu qv qw qg qh qx qc qa qb qd qp qq cd z lv fm F (4 * j) (4 * k) (by omega) (by omega) hF) (cw_V hC k_623 k_625 kp_43 k_6 k_626 ye_Mo_same (by decide)) hP hK hE hS [0, 1] rfl 0 (ci := 5) rfl rfl rfl rfl hl.1 rfl (Nat.le_of_ble_eq_true rfl) ⟨Nat.le_of_ble_eq_true rfl, Nat.le_of_ble_eq_true rfl⟩ d_Mo_points_37 ?_
                refine z_if_neB (tgt := 47) hC d_Mo_points_40 (by decide) (fun h40 => ?_) (fun h40 => ?_)
                · refine z_iconst hC d_Mo_points_47 ?_
                  refine lv_istore_n (lv' := [(3, .int (iI 0)), (4, .int (iI j)), (2, .int (iI k)), (1, .int (iI ct)), (0, .ref o)]) hC.1 hC.2.1 d_Mo_points_48 rfl hl (by decide) rfl (fun ls hl => ?_)
                  refine lv_iinc (v := iI (j + 1)) (lv' := [(4, .int (iI (j + 1))), (3, .int (iI 0)), (2, .int (iI k)), (1, .int (iI ct)), (0, .ref o)]) hC.1 hC.2.1 d_Mo_points_49 hl (k := 1) rfl (z_inc (by omega)) (by decide) rfl (fun ls hl => ?_)
                  refine z_goto (tgt := 19) hC d_Mo_points_52 (by decide) ?_
                  exact ih19 false (j + 1) _ (by omega) (by omega) (any_st1 (by omega) hl0 h26 false (by simp [h40])) (lv_sub hl [0, 1, 2, 3, 4] rfl)
                · refine z_iconst hC d_Mo_points_43 ?_
                  refine z_goto (tgt := 48) hC d_Mo_points_44 (by decide) ?_
                  refine lv_istore_n (lv' := [(3, .int (iI 1)), (4, .int (iI j)), (2, .int (iI k)), (1, .int (iI ct)), (0, .ref o)]) hC.1 hC.2.1 d_Mo_points_48 rfl hl (by decide) rfl (fun ls hl => ?_)
                  refine lv_iinc (v := iI (j + 1)) (lv' := [(4, .int (iI (j + 1))), (3, .int (iI 1)), (2, .int (iI k)), (1, .int (iI ct)), (0, .ref o)]) hC.1 hC.2.1 d_Mo_points_49 hl (k := 1) rfl (z_inc (by omega)) (by decide) rfl (fun ls hl => ?_)
                  refine z_goto (tgt := 19) hC d_Mo_points_52 (by decide) ?_
                  exact ih19 true (j + 1) _ (by omega) (by omega) (any_st1 (by omega) hl0 h26 true (by simp [h40])) (lv_sub hl [0, 1, 2, 3, 4] rfl)
        exact L19 (k - 0 + 1 : Int).toNat true 0 _ (by omega) (by omega) (by rfl) (lv_sub hl [0, 1, 2, 3, 4] rfl)
  exact L4 (3 * z - 0 + 1 : Int).toNat 0 0 _ (by omega) (by omega) (by rfl) (lv_sub hl [0, 1, 2] rfl)
theorem ye_Mo_wholes : ye y_Mo_wholes R_Mo 0 := by unfold ye; decide +kernel
abbrev rm_Mo_wholes : Room := { frames := 1, cells := 0, slots := 0, locals := 23 }
set_option maxHeartbeats 4000000 in
set_option maxRecDepth 100000 in
theorem c_Mo_wholes (l : Launch) (D : va_G) (t : vt) (ts : Nat → Nat) (o qT qC qF qY qZ qu qv qw qg qh qx qc qa qb qd qp qq : Nat) (cd z lv fm : Int) (T F : Int → Int) (hz : 0 ≤ z ∧ z ≤ 400) (hT : bT T) (hF : bF F) : Met l y_Mo_wholes (.code y_Mo_wholes b_Mo_wholes 5 (some .int) :: tb_ws) rm_Mo_wholes (RoP D t ts [.ref o] [(o, .inr (5, [.int (iI cd), .int (iI z), .int (iI lv), .ref qT, .ref qC, .ref qF, .ref qY, .ref qZ, .ref qu, .ref qv, .ref qw, .ref qg, .ref qh, .ref qx, .ref qc, .ref qa, .ref qb, .ref qd, .int (iI fm), .ref qp, .ref qq])), (qT, eI t.1 1200 T), (qC, eI t.1 14400 F)]) (vp_Si (fun zr => zr = iI (cprZ T F z))) 0 0 (fun _ => False) := by
  refine ro_i (by decide +kernel) (Nat.le_of_ble_eq_true rfl) ?_
  intro zp ze zs zm zb zt zc zQ ls hC hP hK hE hl ret
  have hS : va_S (fun _ => False) zs.heap zs.heap [] := va_S.rf
  have hl : lv_has ls 5 [(0, .ref o)] := hl
  have retv : ∀ (pc : Nat) (ls : Array Slot) (zv : Int), decode b_Mo_wholes pc = .ok (.ireturn, 1) → zv = (cprZ T F z) → W zp l ze rm_Mo_wholes zs zm [.ref o].toArray zb zt zc zs.heap [] 0 0 zQ (F0 zm pc ls [.int (iI zv)]) := fun pc ls v d h => by rw [h]; exact ret pc ls d
  refine z_iconst hC d_Mo_wholes_0 ?_
  refine lv_istore_n (lv' := [(1, .int (iI 0)), (0, .ref o)]) hC.1 hC.2.1 d_Mo_wholes_1 rfl hl (by decide) rfl (fun ls hl => ?_)
  refine z_iconst hC d_Mo_wholes_2 ?_
  refine lv_istore_n (lv' := [(2, .int (iI 0)), (1, .int (iI 0)), (0, .ref o)]) hC.1 hC.2.1 d_Mo_wholes_3 rfl hl (by decide) rfl (fun ls hl => ?_)
  have L4 : ∀ (fu : Nat) (ct : Int) (n : Int) (ls : Array Slot), z - n + 1 ≤ (fu : Int) → (0 ≤ n ∧ n ≤ z) → (ct = cntZ n.toNat (fun n => ipZ T F z n)) → lv_has ls 5 [(2, .int (iI n)), (1, .int (iI ct)), (0, .ref o)] → W zp l ze rm_Mo_wholes zs zm [.ref o].toArray zb zt zc zs.heap [] 0 0 zQ (F0 zm 4 ls []) := by
    intro fu
    induction fu with
    | zero =>
      intro ct n ls hm4 hn ec hl
      exact absurd hm4 (by omega)
    | succ fu ih4 =>
      intro ct n ls hm4 hn ec hl
      refine lv_iload_n hC.1 hC.2.1 d_Mo_wholes_4 rfl (lv_at hl 0 rfl) ?_
      refine lv_aload_n hC.1 hC.2.1 d_Mo_wholes_5 rfl (lv_at hl 2 rfl) ?_
      refine z_get (ci := 5) (C := R_Mo) (T := F_Mo) (N := 21) (v := .int (iI z)) hC in_Mo hK hP 0 rfl rfl 1 (by decide) k_454 rfl d_Mo_wholes_6 ?_
      refine z_icmp_ge (tgt := 122) hC d_Mo_wholes_9 (by decide) (by omega) (by omega) (fun h9 => ?_) (fun h9 => ?_)
      · refine lv_iload_n hC.1 hC.2.1 d_Mo_wholes_122 rfl (lv_at hl 1 rfl) ?_
        exact retv 123 _ _ d_Mo_wholes_123 (by rw [ec, show n = z by omega]; rfl)
      · refine z_iconst hC d_Mo_wholes_12 ?_
        refine lv_istore_n (lv' := [(3, .int (iI 0)), (2, .int (iI n)), (1, .int (iI ct)), (0, .ref o)]) hC.1 hC.2.1 d_Mo_wholes_13 rfl hl (by decide) rfl (fun ls hl => ?_)
        refine z_iconst hC d_Mo_wholes_14 ?_
        refine lv_istore (lv' := [(4, .int (iI 0)), (3, .int (iI 0)), (2, .int (iI n)), (1, .int (iI ct)), (0, .ref o)]) hC.1 hC.2.1 d_Mo_wholes_15 hl (by decide) rfl (fun ls hl => ?_)
        have L17 : ∀ (fu : Nat) (al : Bool) (m : Int) (ls : Array Slot), z - m + 1 ≤ (fu : Int) → (0 ≤ m ∧ m ≤ z) → (al = anyZ m.toNat (fun m => ipf T F n m)) → lv_has ls 5 [(4, .int (iI m)), (3, .int (iI (zB al))), (2, .int (iI n)), (1, .int (iI ct)), (0, .ref o)] → W zp l ze rm_Mo_wholes zs zm [.ref o].toArray zb zt zc zs.heap [] 0 0 zQ (F0 zm 17 ls []) := by
          intro fu
          induction fu with
          | zero =>
            intro al m ls hm17 hm hl0 hl
            exact absurd hm17 (by omega)
          | succ fu ih17 =>
            intro al m ls hm17 hm hl0 hl
            refine lv_iload hC.1 hC.2.1 d_Mo_wholes_17 (lv_at hl 0 rfl) ?_
            refine lv_aload_n hC.1 hC.2.1 d_Mo_wholes_19 rfl (lv_at hl 4 rfl) ?_
            refine z_get (ci := 5) (C := R_Mo) (T := F_Mo) (N := 21) (v := .int (iI z)) hC in_Mo hK hP 0 rfl rfl 1 (by decide) k_454 rfl d_Mo_wholes_20 ?_
            refine z_icmp_ge (tgt := 104) hC d_Mo_wholes_23 (by decide) (by omega) (by omega) (fun h23 => ?_) (fun h23 => ?_)
            · have hal : al = ipZ T F z n := anyZ_stop0 (by omega) (by omega) hl0 (by first | exact Or.inr h27 | exact Or.inl (by omega))
              refine lv_iload_n hC.1 hC.2.1 d_Mo_wholes_104 rfl (lv_at hl 3 rfl) ?_
              refine lv_iload_n hC.1 hC.2.1 d_Mo_wholes_105 rfl (lv_at hl 1 rfl) ?_
              refine z_if_eqB (tgt := 113) hC d_Mo_wholes_106 (by decide) (fun h106 => ?_) (fun h106 => ?_)
              · refine z_iconst hC d_Mo_wholes_113 ?_
                refine z_iadd hC d_Mo_wholes_114 ?_
                refine z_topi (z := ct) (by omega) ?_
                refine lv_istore_n (lv' := [(1, .int (iI ct)), (4, .int (iI m)), (3, .int (iI (zB al))), (2, .int (iI n)), (0, .ref o)]) hC.1 hC.2.1 d_Mo_wholes_115 rfl hl (by decide) rfl (fun ls hl => ?_)
                refine lv_iinc (v := iI (n + 1)) (lv' := [(2, .int (iI (n + 1))), (1, .int (iI ct)), (4, .int (iI m)), (3, .int (iI (zB al))), (0, .ref o)]) hC.1 hC.2.1 d_Mo_wholes_116 hl (k := 3) rfl (z_inc (by omega)) (by decide) rfl (fun ls hl => ?_)
                refine z_goto (tgt := 4) hC d_Mo_wholes_119 (by decide) ?_
                exact ih4 ct (n + 1) _ (by omega) (by omega) (by rw [cntZ_s (by omega), ← hal, h106, ec]; simp) (lv_sub hl [0, 1, 4] rfl)
              · refine z_iconst hC d_Mo_wholes_109 ?_
                refine z_goto (tgt := 114) hC d_Mo_wholes_110 (by decide) ?_
                refine z_iadd hC d_Mo_wholes_114 ?_
                refine lv_istore_n (lv' := [(1, .int (iI (ct + 1))), (4, .int (iI m)), (3, .int (iI (zB al))), (2, .int (iI n)), (0, .ref o)]) hC.1 hC.2.1 d_Mo_wholes_115 rfl hl (by decide) rfl (fun ls hl => ?_)
                refine lv_iinc (v := iI (n + 1)) (lv' := [(2, .int (iI (n + 1))), (1, .int (iI (ct + 1))), (4, .int (iI m)), (3, .int (iI (zB al))), (0, .ref o)]) hC.1 hC.2.1 d_Mo_wholes_116 hl (k := 3) rfl (z_inc (by omega)) (by decide) rfl (fun ls hl => ?_)
                refine z_goto (tgt := 4) hC d_Mo_wholes_119 (by decide) ?_
                exact ih4 (ct + 1) (n + 1) _ (by omega) (by omega) (by rw [cntZ_s (by omega), ← hal, h106, ec]; simp) (lv_sub hl [0, 1, 4] rfl)
            · refine lv_iload_n hC.1 hC.2.1 d_Mo_wholes_26 rfl (lv_at hl 1 rfl) ?_
              refine z_if_neB (tgt := 104) hC d_Mo_wholes_27 (by decide) (fun h27 => ?_) (fun h27 => ?_)
              · have hal : al = ipZ T F z n := anyZ_stop0 (by omega) (by omega) hl0 (by first | exact Or.inr h27 | exact Or.inl (by omega))
                refine lv_iload_n hC.1 hC.2.1 d_Mo_wholes_104 rfl (lv_at hl 3 rfl) ?_
                refine lv_iload_n hC.1 hC.2.1 d_Mo_wholes_105 rfl (lv_at hl 1 rfl) ?_
                refine z_if_eqB (tgt := 113) hC d_Mo_wholes_106 (by decide) (fun h106 => ?_) (fun h106 => ?_)
                · refine z_iconst hC d_Mo_wholes_113 ?_
                  refine z_iadd hC d_Mo_wholes_114 ?_
                  refine z_topi (z := ct) (by omega) ?_
                  refine lv_istore_n (lv' := [(1, .int (iI ct)), (4, .int (iI m)), (3, .int (iI (zB al))), (2, .int (iI n)), (0, .ref o)]) hC.1 hC.2.1 d_Mo_wholes_115 rfl hl (by decide) rfl (fun ls hl => ?_)
                  refine lv_iinc (v := iI (n + 1)) (lv' := [(2, .int (iI (n + 1))), (1, .int (iI ct)), (4, .int (iI m)), (3, .int (iI (zB al))), (0, .ref o)]) hC.1 hC.2.1 d_Mo_wholes_116 hl (k := 3) rfl (z_inc (by omega)) (by decide) rfl (fun ls hl => ?_)
                  refine z_goto (tgt := 4) hC d_Mo_wholes_119 (by decide) ?_
                  exact ih4 ct (n + 1) _ (by omega) (by omega) (by rw [cntZ_s (by omega), ← hal, h106, ec]; simp) (lv_sub hl [0, 1, 4] rfl)
                · refine z_iconst hC d_Mo_wholes_109 ?_
                  refine z_goto (tgt := 114) hC d_Mo_wholes_110 (by decide) ?_
                  refine z_iadd hC d_Mo_wholes_114 ?_
                  refine lv_istore_n (lv' := [(1, .int (iI (ct + 1))), (4, .int (iI m)), (3, .int (iI (zB al))), (2, .int (iI n)), (0, .ref o)]) hC.1 hC.2.1 d_Mo_wholes_115 rfl hl (by decide) rfl (fun ls hl => ?_)
                  refine lv_iinc (v := iI (n + 1)) (lv' := [(2, .int (iI (n + 1))), (1, .int (iI (ct + 1))), (4, .int (iI m)), (3, .int (iI (zB al))), (0, .ref o)]) hC.1 hC.2.1 d_Mo_wholes_116 hl (k := 3) rfl (z_inc (by omega)) (by decide) rfl (fun ls hl => ?_)
                  refine z_goto (tgt := 4) hC d_Mo_wholes_119 (by decide) ?_
                  exact ih4 (ct + 1) (n + 1) _ (by omega) (by omega) (by rw [cntZ_s (by omega), ← hal, h106, ec]; simp) (lv_sub hl [0, 1, 4] rfl)
              · refine lv_iload hC.1 hC.2.1 d_Mo_wholes_30 (lv_at hl 0 rfl) ?_
                refine lv_iload_n hC.1 hC.2.1 d_Mo_wholes_32 rfl (lv_at hl 2 rfl) ?_
                refine z_icmp_eq (tgt := 96) hC d_Mo_wholes_33 (by decide) (by omega) (by omega) (fun h33 => ?_) (fun h33 => ?_)
                · refine z_iconst hC d_Mo_wholes_96 ?_
                  refine lv_istore_n (lv' := [(3, .int (iI 0)), (4, .int (iI m)), (2, .int (iI n)), (1, .int (iI ct)), (0, .ref o)]) hC.1 hC.2.1 d_Mo_wholes_97 rfl hl (by decide) rfl (fun ls hl => ?_)
                  refine lv_iinc (v := iI (m + 1)) (lv' := [(4, .int (iI (m + 1))), (3, .int (iI 0)), (2, .int (iI n)), (1, .int (iI ct)), (0, .ref o)]) hC.1 hC.2.1 d_Mo_wholes_98 hl (k := 1) rfl (z_inc (by omega)) (by decide) rfl (fun ls hl => ?_)
                  refine z_goto (tgt := 17) hC d_Mo_wholes_101 (by decide) ?_
                  exact ih17 false (m + 1) _ (by omega) (by omega) (any_st0 (by omega) hl0 h27 false (by unfold ipf; simp [h33])) (lv_sub hl [0, 1, 2, 3, 4] rfl)
                · refine lv_aload_n hC.1 hC.2.1 d_Mo_wholes_36 rfl (lv_at hl 4 rfl) ?_
                  refine z_get (ci := 5) (C := R_Mo) (T := F_Mo) (N := 21) (v := .ref qT) hC in_Mo hK hP 0 rfl rfl 3 (by decide) k_456 rfl d_Mo_wholes_37 ?_
                  refine lv_iload hC.1 hC.2.1 d_Mo_wholes_40 (lv_at hl 0 rfl) ?_
                  refine z_iald hC hK hP 1 rfl (by omega) d_Mo_wholes_42 ?_
                  refine lv_aload_n hC.1 hC.2.1 d_Mo_wholes_43 rfl (lv_at hl 4 rfl) ?_
                  refine z_get (ci := 5) (C := R_Mo) (T := F_Mo) (N := 21) (v := .ref qT) hC in_Mo hK hP 0 rfl rfl 3 (by decide) k_456 rfl d_Mo_wholes_44 ?_
                  refine lv_iload_n hC.1 hC.2.1 d_Mo_wholes_47 rfl (lv_at hl 2 rfl) ?_
                  refine z_iald hC hK hP 1 rfl (by omega) d_Mo_wholes_48 ?_
                  refine z_icmp_ne (tgt := 96) hC d_Mo_wholes_49 (by decide) (by have := hT m; omega) (by have := hT n; omega) (fun h49 => ?_) (fun h49 => ?_)
                  · refine z_iconst hC d_Mo_wholes_96 ?_
                    refine lv_istore_n (lv' := [(3, .int (iI 0)), (4, .int (iI m)), (2, .int (iI n)), (1, .int (iI ct)), (0, .ref o)]) hC.1 hC.2.1 d_Mo_wholes_97 rfl hl (by decide) rfl (fun ls hl => ?_)
                    refine lv_iinc (v := iI (m + 1)) (lv' := [(4, .int (iI (m + 1))), (3, .int (iI 0)), (2, .int (iI n)), (1, .int (iI ct)), (0, .ref o)]) hC.1 hC.2.1 d_Mo_wholes_98 hl (k := 1) rfl (z_inc (by omega)) (by decide) rfl (fun ls hl => ?_)
                    refine z_goto (tgt := 17) hC d_Mo_wholes_101 (by decide) ?_
                    exact ih17 false (m + 1) _ (by omega) (by omega) (any_st0 (by omega) hl0 h27 false (by unfold ipf; simp [h33, h49])) (lv_sub hl [0, 1, 2, 3, 4] rfl)
                  · refine lv_aload_n hC.1 hC.2.1 d_Mo_wholes_52 rfl (lv_at hl 4 rfl) ?_
                    refine lv_aload_n hC.1 hC.2.1 d_Mo_wholes_53 rfl (lv_at hl 4 rfl) ?_
                    refine lv_iload hC.1 hC.2.1 d_Mo_wholes_54 (lv_at hl 0 rfl) ?_
                    refine z_iconst hC d_Mo_wholes_56 ?_
                    refine z_roVi (As := [.int (iI m), .int (iI 1)]) (rest := [.ref o]) hC (c_Mo_at l D t ts o m 1 (12 * m + 4) (by omega)) (cw_V hC k_537 k_539 kp_26 k_6 k_540 ye_Mo_at (by decide)) hP hK hE hS [] rfl 0 (ci := 5) rfl rfl rfl rfl hl.1 rfl (Nat.le_of_ble_eq_true rfl) ⟨Nat.le_of_ble_eq_true rfl, Nat.le_of_ble_eq_true rfl⟩ d_Mo_wholes_57 ?_
                    refine lv_aload_n hC.1 hC.2.1 d_Mo_wholes_60 rfl (lv_at hl 4 rfl) ?_
                    refine lv_iload_n hC.1 hC.2.1 d_Mo_wholes_61 rfl (lv_at hl 2 rfl) ?_
                    refine z_iconst hC d_Mo_wholes_62 ?_
                    refine z_roVi (As := [.int (iI n), .int (iI 1)]) (rest := [.int (iI (12 * m + 4)), .ref o]) hC (c_Mo_at l D t ts o n 1 (12 * n + 4) (by omega)) (cw_V hC k_537 k_539 kp_26 k_6 k_540 ye_Mo_at (by decide)) hP hK hE hS [] rfl 0 (ci := 5) rfl rfl rfl rfl hl.1 rfl (Nat.le_of_ble_eq_true rfl) ⟨Nat.le_of_ble_eq_true rfl, Nat.le_of_ble_eq_true rfl⟩ d_Mo_wholes_63 ?_
                    refine z_roVi (As := [.int (iI (12 * m + 4)), .int (iI (12 * n + 4))]) (rest := []) hC (c_Mo_same l D t ts o qT qC qF qY qZ qu qv qw qg qh qx qc qa qb qd qp qq cd z lv fm F (12 * m + 4) (12 * n + 4) (by omega) (by omega) hF) (cw_V hC k_623 k_625 kp_43 k_6 k_626 ye_Mo_same (by decide)) hP hK hE hS [0, 2] rfl 0 (ci := 5) rfl rfl rfl rfl hl.1 rfl (Nat.le_of_ble_eq_true rfl) ⟨Nat.le_of_ble_eq_true rfl, Nat.le_of_ble_eq_true rfl⟩ d_Mo_wholes_66 ?_
                    refine z_if_eqB (tgt := 96) hC d_Mo_wholes_69 (by decide) (fun h69 => ?_) (fun h69 => ?_)
                    · refine z_iconst hC d_Mo_wholes_96 ?_
                      refine lv_istore_n (lv' := [(3, .int (iI 0)), (4, .int (iI m)), (2, .int (iI n)), (1, .int (iI ct)), (0, .ref o)]) hC.1 hC.2.1 d_Mo_wholes_97 rfl hl (by decide) rfl (fun ls hl => ?_)
                      refine lv_iinc (v := iI (m + 1)) (lv' := [(4, .int (iI (m + 1))), (3, .int (iI 0)), (2, .int (iI n)), (1, .int (iI ct)), (0, .ref o)]) hC.1 hC.2.1 d_Mo_wholes_98 hl (k := 1) rfl (z_inc (by omega)) (by decide) rfl (fun ls hl => ?_)
                      refine z_goto (tgt := 17) hC d_Mo_wholes_101 (by decide) ?_
                      exact ih17 false (m + 1) _ (by omega) (by omega) (any_st0 (by omega) hl0 h27 false (by unfold ipf; simp [h33, h49, h69])) (lv_sub hl [0, 1, 2, 3, 4] rfl)
                    · refine lv_aload_n hC.1 hC.2.1 d_Mo_wholes_72 rfl (lv_at hl 4 rfl) ?_
                      refine lv_aload_n hC.1 hC.2.1 d_Mo_wholes_73 rfl (lv_at hl 4 rfl) ?_
                      refine lv_iload hC.1 hC.2.1 d_Mo_wholes_74 (lv_at hl 0 rfl) ?_
                      refine z_iconst hC d_Mo_wholes_76 ?_
                      refine z_roVi (As := [.int (iI m), .int (iI 2)]) (rest := [.ref o]) hC (c_Mo_at l D t ts o m 2 (12 * m + 8) (by omega)) (cw_V hC k_537 k_539 kp_26 k_6 k_540 ye_Mo_at (by decide)) hP hK hE hS [] rfl 0 (ci := 5) rfl rfl rfl rfl hl.1 rfl (Nat.le_of_ble_eq_true rfl) ⟨Nat.le_of_ble_eq_true rfl, Nat.le_of_ble_eq_true rfl⟩ d_Mo_wholes_77 ?_
                      refine lv_aload_n hC.1 hC.2.1 d_Mo_wholes_80 rfl (lv_at hl 4 rfl) ?_
                      refine lv_iload_n hC.1 hC.2.1 d_Mo_wholes_81 rfl (lv_at hl 2 rfl) ?_
                      refine z_iconst hC d_Mo_wholes_82 ?_
                      refine z_roVi (As := [.int (iI n), .int (iI 2)]) (rest := [.int (iI (12 * m + 8)), .ref o]) hC (c_Mo_at l D t ts o n 2 (12 * n + 8) (by omega)) (cw_V hC k_537 k_539 kp_26 k_6 k_540 ye_Mo_at (by decide)) hP hK hE hS [] rfl 0 (ci := 5) rfl rfl rfl rfl hl.1 rfl (Nat.le_of_ble_eq_true rfl) ⟨Nat.le_of_ble_eq_true rfl, Nat.le_of_ble_eq_true rfl⟩ d_Mo_wholes_83 ?_
                      refine z_roVi (As := [.int (iI (12 * m + 8)), .int (iI (12 * n + 8))]) (rest := []) hC (c_Mo_same l D t ts o qT qC qF qY qZ qu qv qw qg qh qx qc qa qb qd qp qq cd z lv fm F (12 * m + 8) (12 * n + 8) (by omega) (by omega) hF) (cw_V hC k_623 k_625 kp_43 k_6 k_626 ye_Mo_same (by decide)) hP hK hE hS [0, 2] rfl 0 (ci := 5) rfl rfl rfl rfl hl.1 rfl (Nat.le_of_ble_eq_true rfl) ⟨Nat.le_of_ble_eq_true rfl, Nat.le_of_ble_eq_true rfl⟩ d_Mo_wholes_86 ?_
                      refine z_if_eqB (tgt := 96) hC d_Mo_wholes_89 (by decide) (fun h89 => ?_) (fun h89 => ?_)
                      · refine z_iconst hC d_Mo_wholes_96 ?_
                        refine lv_istore_n (lv' := [(3, .int (iI 0)), (4, .int (iI m)), (2, .int (iI n)), (1, .int (iI ct)), (0, .ref o)]) hC.1 hC.2.1 d_Mo_wholes_97 rfl hl (by decide) rfl (fun ls hl => ?_)
                        refine lv_iinc (v := iI (m + 1)) (lv' := [(4, .int (iI (m + 1))), (3, .int (iI 0)), (2, .int (iI n)), (1, .int (iI ct)), (0, .ref o)]) hC.1 hC.2.1 d_Mo_wholes_98 hl (k := 1) rfl (z_inc (by omega)) (by decide) rfl (fun ls hl => ?_)
                        refine z_goto (tgt := 17) hC d_Mo_wholes_101 (by decide) ?_
                        exact ih17 false (m + 1) _ (by omega) (by omega) (any_st0 (by omega) hl0 h27 false (by unfold ipf; simp [h33, h49, h69, h89])) (lv_sub hl [0, 1, 2, 3, 4] rfl)
                      · refine z_iconst hC d_Mo_wholes_92 ?_
                        refine z_goto (tgt := 97) hC d_Mo_wholes_93 (by decide) ?_
                        refine lv_istore_n (lv' := [(3, .int (iI 1)), (4, .int (iI m)), (2, .int (iI n)), (1, .int (iI ct)), (0, .ref o)]) hC.1 hC.2.1 d_Mo_wholes_97 rfl hl (by decide) rfl (fun ls hl => ?_)
                        refine lv_iinc (v := iI (m + 1)) (lv' := [(4, .int (iI (m + 1))), (3, .int (iI 1)), (2, .int (iI n)), (1, .int (iI ct)), (0, .ref o)]) hC.1 hC.2.1 d_Mo_wholes_98 hl (k := 1) rfl (z_inc (by omega)) (by decide) rfl (fun ls hl => ?_)
                        refine z_goto (tgt := 17) hC d_Mo_wholes_101 (by decide) ?_
                        exact ih17 true (m + 1) _ (by omega) (by omega) (any_st0 (by omega) hl0 h27 true (by unfold ipf; simp [h33, h49, h69, h89])) (lv_sub hl [0, 1, 2, 3, 4] rfl)
        exact L17 (z - 0 + 1 : Int).toNat false 0 _ (by omega) (by omega) (by rfl) (lv_sub hl [0, 1, 2, 3, 4] rfl)
  exact L4 (z - 0 + 1 : Int).toNat 0 0 _ (by omega) (by omega) (by rfl) (lv_sub hl [0, 1, 2] rfl)
theorem ye_Mo_count : ye y_Mo_count R_Mo 1 := by unfold ye; decide +kernel
abbrev rm_Mo_count : Room := { frames := 3, cells := 0, slots := 0, locals := 74 }
set_option maxHeartbeats 4000000 in
set_option maxRecDepth 100000 in
theorem c_Mo_count (l : Launch) (D : va_G) (t : vt) (ts : Nat → Nat) (o qT qC qF qY qZ qu qv qw qg qh qx qc qa qb qd qp qq : Nat) (cd z lv fm : Int) (T F : Int → Int) (hz : 0 ≤ z ∧ z ≤ 400) (hT : bT T) (hF : bF F) (w : Int) (hw : inI w) (sz : Nat) : Met l y_Mo_count (.code y_Mo_count b_Mo_count 4 (some .int) :: tb_ws) rm_Mo_count (MP D t ts [.ref o, .int (iI w)] [(o, .inr (5, [.int (iI cd), .int (iI z), .int (iI lv), .ref qT, .ref qC, .ref qF, .ref qY, .ref qZ, .ref qu, .ref qv, .ref qw, .ref qg, .ref qh, .ref qx, .ref qc, .ref qa, .ref qb, .ref qd, .int (iI fm), .ref qp, .ref qq])), (qT, eI t.1 1200 T), (qC, eI t.1 14400 F)] sz) (va_Qi (fun zr u => zr = iI ((fun _ : Unit => mcouZ T F z lv w) u) ∧ ((fun _ : Unit => True)) u) (MB D (va_A [(o, .inr (5, [.int (iI cd), .int (iI z), .int (iI lv), .ref qT, .ref qC, .ref qF, .ref qY, .ref qZ, .ref qu, .ref qv, .ref qw, .ref qg, .ref qh, .ref qx, .ref qc, .ref qa, .ref qb, .ref qd, .int (iI fm), .ref qp, .ref qq])), (qT, eI t.1 1200 T), (qC, eI t.1 14400 F)] sz) (fun _ : Unit => [(o, .inr (5, [.int (iI 0), .int (iI z), .int (iI lv), .ref qT, .ref qC, .ref qF, .ref qY, .ref qZ, .ref qu, .ref qv, .ref qw, .ref qg, .ref qh, .ref qx, .ref qc, .ref qa, .ref qb, .ref qd, .int (iI fm), .ref qp, .ref qq])), (qT, eI t.1 1200 T), (qC, eI t.1 14400 F)])) (va_A [(o, .inr (5, [.int (iI cd), .int (iI z), .int (iI lv), .ref qT, .ref qC, .ref qF, .ref qY, .ref qZ, .ref qu, .ref qv, .ref qw, .ref qg, .ref qh, .ref qx, .ref qc, .ref qa, .ref qb, .ref qd, .int (iI fm), .ref qp, .ref qq])), (qT, eI t.1 1200 T), (qC, eI t.1 14400 F)] sz)) 0 0 (va_A [(o, .inr (5, [.int (iI cd), .int (iI z), .int (iI lv), .ref qT, .ref qC, .ref qF, .ref qY, .ref qZ, .ref qu, .ref qv, .ref qw, .ref qg, .ref qh, .ref qx, .ref qc, .ref qa, .ref qb, .ref qd, .int (iI fm), .ref qp, .ref qq])), (qT, eI t.1 1200 T), (qC, eI t.1 14400 F)] sz) := by
  refine m_i (by decide +kernel) (Nat.le_of_ble_eq_true rfl) ?_
  intro zp ze zs zm zb zt zc zQ A ls hC hA hP hK hD hE hS hl ret
  have hl : lv_has ls 4 [(0, .ref o), (1, .int (iI w))] := hl
  have retv : ∀ (uu : Unit) (H : Heap) (locs : List Loc) (pc : Nat) (ls : Array Slot) (zv : Int), decode b_Mo_count pc = .ok (.ireturn, 1) → (zv = (mcouZ T F z lv w) ∧ (True)) → va_P D classes ([(o, .inr (5, [.int (iI 0), .int (iI z), .int (iI lv), .ref qT, .ref qC, .ref qF, .ref qY, .ref qZ, .ref qu, .ref qv, .ref qw, .ref qg, .ref qh, .ref qx, .ref qc, .ref qa, .ref qb, .ref qd, .int (iI fm), .ref qp, .ref qq])), (qT, eI t.1 1200 T), (qC, eI t.1 14400 F)]) H → va_D A ([(o, .inr (5, [.int (iI 0), .int (iI z), .int (iI lv), .ref qT, .ref qC, .ref qF, .ref qY, .ref qZ, .ref qu, .ref qv, .ref qw, .ref qg, .ref qh, .ref qx, .ref qc, .ref qa, .ref qb, .ref qd, .int (iI fm), .ref qp, .ref qq])), (qT, eI t.1 1200 T), (qC, eI t.1 14400 F)]) → va_S A zs.heap H locs → W zp l ze rm_Mo_count zs zm [.ref o, .int (iI w)].toArray zb zt zc H locs 0 0 zQ (F0 zm pc ls [.int (iI zv)]) := fun u H locs pc ls v d h hP hD hS => by rw [h.1]; exact ret u H locs pc ls d h.2 hP hD hS
  refine lv_aload_n hC.1 hC.2.1 d_Mo_count_0 rfl (lv_at hl 0 rfl) ?_
  refine z_iconst hC d_Mo_count_1 ?_
  refine z_put (ci := 5) (C := R_Mo) (T := F_Mo) (N := 21) (v := .int (iI 0)) (ws' := [(o, .inr (5, [.int (iI 0), .int (iI z), .int (iI lv), .ref qT, .ref qC, .ref qF, .ref qY, .ref qZ, .ref qu, .ref qv, .ref qw, .ref qg, .ref qh, .ref qx, .ref qc, .ref qa, .ref qb, .ref qd, .int (iI fm), .ref qp, .ref qq])), (qT, eI t.1 1200 T), (qC, eI t.1 14400 F)]) hC in_Mo t_Mo t_Mo_ok n_Mo hK hP hD hS 0 rfl rfl 0 (by decide) k_453 rfl rfl rfl (Nat.le_of_ble_eq_true rfl) rfl d_Mo_count_2 (fun H locs hP hD hS => ?_)
  refine z_iconst hC d_Mo_count_5 ?_
  refine lv_istore_n (lv' := [(2, .int (iI 0)), (0, .ref o), (1, .int (iI w))]) hC.1 hC.2.1 d_Mo_count_6 rfl hl (by decide) rfl (fun ls hl => ?_)
  refine z_iconst hC d_Mo_count_7 ?_
  refine lv_istore_n (lv' := [(3, .int (iI 0)), (2, .int (iI 0)), (0, .ref o), (1, .int (iI w))]) hC.1 hC.2.1 d_Mo_count_8 rfl hl (by decide) rfl (fun ls hl => ?_)
  have L9 : ∀ (fu : Nat) (ct : Int) (n : Int) (H : Heap) (locs : List Loc) (ls : Array Slot), z - n + 1 ≤ (fu : Int) → (0 ≤ n ∧ n ≤ z) → (ct = ctZ T n 0) → va_P D classes [(o, .inr (5, [.int (iI 0), .int (iI z), .int (iI lv), .ref qT, .ref qC, .ref qF, .ref qY, .ref qZ, .ref qu, .ref qv, .ref qw, .ref qg, .ref qh, .ref qx, .ref qc, .ref qa, .ref qb, .ref qd, .int (iI fm), .ref qp, .ref qq])), (qT, eI t.1 1200 T), (qC, eI t.1 14400 F)] H → va_D A [(o, .inr (5, [.int (iI 0), .int (iI z), .int (iI lv), .ref qT, .ref qC, .ref qF, .ref qY, .ref qZ, .ref qu, .ref qv, .ref qw, .ref qg, .ref qh, .ref qx, .ref qc, .ref qa, .ref qb, .ref qd, .int (iI fm), .ref qp, .ref qq])), (qT, eI t.1 1200 T), (qC, eI t.1 14400 F)] → va_S A zs.heap H locs → lv_has ls 4 [(3, .int (iI n)), (2, .int (iI ct)), (0, .ref o), (1, .int (iI w))] → W zp l ze rm_Mo_count zs zm [.ref o, .int (iI w)].toArray zb zt zc H locs 0 0 zQ (F0 zm 9 ls []) := by
    intro fu
    induction fu with
    | zero =>
      intro ct n H locs ls hm9 hn ec hP hD hS hl
      exact absurd hm9 (by omega)
    | succ fu ih9 =>
      intro ct n H locs ls hm9 hn ec hP hD hS hl
      refine lv_iload_n hC.1 hC.2.1 d_Mo_count_9 rfl (lv_at hl 0 rfl) ?_
      refine lv_aload_n hC.1 hC.2.1 d_Mo_count_10 rfl (lv_at hl 2 rfl) ?_
      refine z_get (ci := 5) (C := R_Mo) (T := F_Mo) (N := 21) (v := .int (iI z)) hC in_Mo hK hP 0 rfl rfl 1 (by decide) k_454 rfl d_Mo_count_11 ?_
      refine z_icmp_ge (tgt := 40) hC d_Mo_count_14 (by decide) (by omega) (by omega) (fun h14 => ?_) (fun h14 => ?_)
      · refine lv_iload_n hC.1 hC.2.1 d_Mo_count_40 rfl (lv_at hl 3 rfl) ?_
        rcases (show w = 0 ∨ w = 1 ∨ w = 2 ∨ w = 3 ∨ w = 4 ∨ w = 5 ∨ w = 6 ∨ (w < 0 ∨ 6 < w) by omega) with hw41 | hw41 | hw41 | hw41 | hw41 | hw41 | hw41 | hw41
        · refine lv_tableIn (off := 43) (tgt := 84) hC.1 hC.2.1 d_Mo_count_41 (by rw [iI_toInt (by omega)]; omega) (by rw [iI_toInt (by omega)]; omega) (by rw [iI_toInt (by omega), hw41]; rfl) (by decide) ?_
          refine lv_aload_n hC.1 hC.2.1 d_Mo_count_84 rfl (lv_at hl 2 rfl) ?_
          refine z_get (ci := 5) (C := R_Mo) (T := F_Mo) (N := 21) (v := .int (iI z)) hC in_Mo hK hP 0 rfl rfl 1 (by decide) k_454 rfl d_Mo_count_85 ?_
          have hP9 := hP.sub (ws' := [(o, .inr (5, [.int (iI 0), .int (iI z), .int (iI lv), .ref qT, .ref qC, .ref qF, .ref qY, .ref qZ, .ref qu, .ref qv, .ref qw, .ref qg, .ref qh, .ref qx, .ref qc, .ref qa, .ref qb, .ref qd, .int (iI fm), .ref qp, .ref qq])), (qT, eI t.1 1200 T), (qC, eI t.1 14400 F)]) [0, 1, 2] rfl
          have hD9 := hD.sub (ws' := [(o, .inr (5, [.int (iI 0), .int (iI z), .int (iI lv), .ref qT, .ref qC, .ref qF, .ref qY, .ref qZ, .ref qu, .ref qv, .ref qw, .ref qg, .ref qh, .ref qx, .ref qc, .ref qa, .ref qb, .ref qd, .int (iI fm), .ref qp, .ref qq])), (qT, eI t.1 1200 T), (qC, eI t.1 14400 F)]) [0, 1, 2] (by decide) rfl
          exact retv () _ _ 88 _ _ d_Mo_count_88 ⟨by unfold mcouZ; rw [if_pos (by omega)], trivial⟩ hP9 hD9 hS
        · refine lv_tableIn (off := 48) (tgt := 89) hC.1 hC.2.1 d_Mo_count_41 (by rw [iI_toInt (by omega)]; omega) (by rw [iI_toInt (by omega)]; omega) (by rw [iI_toInt (by omega), hw41]; rfl) (by decide) ?_
          refine lv_iload_n hC.1 hC.2.1 d_Mo_count_89 rfl (lv_at hl 1 rfl) ?_
          have hP9 := hP.sub (ws' := [(o, .inr (5, [.int (iI 0), .int (iI z), .int (iI lv), .ref qT, .ref qC, .ref qF, .ref qY, .ref qZ, .ref qu, .ref qv, .ref qw, .ref qg, .ref qh, .ref qx, .ref qc, .ref qa, .ref qb, .ref qd, .int (iI fm), .ref qp, .ref qq])), (qT, eI t.1 1200 T), (qC, eI t.1 14400 F)]) [0, 1, 2] rfl
          have hD9 := hD.sub (ws' := [(o, .inr (5, [.int (iI 0), .int (iI z), .int (iI lv), .ref qT, .ref qC, .ref qF, .ref qY, .ref qZ, .ref qu, .ref qv, .ref qw, .ref qg, .ref qh, .ref qx, .ref qc, .ref qa, .ref qb, .ref qd, .int (iI fm), .ref qp, .ref qq])), (qT, eI t.1 1200 T), (qC, eI t.1 14400 F)]) [0, 1, 2] (by decide) rfl
          exact retv () _ _ 90 _ _ d_Mo_count_90 ⟨by unfold mcouZ; rw [if_neg (by omega)]; rw [if_pos (by omega)]; rw [ec, show n = z by omega], trivial⟩ hP9 hD9 hS
        · refine lv_tableIn (off := 50) (tgt := 91) hC.1 hC.2.1 d_Mo_count_41 (by rw [iI_toInt (by omega)]; omega) (by rw [iI_toInt (by omega)]; omega) (by rw [iI_toInt (by omega), hw41]; rfl) (by decide) ?_
          refine lv_aload_n hC.1 hC.2.1 d_Mo_count_91 rfl (lv_at hl 2 rfl) ?_
          refine z_get (ci := 5) (C := R_Mo) (T := F_Mo) (N := 21) (v := .int (iI z)) hC in_Mo hK hP 0 rfl rfl 1 (by decide) k_454 rfl d_Mo_count_92 ?_
          refine lv_iload_n hC.1 hC.2.1 d_Mo_count_95 rfl (lv_at hl 1 rfl) ?_
          refine z_isub hC d_Mo_count_96 ?_
          refine z_topi (z := -ct + z) (by omega) ?_
          have hP9 := hP.sub (ws' := [(o, .inr (5, [.int (iI 0), .int (iI z), .int (iI lv), .ref qT, .ref qC, .ref qF, .ref qY, .ref qZ, .ref qu, .ref qv, .ref qw, .ref qg, .ref qh, .ref qx, .ref qc, .ref qa, .ref qb, .ref qd, .int (iI fm), .ref qp, .ref qq])), (qT, eI t.1 1200 T), (qC, eI t.1 14400 F)]) [0, 1, 2] rfl
          have hD9 := hD.sub (ws' := [(o, .inr (5, [.int (iI 0), .int (iI z), .int (iI lv), .ref qT, .ref qC, .ref qF, .ref qY, .ref qZ, .ref qu, .ref qv, .ref qw, .ref qg, .ref qh, .ref qx, .ref qc, .ref qa, .ref qb, .ref qd, .int (iI fm), .ref qp, .ref qq])), (qT, eI t.1 1200 T), (qC, eI t.1 14400 F)]) [0, 1, 2] (by decide) rfl
          exact retv () _ _ 97 _ _ d_Mo_count_97 ⟨by unfold mcouZ; rw [if_neg (by omega)]; rw [if_neg (by omega)]; rw [if_pos (by omega)]; rw [ec, show n = z by omega]; omega, trivial⟩ hP9 hD9 hS
        · refine lv_tableIn (off := 57) (tgt := 98) hC.1 hC.2.1 d_Mo_count_41 (by rw [iI_toInt (by omega)]; omega) (by rw [iI_toInt (by omega)]; omega) (by rw [iI_toInt (by omega), hw41]; rfl) (by decide) ?_
          refine lv_aload_n hC.1 hC.2.1 d_Mo_count_98 rfl (lv_at hl 2 rfl) ?_
          refine z_get (ci := 5) (C := R_Mo) (T := F_Mo) (N := 21) (v := .int (iI lv)) hC in_Mo hK hP 0 rfl rfl 2 (by decide) k_455 rfl d_Mo_count_99 ?_
          have hP9 := hP.sub (ws' := [(o, .inr (5, [.int (iI 0), .int (iI z), .int (iI lv), .ref qT, .ref qC, .ref qF, .ref qY, .ref qZ, .ref qu, .ref qv, .ref qw, .ref qg, .ref qh, .ref qx, .ref qc, .ref qa, .ref qb, .ref qd, .int (iI fm), .ref qp, .ref qq])), (qT, eI t.1 1200 T), (qC, eI t.1 14400 F)]) [0, 1, 2] rfl
          have hD9 := hD.sub (ws' := [(o, .inr (5, [.int (iI 0), .int (iI z), .int (iI lv), .ref qT, .ref qC, .ref qF, .ref qY, .ref qZ, .ref qu, .ref qv, .ref qw, .ref qg, .ref qh, .ref qx, .ref qc, .ref qa, .ref qb, .ref qd, .int (iI fm), .ref qp, .ref qq])), (qT, eI t.1 1200 T), (qC, eI t.1 14400 F)]) [0, 1, 2] (by decide) rfl
          exact retv () _ _ 102 _ _ d_Mo_count_102 ⟨by unfold mcouZ; rw [if_neg (by omega)]; rw [if_neg (by omega)]; rw [if_neg (by omega)]; rw [if_pos (by omega)], trivial⟩ hP9 hD9 hS
        · refine lv_tableIn (off := 62) (tgt := 103) hC.1 hC.2.1 d_Mo_count_41 (by rw [iI_toInt (by omega)]; omega) (by rw [iI_toInt (by omega)]; omega) (by rw [iI_toInt (by omega), hw41]; rfl) (by decide) ?_
          refine lv_aload_n hC.1 hC.2.1 d_Mo_count_103 rfl (lv_at hl 2 rfl) ?_
          refine z_roVi (As := []) (rest := []) hC (c_Mo_edges l D t ts o qT qC qF qY qZ qu qv qw qg qh qx qc qa qb qd qp qq 0 z lv fm F (by omega) hF) (cw_V hC k_695 k_697 kp_56 k_6 k_698 ye_Mo_edges (by decide)) hP hK hE hS [0, 2] rfl 0 (ci := 5) rfl rfl rfl rfl hl.1 rfl (Nat.le_of_ble_eq_true rfl) ⟨Nat.le_of_ble_eq_true rfl, Nat.le_of_ble_eq_true rfl⟩ d_Mo_count_104 ?_
          have hP9 := hP.sub (ws' := [(o, .inr (5, [.int (iI 0), .int (iI z), .int (iI lv), .ref qT, .ref qC, .ref qF, .ref qY, .ref qZ, .ref qu, .ref qv, .ref qw, .ref qg, .ref qh, .ref qx, .ref qc, .ref qa, .ref qb, .ref qd, .int (iI fm), .ref qp, .ref qq])), (qT, eI t.1 1200 T), (qC, eI t.1 14400 F)]) [0, 1, 2] rfl
          have hD9 := hD.sub (ws' := [(o, .inr (5, [.int (iI 0), .int (iI z), .int (iI lv), .ref qT, .ref qC, .ref qF, .ref qY, .ref qZ, .ref qu, .ref qv, .ref qw, .ref qg, .ref qh, .ref qx, .ref qc, .ref qa, .ref qb, .ref qd, .int (iI fm), .ref qp, .ref qq])), (qT, eI t.1 1200 T), (qC, eI t.1 14400 F)]) [0, 1, 2] (by decide) rfl
          exact retv () _ _ 107 _ _ d_Mo_count_107 ⟨by unfold mcouZ; rw [if_neg (by omega)]; rw [if_neg (by omega)]; rw [if_neg (by omega)]; rw [if_neg (by omega)]; rw [if_pos (by omega)], trivial⟩ hP9 hD9 hS
        · refine lv_tableIn (off := 67) (tgt := 108) hC.1 hC.2.1 d_Mo_count_41 (by rw [iI_toInt (by omega)]; omega) (by rw [iI_toInt (by omega)]; omega) (by rw [iI_toInt (by omega), hw41]; rfl) (by decide) ?_
          refine lv_aload_n hC.1 hC.2.1 d_Mo_count_108 rfl (lv_at hl 2 rfl) ?_
          refine z_roVi (As := []) (rest := []) hC (c_Mo_points l D t ts o qT qC qF qY qZ qu qv qw qg qh qx qc qa qb qd qp qq 0 z lv fm F (by omega) hF) (cw_V hC k_706 k_708 kp_58 k_6 k_709 ye_Mo_points (by decide)) hP hK hE hS [0, 2] rfl 0 (ci := 5) rfl rfl rfl rfl hl.1 rfl (Nat.le_of_ble_eq_true rfl) ⟨Nat.le_of_ble_eq_true rfl, Nat.le_of_ble_eq_true rfl⟩ d_Mo_count_109 ?_
          have hP9 := hP.sub (ws' := [(o, .inr (5, [.int (iI 0), .int (iI z), .int (iI lv), .ref qT, .ref qC, .ref qF, .ref qY, .ref qZ, .ref qu, .ref qv, .ref qw, .ref qg, .ref qh, .ref qx, .ref qc, .ref qa, .ref qb, .ref qd, .int (iI fm), .ref qp, .ref qq])), (qT, eI t.1 1200 T), (qC, eI t.1 14400 F)]) [0, 1, 2] rfl
          have hD9 := hD.sub (ws' := [(o, .inr (5, [.int (iI 0), .int (iI z), .int (iI lv), .ref qT, .ref qC, .ref qF, .ref qY, .ref qZ, .ref qu, .ref qv, .ref qw, .ref qg, .ref qh, .ref qx, .ref qc, .ref qa, .ref qb, .ref qd, .int (iI fm), .ref qp, .ref qq])), (qT, eI t.1 1200 T), (qC, eI t.1 14400 F)]) [0, 1, 2] (by decide) rfl
          exact retv () _ _ 112 _ _ d_Mo_count_112 ⟨by unfold mcouZ; rw [if_neg (by omega)]; rw [if_neg (by omega)]; rw [if_neg (by omega)]; rw [if_neg (by omega)]; rw [if_neg (by omega)]; rw [if_pos (by omega)], trivial⟩ hP9 hD9 hS
        · refine lv_tableIn (off := 72) (tgt := 113) hC.1 hC.2.1 d_Mo_count_41 (by rw [iI_toInt (by omega)]; omega) (by rw [iI_toInt (by omega)]; omega) (by rw [iI_toInt (by omega), hw41]; rfl) (by decide) ?_
          refine lv_aload_n hC.1 hC.2.1 d_Mo_count_113 rfl (lv_at hl 2 rfl) ?_
          refine z_roVi (As := []) (rest := []) hC (c_Mo_wholes l D t ts o qT qC qF qY qZ qu qv qw qg qh qx qc qa qb qd qp qq 0 z lv fm T F (by omega) hT hF) (cw_V hC k_710 k_712 kp_59 k_6 k_713 ye_Mo_wholes (by decide)) hP hK hE hS [0, 1, 2] rfl 0 (ci := 5) rfl rfl rfl rfl hl.1 rfl (Nat.le_of_ble_eq_true rfl) ⟨Nat.le_of_ble_eq_true rfl, Nat.le_of_ble_eq_true rfl⟩ d_Mo_count_114 ?_
          have hP9 := hP.sub (ws' := [(o, .inr (5, [.int (iI 0), .int (iI z), .int (iI lv), .ref qT, .ref qC, .ref qF, .ref qY, .ref qZ, .ref qu, .ref qv, .ref qw, .ref qg, .ref qh, .ref qx, .ref qc, .ref qa, .ref qb, .ref qd, .int (iI fm), .ref qp, .ref qq])), (qT, eI t.1 1200 T), (qC, eI t.1 14400 F)]) [0, 1, 2] rfl
          have hD9 := hD.sub (ws' := [(o, .inr (5, [.int (iI 0), .int (iI z), .int (iI lv), .ref qT, .ref qC, .ref qF, .ref qY, .ref qZ, .ref qu, .ref qv, .ref qw, .ref qg, .ref qh, .ref qx, .ref qc, .ref qa, .ref qb, .ref qd, .int (iI fm), .ref qp, .ref qq])), (qT, eI t.1 1200 T), (qC, eI t.1 14400 F)]) [0, 1, 2] (by decide) rfl
          exact retv () _ _ 117 _ _ d_Mo_count_117 ⟨by unfold mcouZ; rw [if_neg (by omega)]; rw [if_neg (by omega)]; rw [if_neg (by omega)]; rw [if_neg (by omega)]; rw [if_neg (by omega)]; rw [if_neg (by omega)]; rw [if_pos (by omega)], trivial⟩ hP9 hD9 hS
        · refine lv_tableOut (tgt := 118) hC.1 hC.2.1 d_Mo_count_41 (by rw [iI_toInt (by omega)]; omega) (by decide) ?_
          refine z_iconst hC d_Mo_count_118 ?_
          have hP9 := hP.sub (ws' := [(o, .inr (5, [.int (iI 0), .int (iI z), .int (iI lv), .ref qT, .ref qC, .ref qF, .ref qY, .ref qZ, .ref qu, .ref qv, .ref qw, .ref qg, .ref qh, .ref qx, .ref qc, .ref qa, .ref qb, .ref qd, .int (iI fm), .ref qp, .ref qq])), (qT, eI t.1 1200 T), (qC, eI t.1 14400 F)]) [0, 1, 2] rfl
          have hD9 := hD.sub (ws' := [(o, .inr (5, [.int (iI 0), .int (iI z), .int (iI lv), .ref qT, .ref qC, .ref qF, .ref qY, .ref qZ, .ref qu, .ref qv, .ref qw, .ref qg, .ref qh, .ref qx, .ref qc, .ref qa, .ref qb, .ref qd, .int (iI fm), .ref qp, .ref qq])), (qT, eI t.1 1200 T), (qC, eI t.1 14400 F)]) [0, 1, 2] (by decide) rfl
          exact retv () _ _ 119 _ _ d_Mo_count_119 ⟨by unfold mcouZ; rw [if_neg (by omega)]; rw [if_neg (by omega)]; rw [if_neg (by omega)]; rw [if_neg (by omega)]; rw [if_neg (by omega)]; rw [if_neg (by omega)]; rw [if_neg (by omega)], trivial⟩ hP9 hD9 hS
      · refine lv_iload_n hC.1 hC.2.1 d_Mo_count_17 rfl (lv_at hl 1 rfl) ?_
        refine lv_aload_n hC.1 hC.2.1 d_Mo_count_18 rfl (lv_at hl 2 rfl) ?_
        refine z_get (ci := 5) (C := R_Mo) (T := F_Mo) (N := 21) (v := .ref qT) hC in_Mo hK hP 0 rfl rfl 3 (by decide) k_456 rfl d_Mo_count_19 ?_
        refine lv_iload_n hC.1 hC.2.1 d_Mo_count_22 rfl (lv_at hl 0 rfl) ?_
        refine z_iald hC hK hP 1 rfl (by omega) d_Mo_count_23 ?_
        refine z_if_ne (tgt := 31) hC d_Mo_count_24 (by decide) (by have := hT n; omega) (fun h24 => ?_) (fun h24 => ?_)
        · refine z_iconst hC d_Mo_count_31 ?_
          refine z_iadd hC d_Mo_count_32 ?_
          refine z_topi (z := ct) (by omega) ?_
          refine lv_istore_n (lv' := [(2, .int (iI ct)), (3, .int (iI n)), (0, .ref o), (1, .int (iI w))]) hC.1 hC.2.1 d_Mo_count_33 rfl hl (by decide) rfl (fun ls hl => ?_)
          refine lv_iinc (v := iI (n + 1)) (lv' := [(3, .int (iI (n + 1))), (2, .int (iI ct)), (0, .ref o), (1, .int (iI w))]) hC.1 hC.2.1 d_Mo_count_34 hl (k := 1) rfl (z_inc (by omega)) (by decide) rfl (fun ls hl => ?_)
          refine z_goto (tgt := 9) hC d_Mo_count_37 (by decide) ?_
          exact ih9 ct (n + 1) _ _ _ (by omega) (by omega) (by unfold ctZ at ec ⊢; rw [cntZ_s (by omega), ec]; simp [h24]) (hP.sub (ws' := [(o, .inr (5, [.int (iI 0), .int (iI z), .int (iI lv), .ref qT, .ref qC, .ref qF, .ref qY, .ref qZ, .ref qu, .ref qv, .ref qw, .ref qg, .ref qh, .ref qx, .ref qc, .ref qa, .ref qb, .ref qd, .int (iI fm), .ref qp, .ref qq])), (qT, eI t.1 1200 T), (qC, eI t.1 14400 F)]) [0, 1, 2] rfl) (hD.sub (ws' := [(o, .inr (5, [.int (iI 0), .int (iI z), .int (iI lv), .ref qT, .ref qC, .ref qF, .ref qY, .ref qZ, .ref qu, .ref qv, .ref qw, .ref qg, .ref qh, .ref qx, .ref qc, .ref qa, .ref qb, .ref qd, .int (iI fm), .ref qp, .ref qq])), (qT, eI t.1 1200 T), (qC, eI t.1 14400 F)]) [0, 1, 2] (by decide) rfl) hS (lv_sub hl [0, 1, 2, 3] rfl)
        · refine z_iconst hC d_Mo_count_27 ?_
          refine z_goto (tgt := 32) hC d_Mo_count_28 (by decide) ?_
          refine z_iadd hC d_Mo_count_32 ?_
          refine lv_istore_n (lv' := [(2, .int (iI (ct + 1))), (3, .int (iI n)), (0, .ref o), (1, .int (iI w))]) hC.1 hC.2.1 d_Mo_count_33 rfl hl (by decide) rfl (fun ls hl => ?_)
          refine lv_iinc (v := iI (n + 1)) (lv' := [(3, .int (iI (n + 1))), (2, .int (iI (ct + 1))), (0, .ref o), (1, .int (iI w))]) hC.1 hC.2.1 d_Mo_count_34 hl (k := 1) rfl (z_inc (by omega)) (by decide) rfl (fun ls hl => ?_)
          refine z_goto (tgt := 9) hC d_Mo_count_37 (by decide) ?_
          exact ih9 (ct + 1) (n + 1) _ _ _ (by omega) (by omega) (by unfold ctZ at ec ⊢; rw [cntZ_s (by omega), ec]; simp [h24]) (hP.sub (ws' := [(o, .inr (5, [.int (iI 0), .int (iI z), .int (iI lv), .ref qT, .ref qC, .ref qF, .ref qY, .ref qZ, .ref qu, .ref qv, .ref qw, .ref qg, .ref qh, .ref qx, .ref qc, .ref qa, .ref qb, .ref qd, .int (iI fm), .ref qp, .ref qq])), (qT, eI t.1 1200 T), (qC, eI t.1 14400 F)]) [0, 1, 2] rfl) (hD.sub (ws' := [(o, .inr (5, [.int (iI 0), .int (iI z), .int (iI lv), .ref qT, .ref qC, .ref qF, .ref qY, .ref qZ, .ref qu, .ref qv, .ref qw, .ref qg, .ref qh, .ref qx, .ref qc, .ref qa, .ref qb, .ref qd, .int (iI fm), .ref qp, .ref qq])), (qT, eI t.1 1200 T), (qC, eI t.1 14400 F)]) [0, 1, 2] (by decide) rfl) hS (lv_sub hl [0, 1, 2, 3] rfl)
  exact L9 (z - 0 + 1 : Int).toNat 0 0 _ _ _ (by omega) (by omega) (by rfl) hP hD hS (lv_sub hl [0, 1, 2, 3] rfl)
theorem ye_Mo_corner : ye y_Mo_corner R_Mo 3 := by unfold ye; decide +kernel
abbrev rm_Mo_corner : Room := { frames := 1, cells := 0, slots := 0, locals := 22 }
set_option maxHeartbeats 4000000 in
set_option maxRecDepth 100000 in
theorem c_Mo_corner (l : Launch) (D : va_G) (t : vt) (ts : Nat → Nat) (o qT qC qF qY qZ qu qv qw qg qh qx qc qa qb qd qp qq : Nat) (cd z lv fm : Int) (T F : Int → Int) (hz : 0 ≤ z ∧ z ≤ 400) (hT : bT T) (hF : bF F) (n c i : Int) (hn : inI n) (hc : inI c) (hi : inI i) (sz : Nat) : Met l y_Mo_corner (.code y_Mo_corner b_Mo_corner 4 (some .int) :: tb_ws) rm_Mo_corner (MP D t ts [.ref o, .int (iI n), .int (iI c), .int (iI i)] [(o, .inr (5, [.int (iI cd), .int (iI z), .int (iI lv), .ref qT, .ref qC, .ref qF, .ref qY, .ref qZ, .ref qu, .ref qv, .ref qw, .ref qg, .ref qh, .ref qx, .ref qc, .ref qa, .ref qb, .ref qd, .int (iI fm), .ref qp, .ref qq])), (qT, eI t.1 1200 T), (qC, eI t.1 14400 F)] sz) (va_Qi (fun zr u => zr = iI ((fun _ : Unit => corZ T F z n c i) u) ∧ ((fun _ : Unit => True)) u) (MB D (va_A [(o, .inr (5, [.int (iI cd), .int (iI z), .int (iI lv), .ref qT, .ref qC, .ref qF, .ref qY, .ref qZ, .ref qu, .ref qv, .ref qw, .ref qg, .ref qh, .ref qx, .ref qc, .ref qa, .ref qb, .ref qd, .int (iI fm), .ref qp, .ref qq])), (qT, eI t.1 1200 T), (qC, eI t.1 14400 F)] sz) (fun _ : Unit => [(o, .inr (5, [.int (iI 0), .int (iI z), .int (iI lv), .ref qT, .ref qC, .ref qF, .ref qY, .ref qZ, .ref qu, .ref qv, .ref qw, .ref qg, .ref qh, .ref qx, .ref qc, .ref qa, .ref qb, .ref qd, .int (iI fm), .ref qp, .ref qq])), (qT, eI t.1 1200 T), (qC, eI t.1 14400 F)])) (va_A [(o, .inr (5, [.int (iI cd), .int (iI z), .int (iI lv), .ref qT, .ref qC, .ref qF, .ref qY, .ref qZ, .ref qu, .ref qv, .ref qw, .ref qg, .ref qh, .ref qx, .ref qc, .ref qa, .ref qb, .ref qd, .int (iI fm), .ref qp, .ref qq])), (qT, eI t.1 1200 T), (qC, eI t.1 14400 F)] sz)) 0 0 (va_A [(o, .inr (5, [.int (iI cd), .int (iI z), .int (iI lv), .ref qT, .ref qC, .ref qF, .ref qY, .ref qZ, .ref qu, .ref qv, .ref qw, .ref qg, .ref qh, .ref qx, .ref qc, .ref qa, .ref qb, .ref qd, .int (iI fm), .ref qp, .ref qq])), (qT, eI t.1 1200 T), (qC, eI t.1 14400 F)] sz) := by
  refine m_i (by decide +kernel) (Nat.le_of_ble_eq_true rfl) ?_
  intro zp ze zs zm zb zt zc zQ A ls hC hA hP hK hD hE hS hl ret
  have hl : lv_has ls 4 [(0, .ref o), (1, .int (iI n)), (2, .int (iI c)), (3, .int (iI i))] := hl
  have retv : ∀ (uu : Unit) (H : Heap) (locs : List Loc) (pc : Nat) (ls : Array Slot) (zv : Int), decode b_Mo_corner pc = .ok (.ireturn, 1) → (zv = (corZ T F z n c i) ∧ (True)) → va_P D classes ([(o, .inr (5, [.int (iI 0), .int (iI z), .int (iI lv), .ref qT, .ref qC, .ref qF, .ref qY, .ref qZ, .ref qu, .ref qv, .ref qw, .ref qg, .ref qh, .ref qx, .ref qc, .ref qa, .ref qb, .ref qd, .int (iI fm), .ref qp, .ref qq])), (qT, eI t.1 1200 T), (qC, eI t.1 14400 F)]) H → va_D A ([(o, .inr (5, [.int (iI 0), .int (iI z), .int (iI lv), .ref qT, .ref qC, .ref qF, .ref qY, .ref qZ, .ref qu, .ref qv, .ref qw, .ref qg, .ref qh, .ref qx, .ref qc, .ref qa, .ref qb, .ref qd, .int (iI fm), .ref qp, .ref qq])), (qT, eI t.1 1200 T), (qC, eI t.1 14400 F)]) → va_S A zs.heap H locs → W zp l ze rm_Mo_corner zs zm [.ref o, .int (iI n), .int (iI c), .int (iI i)].toArray zb zt zc H locs 0 0 zQ (F0 zm pc ls [.int (iI zv)]) := fun u H locs pc ls v d h hP hD hS => by rw [h.1]; exact ret u H locs pc ls d h.2 hP hD hS
  refine lv_aload_n hC.1 hC.2.1 d_Mo_corner_0 rfl (lv_at hl 0 rfl) ?_
  refine z_iconst hC d_Mo_corner_1 ?_
  refine z_put (ci := 5) (C := R_Mo) (T := F_Mo) (N := 21) (v := .int (iI 0)) (ws' := [(o, .inr (5, [.int (iI 0), .int (iI z), .int (iI lv), .ref qT, .ref qC, .ref qF, .ref qY, .ref qZ, .ref qu, .ref qv, .ref qw, .ref qg, .ref qh, .ref qx, .ref qc, .ref qa, .ref qb, .ref qd, .int (iI fm), .ref qp, .ref qq])), (qT, eI t.1 1200 T), (qC, eI t.1 14400 F)]) hC in_Mo t_Mo t_Mo_ok n_Mo hK hP hD hS 0 rfl rfl 0 (by decide) k_453 rfl rfl rfl (Nat.le_of_ble_eq_true rfl) rfl d_Mo_corner_2 (fun H locs hP hD hS => ?_)
  refine lv_aload_n hC.1 hC.2.1 d_Mo_corner_5 rfl (lv_at hl 0 rfl) ?_
  refine lv_iload_n hC.1 hC.2.1 d_Mo_corner_6 rfl (lv_at hl 1 rfl) ?_
  refine lv_iload_n hC.1 hC.2.1 d_Mo_corner_7 rfl (lv_at hl 2 rfl) ?_
  refine z_roVi (As := [.int (iI n), .int (iI c)]) (rest := []) hC (c_Mo_isCorner l D t ts o qT qC qF qY qZ qu qv qw qg qh qx qc qa qb qd qp qq 0 z lv fm n c (by omega) (by omega) (by omega)) (cw_V hC k_718 k_720 kp_60 k_6 k_721 ye_Mo_isCorner (by decide)) hP hK hE hS [0] rfl 0 (ci := 5) rfl rfl rfl rfl hl.1 rfl (Nat.le_of_ble_eq_true rfl) ⟨Nat.le_of_ble_eq_true rfl, Nat.le_of_ble_eq_true rfl⟩ d_Mo_corner_8 ?_
  refine z_if_eqB (tgt := 23) hC d_Mo_corner_11 (by decide) (fun h11 => ?_) (fun h11 => ?_)
  · refine z_ldc hC k_722 d_Mo_corner_23 ?_
    have hP9 := hP.sub (ws' := [(o, .inr (5, [.int (iI 0), .int (iI z), .int (iI lv), .ref qT, .ref qC, .ref qF, .ref qY, .ref qZ, .ref qu, .ref qv, .ref qw, .ref qg, .ref qh, .ref qx, .ref qc, .ref qa, .ref qb, .ref qd, .int (iI fm), .ref qp, .ref qq])), (qT, eI t.1 1200 T), (qC, eI t.1 14400 F)]) [0, 1, 2] rfl
    have hD9 := hD.sub (ws' := [(o, .inr (5, [.int (iI 0), .int (iI z), .int (iI lv), .ref qT, .ref qC, .ref qF, .ref qY, .ref qZ, .ref qu, .ref qv, .ref qw, .ref qg, .ref qh, .ref qx, .ref qc, .ref qa, .ref qb, .ref qd, .int (iI fm), .ref qp, .ref qq])), (qT, eI t.1 1200 T), (qC, eI t.1 14400 F)]) [0, 1, 2] (by decide) rfl
    exact retv () _ _ 25 _ _ d_Mo_corner_25 ⟨by unfold corZ; simp [h11], trivial⟩ hP9 hD9 hS
  · have g := h11
    unfold hasZ at g
    simp at g
    refine lv_iload_n hC.1 hC.2.1 d_Mo_corner_14 rfl (lv_at hl 3 rfl) ?_
    refine z_if_lt (tgt := 23) hC d_Mo_corner_15 (by decide) (by omega) (fun h15 => ?_) (fun h15 => ?_)
    · refine z_ldc hC k_722 d_Mo_corner_23 ?_
      have hP9 := hP.sub (ws' := [(o, .inr (5, [.int (iI 0), .int (iI z), .int (iI lv), .ref qT, .ref qC, .ref qF, .ref qY, .ref qZ, .ref qu, .ref qv, .ref qw, .ref qg, .ref qh, .ref qx, .ref qc, .ref qa, .ref qb, .ref qd, .int (iI fm), .ref qp, .ref qq])), (qT, eI t.1 1200 T), (qC, eI t.1 14400 F)]) [0, 1, 2] rfl
      have hD9 := hD.sub (ws' := [(o, .inr (5, [.int (iI 0), .int (iI z), .int (iI lv), .ref qT, .ref qC, .ref qF, .ref qY, .ref qZ, .ref qu, .ref qv, .ref qw, .ref qg, .ref qh, .ref qx, .ref qc, .ref qa, .ref qb, .ref qd, .int (iI fm), .ref qp, .ref qq])), (qT, eI t.1 1200 T), (qC, eI t.1 14400 F)]) [0, 1, 2] (by decide) rfl
      exact retv () _ _ 25 _ _ d_Mo_corner_25 ⟨by unfold corZ; simp [h11]; try (intros; omega), trivial⟩ hP9 hD9 hS
    · refine lv_iload_n hC.1 hC.2.1 d_Mo_corner_18 rfl (lv_at hl 3 rfl) ?_
      refine z_iconst hC d_Mo_corner_19 ?_
      refine z_icmp_le (tgt := 26) hC d_Mo_corner_20 (by decide) (by omega) (by decide) (fun h20 => ?_) (fun h20 => ?_)
      · refine lv_iload_n hC.1 hC.2.1 d_Mo_corner_26 rfl (lv_at hl 3 rfl) ?_
        refine z_iconst hC d_Mo_corner_27 ?_
        refine z_icmp_ne (tgt := 40) hC d_Mo_corner_28 (by decide) (by omega) (by decide) (fun h28 => ?_) (fun h28 => ?_)
        · refine lv_aload_n hC.1 hC.2.1 d_Mo_corner_40 rfl (lv_at hl 0 rfl) ?_
          refine z_get (ci := 5) (C := R_Mo) (T := F_Mo) (N := 21) (v := .ref qC) hC in_Mo hK hP 0 rfl rfl 4 (by decide) k_457 rfl d_Mo_corner_41 ?_
          refine lv_aload_n hC.1 hC.2.1 d_Mo_corner_44 rfl (lv_at hl 0 rfl) ?_
          refine lv_iload_n hC.1 hC.2.1 d_Mo_corner_45 rfl (lv_at hl 1 rfl) ?_
          refine lv_iload_n hC.1 hC.2.1 d_Mo_corner_46 rfl (lv_at hl 2 rfl) ?_
          refine z_roVi (As := [.int (iI n), .int (iI c)]) (rest := [.ref qC]) hC (c_Mo_at l D t ts o n c (4 * c + 12 * n) (by omega)) (cw_V hC k_537 k_539 kp_26 k_6 k_540 ye_Mo_at (by decide)) hP hK hE hS [] rfl 0 (ci := 5) rfl rfl rfl rfl hl.1 rfl (Nat.le_of_ble_eq_true rfl) ⟨Nat.le_of_ble_eq_true rfl, Nat.le_of_ble_eq_true rfl⟩ d_Mo_corner_47 ?_
          refine lv_iload_n hC.1 hC.2.1 d_Mo_corner_50 rfl (lv_at hl 3 rfl) ?_
          refine z_iadd hC d_Mo_corner_51 ?_
          refine z_topi (z := 4 * c + i + 12 * n) (by omega) ?_
          refine z_iald hC hK hP 2 rfl (by omega) d_Mo_corner_52 ?_
          have hP9 := hP.sub (ws' := [(o, .inr (5, [.int (iI 0), .int (iI z), .int (iI lv), .ref qT, .ref qC, .ref qF, .ref qY, .ref qZ, .ref qu, .ref qv, .ref qw, .ref qg, .ref qh, .ref qx, .ref qc, .ref qa, .ref qb, .ref qd, .int (iI fm), .ref qp, .ref qq])), (qT, eI t.1 1200 T), (qC, eI t.1 14400 F)]) [0, 1, 2] rfl
          have hD9 := hD.sub (ws' := [(o, .inr (5, [.int (iI 0), .int (iI z), .int (iI lv), .ref qT, .ref qC, .ref qF, .ref qY, .ref qZ, .ref qu, .ref qv, .ref qw, .ref qg, .ref qh, .ref qx, .ref qc, .ref qa, .ref qb, .ref qd, .int (iI fm), .ref qp, .ref qq])), (qT, eI t.1 1200 T), (qC, eI t.1 14400 F)]) [0, 1, 2] (by decide) rfl
          exact retv () _ _ 53 _ _ d_Mo_corner_53 ⟨by unfold corZ; rw [h11, if_pos (by simp; try omega), if_neg (by omega)], trivial⟩ hP9 hD9 hS
        · refine lv_aload_n hC.1 hC.2.1 d_Mo_corner_31 rfl (lv_at hl 0 rfl) ?_
          refine z_get (ci := 5) (C := R_Mo) (T := F_Mo) (N := 21) (v := .ref qT) hC in_Mo hK hP 0 rfl rfl 3 (by decide) k_456 rfl d_Mo_corner_32 ?_
          refine lv_iload_n hC.1 hC.2.1 d_Mo_corner_35 rfl (lv_at hl 1 rfl) ?_
          refine z_iald hC hK hP 1 rfl (by omega) d_Mo_corner_36 ?_
          refine z_goto (tgt := 53) hC d_Mo_corner_37 (by decide) ?_
          have hP9 := hP.sub (ws' := [(o, .inr (5, [.int (iI 0), .int (iI z), .int (iI lv), .ref qT, .ref qC, .ref qF, .ref qY, .ref qZ, .ref qu, .ref qv, .ref qw, .ref qg, .ref qh, .ref qx, .ref qc, .ref qa, .ref qb, .ref qd, .int (iI fm), .ref qp, .ref qq])), (qT, eI t.1 1200 T), (qC, eI t.1 14400 F)]) [0, 1, 2] rfl
          have hD9 := hD.sub (ws' := [(o, .inr (5, [.int (iI 0), .int (iI z), .int (iI lv), .ref qT, .ref qC, .ref qF, .ref qY, .ref qZ, .ref qu, .ref qv, .ref qw, .ref qg, .ref qh, .ref qx, .ref qc, .ref qa, .ref qb, .ref qd, .int (iI fm), .ref qp, .ref qq])), (qT, eI t.1 1200 T), (qC, eI t.1 14400 F)]) [0, 1, 2] (by decide) rfl
          exact retv () _ _ 53 _ _ d_Mo_corner_53 ⟨by unfold corZ; rw [h11, if_pos (by simp; try omega), if_pos (by omega)], trivial⟩ hP9 hD9 hS
      · refine z_ldc hC k_722 d_Mo_corner_23 ?_
        have hP9 := hP.sub (ws' := [(o, .inr (5, [.int (iI 0), .int (iI z), .int (iI lv), .ref qT, .ref qC, .ref qF, .ref qY, .ref qZ, .ref qu, .ref qv, .ref qw, .ref qg, .ref qh, .ref qx, .ref qc, .ref qa, .ref qb, .ref qd, .int (iI fm), .ref qp, .ref qq])), (qT, eI t.1 1200 T), (qC, eI t.1 14400 F)]) [0, 1, 2] rfl
        have hD9 := hD.sub (ws' := [(o, .inr (5, [.int (iI 0), .int (iI z), .int (iI lv), .ref qT, .ref qC, .ref qF, .ref qY, .ref qZ, .ref qu, .ref qv, .ref qw, .ref qg, .ref qh, .ref qx, .ref qc, .ref qa, .ref qb, .ref qd, .int (iI fm), .ref qp, .ref qq])), (qT, eI t.1 1200 T), (qC, eI t.1 14400 F)]) [0, 1, 2] (by decide) rfl
        exact retv () _ _ 25 _ _ d_Mo_corner_25 ⟨by unfold corZ; simp [h11]; try (intros; omega), trivial⟩ hP9 hD9 hS
theorem ye_Mo_angle : ye y_Mo_angle R_Mo 2 := by unfold ye; decide +kernel
abbrev rm_Mo_angle : Room := { frames := 1, cells := 0, slots := 0, locals := 23 }
set_option maxHeartbeats 4000000 in
set_option maxRecDepth 100000 in
theorem c_Mo_angle (l : Launch) (D : va_G) (t : vt) (ts : Nat → Nat) (o qT qC qF qY qZ qu qv qw qg qh qx qc qa qb qd qp qq : Nat) (cd z lv fm : Int) (T F : Int → Int) (n i1 : Int) (hn : 0 ≤ n ∧ n < 1200) (hi1 : 0 ≤ i1 ∧ i1 + 3 < 14400) (hT : bT T) (hF : bF F) : Met l y_Mo_angle (.code y_Mo_angle b_Mo_angle 4 (some .int) :: tb_ws) rm_Mo_angle (RoP D t ts [.ref o, .int (iI n), .int (iI i1)] [(o, .inr (5, [.int (iI cd), .int (iI z), .int (iI lv), .ref qT, .ref qC, .ref qF, .ref qY, .ref qZ, .ref qu, .ref qv, .ref qw, .ref qg, .ref qh, .ref qx, .ref qc, .ref qa, .ref qb, .ref qd, .int (iI fm), .ref qp, .ref qq])), (qT, eI t.1 1200 T), (qC, eI t.1 14400 F)]) (vp_Si (fun zr => zr = iI (anZ T F n i1))) 0 0 (fun _ => False) := by
  refine ro_i (by decide +kernel) (Nat.le_of_ble_eq_true rfl) ?_
  intro zp ze zs zm zb zt zc zQ ls hC hP hK hE hl ret
  have hS : va_S (fun _ => False) zs.heap zs.heap [] := va_S.rf
  have hl : lv_has ls 4 [(0, .ref o), (1, .int (iI n)), (2, .int (iI i1))] := hl
  have retv : ∀ (pc : Nat) (ls : Array Slot) (zv : Int), decode b_Mo_angle pc = .ok (.ireturn, 1) → zv = (anZ T F n i1) → W zp l ze rm_Mo_angle zs zm [.ref o, .int (iI n), .int (iI i1)].toArray zb zt zc zs.heap [] 0 0 zQ (F0 zm pc ls [.int (iI zv)]) := fun pc ls v d h => by rw [h]; exact ret pc ls d
  refine z_iconst hC d_Mo_angle_0 ?_
  refine lv_istore_n (lv' := [(3, .int (iI 0)), (0, .ref o), (1, .int (iI n)), (2, .int (iI i1))]) hC.1 hC.2.1 d_Mo_angle_1 rfl hl (by decide) rfl (fun ls hl => ?_)
  refine lv_iload_n hC.1 hC.2.1 d_Mo_angle_2 rfl (lv_at hl 0 rfl) ?_
  refine z_iconst hC d_Mo_angle_3 ?_
  refine z_icmp_ge (tgt := 53) hC d_Mo_angle_4 (by decide) (by decide) (by decide) (fun h => absurd h (by decide)) (fun _ => ?_)
  refine lv_aload_n hC.1 hC.2.1 d_Mo_angle_7 rfl (lv_at hl 1 rfl) ?_
  refine lv_aload_n hC.1 hC.2.1 d_Mo_angle_8 rfl (lv_at hl 1 rfl) ?_
  refine lv_iload_n hC.1 hC.2.1 d_Mo_angle_9 rfl (lv_at hl 2 rfl) ?_
  refine lv_iload_n hC.1 hC.2.1 d_Mo_angle_10 rfl (lv_at hl 0 rfl) ?_
  refine z_roVi (As := [.int (iI n), .int (iI 0)]) (rest := [.ref o]) hC (c_Mo_at l D t ts o n 0 (12 * n) (by omega)) (cw_V hC k_537 k_539 kp_26 k_6 k_540 ye_Mo_at (by decide)) hP hK hE hS [] rfl 0 (ci := 5) rfl rfl rfl rfl hl.1 rfl (Nat.le_of_ble_eq_true rfl) ⟨Nat.le_of_ble_eq_true rfl, Nat.le_of_ble_eq_true rfl⟩ d_Mo_angle_11 ?_
  refine lv_iload_n hC.1 hC.2.1 d_Mo_angle_14 rfl (lv_at hl 3 rfl) ?_
  refine z_roVi (As := [.int (iI (12 * n)), .int (iI i1)]) (rest := []) hC (c_Mo_same l D t ts o qT qC qF qY qZ qu qv qw qg qh qx qc qa qb qd qp qq cd z lv fm F (12 * n) i1 (by omega) (by omega) hF) (cw_V hC k_623 k_625 kp_43 k_6 k_626 ye_Mo_same (by decide)) hP hK hE hS [0, 2] rfl 0 (ci := 5) rfl rfl rfl rfl hl.1 rfl (Nat.le_of_ble_eq_true rfl) ⟨Nat.le_of_ble_eq_true rfl, Nat.le_of_ble_eq_true rfl⟩ d_Mo_angle_15 ?_
  refine z_if_eqB (tgt := 47) hC d_Mo_angle_18 (by decide) (fun h18 => ?_) (fun h18 => ?_)
  · refine lv_iinc (v := iI 1) (lv' := [(3, .int (iI 1)), (0, .ref o), (1, .int (iI n)), (2, .int (iI i1))]) hC.1 hC.2.1 d_Mo_angle_47 hl (k := 0) rfl (z_inc (by omega)) (by decide) rfl (fun ls hl => ?_)
    refine z_goto (tgt := 2) hC d_Mo_angle_50 (by decide) ?_
    refine lv_iload_n hC.1 hC.2.1 d_Mo_angle_2 rfl (lv_at hl 0 rfl) ?_
    refine z_iconst hC d_Mo_angle_3 ?_
    refine z_icmp_ge (tgt := 53) hC d_Mo_angle_4 (by decide) (by decide) (by decide) (fun h => absurd h (by decide)) (fun _ => ?_)
    refine lv_aload_n hC.1 hC.2.1 d_Mo_angle_7 rfl (lv_at hl 1 rfl) ?_
    refine lv_aload_n hC.1 hC.2.1 d_Mo_angle_8 rfl (lv_at hl 1 rfl) ?_
    refine lv_iload_n hC.1 hC.2.1 d_Mo_angle_9 rfl (lv_at hl 2 rfl) ?_
    refine lv_iload_n hC.1 hC.2.1 d_Mo_angle_10 rfl (lv_at hl 0 rfl) ?_
    refine z_roVi (As := [.int (iI n), .int (iI 1)]) (rest := [.ref o]) hC (c_Mo_at l D t ts o n 1 (12 * n + 4) (by omega)) (cw_V hC k_537 k_539 kp_26 k_6 k_540 ye_Mo_at (by decide)) hP hK hE hS [] rfl 0 (ci := 5) rfl rfl rfl rfl hl.1 rfl (Nat.le_of_ble_eq_true rfl) ⟨Nat.le_of_ble_eq_true rfl, Nat.le_of_ble_eq_true rfl⟩ d_Mo_angle_11 ?_
    refine lv_iload_n hC.1 hC.2.1 d_Mo_angle_14 rfl (lv_at hl 3 rfl) ?_
    refine z_roVi (As := [.int (iI (12 * n + 4)), .int (iI i1)]) (rest := []) hC (c_Mo_same l D t ts o qT qC qF qY qZ qu qv qw qg qh qx qc qa qb qd qp qq cd z lv fm F (12 * n + 4) i1 (by omega) (by omega) hF) (cw_V hC k_623 k_625 kp_43 k_6 k_626 ye_Mo_same (by decide)) hP hK hE hS [0, 2] rfl 0 (ci := 5) rfl rfl rfl rfl hl.1 rfl (Nat.le_of_ble_eq_true rfl) ⟨Nat.le_of_ble_eq_true rfl, Nat.le_of_ble_eq_true rfl⟩ d_Mo_angle_15 ?_
    refine z_if_eqB (tgt := 47) hC d_Mo_angle_18 (by decide) (fun h18_2 => ?_) (fun h18_2 => ?_)
    · refine lv_iinc (v := iI 2) (lv' := [(3, .int (iI 2)), (0, .ref o), (1, .int (iI n)), (2, .int (iI i1))]) hC.1 hC.2.1 d_Mo_angle_47 hl (k := 0) rfl (z_inc (by omega)) (by decide) rfl (fun ls hl => ?_)
      refine z_goto (tgt := 2) hC d_Mo_angle_50 (by decide) ?_
      refine lv_iload_n hC.1 hC.2.1 d_Mo_angle_2 rfl (lv_at hl 0 rfl) ?_
      refine z_iconst hC d_Mo_angle_3 ?_
      refine z_icmp_ge (tgt := 53) hC d_Mo_angle_4 (by decide) (by decide) (by decide) (fun h => absurd h (by decide)) (fun _ => ?_)
      refine lv_aload_n hC.1 hC.2.1 d_Mo_angle_7 rfl (lv_at hl 1 rfl) ?_
      refine lv_aload_n hC.1 hC.2.1 d_Mo_angle_8 rfl (lv_at hl 1 rfl) ?_
      refine lv_iload_n hC.1 hC.2.1 d_Mo_angle_9 rfl (lv_at hl 2 rfl) ?_
      refine lv_iload_n hC.1 hC.2.1 d_Mo_angle_10 rfl (lv_at hl 0 rfl) ?_
      refine z_roVi (As := [.int (iI n), .int (iI 2)]) (rest := [.ref o]) hC (c_Mo_at l D t ts o n 2 (12 * n + 8) (by omega)) (cw_V hC k_537 k_539 kp_26 k_6 k_540 ye_Mo_at (by decide)) hP hK hE hS [] rfl 0 (ci := 5) rfl rfl rfl rfl hl.1 rfl (Nat.le_of_ble_eq_true rfl) ⟨Nat.le_of_ble_eq_true rfl, Nat.le_of_ble_eq_true rfl⟩ d_Mo_angle_11 ?_
      refine lv_iload_n hC.1 hC.2.1 d_Mo_angle_14 rfl (lv_at hl 3 rfl) ?_
      refine z_roVi (As := [.int (iI (12 * n + 8)), .int (iI i1)]) (rest := []) hC (c_Mo_same l D t ts o qT qC qF qY qZ qu qv qw qg qh qx qc qa qb qd qp qq cd z lv fm F (12 * n + 8) i1 (by omega) (by omega) hF) (cw_V hC k_623 k_625 kp_43 k_6 k_626 ye_Mo_same (by decide)) hP hK hE hS [0, 2] rfl 0 (ci := 5) rfl rfl rfl rfl hl.1 rfl (Nat.le_of_ble_eq_true rfl) ⟨Nat.le_of_ble_eq_true rfl, Nat.le_of_ble_eq_true rfl⟩ d_Mo_angle_15 ?_
      refine z_if_eqB (tgt := 47) hC d_Mo_angle_18 (by decide) (fun h18_3 => ?_) (fun h18_3 => ?_)
      · refine lv_iinc (v := iI 3) (lv' := [(3, .int (iI 3)), (0, .ref o), (1, .int (iI n)), (2, .int (iI i1))]) hC.1 hC.2.1 d_Mo_angle_47 hl (k := 0) rfl (z_inc (by omega)) (by decide) rfl (fun ls hl => ?_)
        refine z_goto (tgt := 2) hC d_Mo_angle_50 (by decide) ?_
        refine lv_iload_n hC.1 hC.2.1 d_Mo_angle_2 rfl (lv_at hl 0 rfl) ?_
        refine z_iconst hC d_Mo_angle_3 ?_
        refine z_icmp_ge (tgt := 53) hC d_Mo_angle_4 (by decide) (by decide) (by decide) (fun _ => ?_) (fun h => absurd h (by decide))
        refine z_iconst hC d_Mo_angle_53 ?_
        exact retv 54 _ _ d_Mo_angle_54 (by unfold anZ; simp [h18, h18_2, h18_3]; try omega)
      · refine lv_iload_n hC.1 hC.2.1 d_Mo_angle_21 rfl (lv_at hl 0 rfl) ?_
        refine z_if_ne (tgt := 38) hC d_Mo_angle_22 (by decide) (by decide) (fun _ => ?_) (fun h => absurd h (by decide))
        refine z_iconst hC d_Mo_angle_38 ?_
        refine lv_aload_n hC.1 hC.2.1 d_Mo_angle_39 rfl (lv_at hl 1 rfl) ?_
        refine z_get (ci := 5) (C := R_Mo) (T := F_Mo) (N := 21) (v := .ref qT) hC in_Mo hK hP 0 rfl rfl 3 (by decide) k_456 rfl d_Mo_angle_40 ?_
        refine lv_iload_n hC.1 hC.2.1 d_Mo_angle_43 rfl (lv_at hl 2 rfl) ?_
        refine z_iald hC hK hP 1 rfl (by omega) d_Mo_angle_44 ?_
        refine z_isub hC d_Mo_angle_45 ?_
        refine z_topi (z := -T n + 2) (by omega) ?_
        exact retv 46 _ _ d_Mo_angle_46 (by unfold anZ; simp [h18, h18_2, h18_3]; try omega)
    · refine lv_iload_n hC.1 hC.2.1 d_Mo_angle_21 rfl (lv_at hl 0 rfl) ?_
      refine z_if_ne (tgt := 38) hC d_Mo_angle_22 (by decide) (by decide) (fun _ => ?_) (fun h => absurd h (by decide))
      refine z_iconst hC d_Mo_angle_38 ?_
      refine lv_aload_n hC.1 hC.2.1 d_Mo_angle_39 rfl (lv_at hl 1 rfl) ?_
      refine z_get (ci := 5) (C := R_Mo) (T := F_Mo) (N := 21) (v := .ref qT) hC in_Mo hK hP 0 rfl rfl 3 (by decide) k_456 rfl d_Mo_angle_40 ?_
      refine lv_iload_n hC.1 hC.2.1 d_Mo_angle_43 rfl (lv_at hl 2 rfl) ?_
      refine z_iald hC hK hP 1 rfl (by omega) d_Mo_angle_44 ?_
      refine z_isub hC d_Mo_angle_45 ?_
      refine z_topi (z := -T n + 2) (by omega) ?_
      exact retv 46 _ _ d_Mo_angle_46 (by unfold anZ; simp [h18, h18_2]; try omega)
  · refine lv_iload_n hC.1 hC.2.1 d_Mo_angle_21 rfl (lv_at hl 0 rfl) ?_
    refine z_if_ne (tgt := 38) hC d_Mo_angle_22 (by decide) (by decide) (fun h => absurd h (by decide)) (fun _ => ?_)
    refine z_iconst hC d_Mo_angle_25 ?_
    refine z_iconst hC d_Mo_angle_26 ?_
    refine lv_aload_n hC.1 hC.2.1 d_Mo_angle_27 rfl (lv_at hl 1 rfl) ?_
    refine z_get (ci := 5) (C := R_Mo) (T := F_Mo) (N := 21) (v := .ref qT) hC in_Mo hK hP 0 rfl rfl 3 (by decide) k_456 rfl d_Mo_angle_28 ?_
    refine lv_iload_n hC.1 hC.2.1 d_Mo_angle_31 rfl (lv_at hl 2 rfl) ?_
    refine z_iald hC hK hP 1 rfl (by omega) d_Mo_angle_32 ?_
    refine z_imul hC d_Mo_angle_33 ?_
    refine z_topi (z := 2 * T n) (by omega) ?_
    refine z_iadd hC d_Mo_angle_34 ?_
    refine z_topi (z := 2 * T n + 1) (by omega) ?_
    refine z_goto (tgt := 46) hC d_Mo_angle_35 (by decide) ?_
    exact retv 46 _ _ d_Mo_angle_46 (by unfold anZ; simp [h18]; try omega)
theorem ye_Mo_clash : ye y_Mo_clash R_Mo 0 := by unfold ye; decide +kernel
abbrev rm_Mo_clash : Room := { frames := 7, cells := 0, slots := 0, locals := 172 }
set_option maxHeartbeats 4000000 in
set_option maxRecDepth 100000 in
theorem c_Mo_clash (l : Launch) (D : va_G) (t : vt) (ts : Nat → Nat) (o qT qC qF qY qZ qu qv qw qg qh qx qc qa qb qd qp qq : Nat) (cd z lv fm : Int) (Wd T F : Int → Int) (x0 x1 x2 x3 : Int) (y0 y1 y2 y3 : Int) (c0 c1 c2 c3 : Int) (hT : bT T) (hF : bF F) (hz : 0 ≤ z ∧ z ≤ 400) (sz : Nat) : Met l y_Mo_clash (.code y_Mo_clash b_Mo_clash 3 (some .int) :: tb_ws) rm_Mo_clash (MP D t ts [.ref o] [(o, .inr (5, [.int (iI cd), .int (iI z), .int (iI lv), .ref qT, .ref qC, .ref qF, .ref qY, .ref qZ, .ref qu, .ref qv, .ref qw, .ref qg, .ref qh, .ref qx, .ref qc, .ref qa, .ref qb, .ref qd, .int (iI fm), .ref qp, .ref qq])), (qT, eI t.1 1200 T), (qC, eI t.1 14400 F), (qu, eL t.2.1 4 (v4 x0 x1 x2 x3)), (qv, eL t.2.1 4 (v4 y0 y1 y2 y3)), (qc, eL t.2.1 4 (v4 c0 c1 c2 c3)), (qx, eL t.2.1 54 Wd)] sz) (va_Qi (fun zr u => zr = iI ((fun u : Int × (Int → Int) × (Int → Int) × (Int → Int) × (Int → Int) => u.1) u) ∧ ((fun u : Int × (Int → Int) × (Int → Int) × (Int → Int) × (Int → Int) => u.1 = mclZ T F z)) u) (MB D (va_A [(o, .inr (5, [.int (iI cd), .int (iI z), .int (iI lv), .ref qT, .ref qC, .ref qF, .ref qY, .ref qZ, .ref qu, .ref qv, .ref qw, .ref qg, .ref qh, .ref qx, .ref qc, .ref qa, .ref qb, .ref qd, .int (iI fm), .ref qp, .ref qq])), (qT, eI t.1 1200 T), (qC, eI t.1 14400 F), (qu, eL t.2.1 4 (v4 x0 x1 x2 x3)), (qv, eL t.2.1 4 (v4 y0 y1 y2 y3)), (qc, eL t.2.1 4 (v4 c0 c1 c2 c3)), (qx, eL t.2.1 54 Wd)] sz) (fun u : Int × (Int → Int) × (Int → Int) × (Int → Int) × (Int → Int) => [(o, .inr (5, [.int (iI 0), .int (iI z), .int (iI lv), .ref qT, .ref qC, .ref qF, .ref qY, .ref qZ, .ref qu, .ref qv, .ref qw, .ref qg, .ref qh, .ref qx, .ref qc, .ref qa, .ref qb, .ref qd, .int (iI fm), .ref qp, .ref qq])), (qT, eI t.1 1200 T), (qC, eI t.1 14400 F), (qu, eL t.2.1 4 u.2.1), (qv, eL t.2.1 4 u.2.2.1), (qc, eL t.2.1 4 u.2.2.2.1), (qx, eL t.2.1 54 u.2.2.2.2)])) (va_A [(o, .inr (5, [.int (iI cd), .int (iI z), .int (iI lv), .ref qT, .ref qC, .ref qF, .ref qY, .ref qZ, .ref qu, .ref qv, .ref qw, .ref qg, .ref qh, .ref qx, .ref qc, .ref qa, .ref qb, .ref qd, .int (iI fm), .ref qp, .ref qq])), (qT, eI t.1 1200 T), (qC, eI t.1 14400 F), (qu, eL t.2.1 4 (v4 x0 x1 x2 x3)), (qv, eL t.2.1 4 (v4 y0 y1 y2 y3)), (qc, eL t.2.1 4 (v4 c0 c1 c2 c3)), (qx, eL t.2.1 54 Wd)] sz)) 0 0 (va_A [(o, .inr (5, [.int (iI cd), .int (iI z), .int (iI lv), .ref qT, .ref qC, .ref qF, .ref qY, .ref qZ, .ref qu, .ref qv, .ref qw, .ref qg, .ref qh, .ref qx, .ref qc, .ref qa, .ref qb, .ref qd, .int (iI fm), .ref qp, .ref qq])), (qT, eI t.1 1200 T), (qC, eI t.1 14400 F), (qu, eL t.2.1 4 (v4 x0 x1 x2 x3)), (qv, eL t.2.1 4 (v4 y0 y1 y2 y3)), (qc, eL t.2.1 4 (v4 c0 c1 c2 c3)), (qx, eL t.2.1 54 Wd)] sz) := by
  refine m_i (by decide +kernel) (Nat.le_of_ble_eq_true rfl) ?_
  intro zp ze zs zm zb zt zc zQ A ls hC hA hP hK hD hE hS hl ret
  have hl : lv_has ls 3 [(0, .ref o)] := hl
  have retv : ∀ (u : Int × (Int → Int) × (Int → Int) × (Int → Int) × (Int → Int)) (H : Heap) (locs : List Loc) (pc : Nat) (ls : Array Slot) (zv : Int), decode b_Mo_clash pc = .ok (.ireturn, 1) → (zv = u.1 ∧ (u.1 = mclZ T F z)) → va_P D classes ([(o, .inr (5, [.int (iI 0), .int (iI z), .int (iI lv), .ref qT, .ref qC, .ref qF, .ref qY, .ref qZ, .ref qu, .ref qv, .ref qw, .ref qg, .ref qh, .ref qx, .ref qc, .ref qa, .ref qb, .ref qd, .int (iI fm), .ref qp, .ref qq])), (qT, eI t.1 1200 T), (qC, eI t.1 14400 F), (qu, eL t.2.1 4 u.2.1), (qv, eL t.2.1 4 u.2.2.1), (qc, eL t.2.1 4 u.2.2.2.1), (qx, eL t.2.1 54 u.2.2.2.2)]) H → va_D A ([(o, .inr (5, [.int (iI 0), .int (iI z), .int (iI lv), .ref qT, .ref qC, .ref qF, .ref qY, .ref qZ, .ref qu, .ref qv, .ref qw, .ref qg, .ref qh, .ref qx, .ref qc, .ref qa, .ref qb, .ref qd, .int (iI fm), .ref qp, .ref qq])), (qT, eI t.1 1200 T), (qC, eI t.1 14400 F), (qu, eL t.2.1 4 u.2.1), (qv, eL t.2.1 4 u.2.2.1), (qc, eL t.2.1 4 u.2.2.2.1), (qx, eL t.2.1 54 u.2.2.2.2)]) → va_S A zs.heap H locs → W zp l ze rm_Mo_clash zs zm [.ref o].toArray zb zt zc H locs 0 0 zQ (F0 zm pc ls [.int (iI zv)]) := fun u H locs pc ls v d h hP hD hS => by rw [h.1]; exact ret u H locs pc ls d h.2 hP hD hS
  refine lv_aload_n hC.1 hC.2.1 d_Mo_clash_0 rfl (lv_at hl 0 rfl) ?_
  refine z_iconst hC d_Mo_clash_1 ?_
  refine z_put (ci := 5) (C := R_Mo) (T := F_Mo) (N := 21) (v := .int (iI 0)) (ws' := [(o, .inr (5, [.int (iI 0), .int (iI z), .int (iI lv), .ref qT, .ref qC, .ref qF, .ref qY, .ref qZ, .ref qu, .ref qv, .ref qw, .ref qg, .ref qh, .ref qx, .ref qc, .ref qa, .ref qb, .ref qd, .int (iI fm), .ref qp, .ref qq])), (qT, eI t.1 1200 T), (qC, eI t.1 14400 F), (qu, eL t.2.1 4 (v4 x0 x1 x2 x3)), (qv, eL t.2.1 4 (v4 y0 y1 y2 y3)), (qc, eL t.2.1 4 (v4 c0 c1 c2 c3)), (qx, eL t.2.1 54 Wd)]) hC in_Mo t_Mo t_Mo_ok n_Mo hK hP hD hS 0 rfl rfl 0 (by decide) k_453 rfl rfl rfl (Nat.le_of_ble_eq_true rfl) rfl d_Mo_clash_2 (fun H locs hP hD hS => ?_)
  refine z_iconst hC d_Mo_clash_5 ?_
  refine lv_istore_n (lv' := [(1, .int (iI 0)), (0, .ref o)]) hC.1 hC.2.1 d_Mo_clash_6 rfl hl (by decide) rfl (fun ls hl => ?_)
  have L7 : ∀ (fu : Nat) (au0 : Int) (au1 : Int) (au2 : Int) (au3 : Int) (av0 : Int) (av1 : Int) (av2 : Int) (av3 : Int) (ac0 : Int) (ac1 : Int) (ac2 : Int) (ac3 : Int) (aW : Int → Int) (n : Int) (H : Heap) (locs : List Loc) (ls : Array Slot), z - n + 1 ≤ (fu : Int) → (0 ≤ n ∧ n ≤ z) → (∀ j, 0 ≤ j → j < n → anyZ j.toNat (fun o => agnZ T F o j) = false) → va_P D classes [(o, .inr (5, [.int (iI 0), .int (iI z), .int (iI lv), .ref qT, .ref qC, .ref qF, .ref qY, .ref qZ, .ref qu, .ref qv, .ref qw, .ref qg, .ref qh, .ref qx, .ref qc, .ref qa, .ref qb, .ref qd, .int (iI fm), .ref qp, .ref qq])), (qT, eI t.1 1200 T), (qC, eI t.1 14400 F), (qu, eL t.2.1 4 (v4 au0 au1 au2 au3)), (qv, eL t.2.1 4 (v4 av0 av1 av2 av3)), (qc, eL t.2.1 4 (v4 ac0 ac1 ac2 ac3)), (qx, eL t.2.1 54 aW)] H → va_D A [(o, .inr (5, [.int (iI 0), .int (iI z), .int (iI lv), .ref qT, .ref qC, .ref qF, .ref qY, .ref qZ, .ref qu, .ref qv, .ref qw, .ref qg, .ref qh, .ref qx, .ref qc, .ref qa, .ref qb, .ref qd, .int (iI fm), .ref qp, .ref qq])), (qT, eI t.1 1200 T), (qC, eI t.1 14400 F), (qu, eL t.2.1 4 (v4 au0 au1 au2 au3)), (qv, eL t.2.1 4 (v4 av0 av1 av2 av3)), (qc, eL t.2.1 4 (v4 ac0 ac1 ac2 ac3)), (qx, eL t.2.1 54 aW)] → va_S A zs.heap H locs → lv_has ls 3 [(1, .int (iI n)), (0, .ref o)] → W zp l ze rm_Mo_clash zs zm [.ref o].toArray zb zt zc H locs 0 0 zQ (F0 zm 7 ls []) := by
    intro fu
    induction fu with
    | zero =>
      intro au0 au1 au2 au3 av0 av1 av2 av3 ac0 ac1 ac2 ac3 aW n H locs ls hm7 hn hi hP hD hS hl
      exact absurd hm7 (by omega)
    | succ fu ih7 =>
      intro au0 au1 au2 au3 av0 av1 av2 av3 ac0 ac1 ac2 ac3 aW n H locs ls hm7 hn hi hP hD hS hl
      refine lv_iload_n hC.1 hC.2.1 d_Mo_clash_7 rfl (lv_at hl 0 rfl) ?_
      refine lv_aload_n hC.1 hC.2.1 d_Mo_clash_8 rfl (lv_at hl 1 rfl) ?_
      refine z_get (ci := 5) (C := R_Mo) (T := F_Mo) (N := 21) (v := .int (iI z)) hC in_Mo hK hP 0 rfl rfl 1 (by decide) k_454 rfl d_Mo_clash_9 ?_
      refine z_icmp_ge (tgt := 47) hC d_Mo_clash_12 (by decide) (by omega) (by omega) (fun h12 => ?_) (fun h12 => ?_)
      · refine z_iconst hC d_Mo_clash_47 ?_
        have hP9 := hP.sub (ws' := [(o, .inr (5, [.int (iI 0), .int (iI z), .int (iI lv), .ref qT, .ref qC, .ref qF, .ref qY, .ref qZ, .ref qu, .ref qv, .ref qw, .ref qg, .ref qh, .ref qx, .ref qc, .ref qa, .ref qb, .ref qd, .int (iI fm), .ref qp, .ref qq])), (qT, eI t.1 1200 T), (qC, eI t.1 14400 F), (qu, eL t.2.1 4 (v4 au0 au1 au2 au3)), (qv, eL t.2.1 4 (v4 av0 av1 av2 av3)), (qc, eL t.2.1 4 (v4 ac0 ac1 ac2 ac3)), (qx, eL t.2.1 54 aW)]) [0, 1, 2, 3, 4, 5, 6] rfl
        have hD9 := hD.sub (ws' := [(o, .inr (5, [.int (iI 0), .int (iI z), .int (iI lv), .ref qT, .ref qC, .ref qF, .ref qY, .ref qZ, .ref qu, .ref qv, .ref qw, .ref qg, .ref qh, .ref qx, .ref qc, .ref qa, .ref qb, .ref qd, .int (iI fm), .ref qp, .ref qq])), (qT, eI t.1 1200 T), (qC, eI t.1 14400 F), (qu, eL t.2.1 4 (v4 au0 au1 au2 au3)), (qv, eL t.2.1 4 (v4 av0 av1 av2 av3)), (qc, eL t.2.1 4 (v4 ac0 ac1 ac2 ac3)), (qx, eL t.2.1 54 aW)]) [0, 1, 2, 3, 4, 5, 6] (by decide) rfl
        exact retv (0, (v4 au0 au1 au2 au3), (v4 av0 av1 av2 av3), (v4 ac0 ac1 ac2 ac3), aW) _ _ 48 _ _ d_Mo_clash_48 ⟨rfl, (by show 0 = _; unfold mclZ; rw [fstZ_none (fun j h1 h2 => hi j h1 (by omega))]; rfl)⟩ hP9 hD9 hS
      · refine z_iconst hC d_Mo_clash_15 ?_
        refine lv_istore_n (lv' := [(2, .int (iI 0)), (1, .int (iI n)), (0, .ref o)]) hC.1 hC.2.1 d_Mo_clash_16 rfl hl (by decide) rfl (fun ls hl => ?_)
        have L17 : ∀ (fu : Nat) (bu0 : Int) (bu1 : Int) (bu2 : Int) (bu3 : Int) (bv0 : Int) (bv1 : Int) (bv2 : Int) (bv3 : Int) (bc0 : Int) (bc1 : Int) (bc2 : Int) (bc3 : Int) (bW : Int → Int) (o2 : Int) (H : Heap) (locs : List Loc) (ls : Array Slot), n - o2 + 1 ≤ (fu : Int) → (0 ≤ o2 ∧ o2 ≤ n) → (∀ j, 0 ≤ j → j < o2 → agnZ T F j n = false) → va_P D classes [(o, .inr (5, [.int (iI 0), .int (iI z), .int (iI lv), .ref qT, .ref qC, .ref qF, .ref qY, .ref qZ, .ref qu, .ref qv, .ref qw, .ref qg, .ref qh, .ref qx, .ref qc, .ref qa, .ref qb, .ref qd, .int (iI fm), .ref qp, .ref qq])), (qT, eI t.1 1200 T), (qC, eI t.1 14400 F), (qu, eL t.2.1 4 (v4 bu0 bu1 bu2 bu3)), (qv, eL t.2.1 4 (v4 bv0 bv1 bv2 bv3)), (qc, eL t.2.1 4 (v4 bc0 bc1 bc2 bc3)), (qx, eL t.2.1 54 bW)] H → va_D A [(o, .inr (5, [.int (iI 0), .int (iI z), .int (iI lv), .ref qT, .ref qC, .ref qF, .ref qY, .ref qZ, .ref qu, .ref qv, .ref qw, .ref qg, .ref qh, .ref qx, .ref qc, .ref qa, .ref qb, .ref qd, .int (iI fm), .ref qp, .ref qq])), (qT, eI t.1 1200 T), (qC, eI t.1 14400 F), (qu, eL t.2.1 4 (v4 bu0 bu1 bu2 bu3)), (qv, eL t.2.1 4 (v4 bv0 bv1 bv2 bv3)), (qc, eL t.2.1 4 (v4 bc0 bc1 bc2 bc3)), (qx, eL t.2.1 54 bW)] → va_S A zs.heap H locs → lv_has ls 3 [(2, .int (iI o2)), (1, .int (iI n)), (0, .ref o)] → W zp l ze rm_Mo_clash zs zm [.ref o].toArray zb zt zc H locs 0 0 zQ (F0 zm 17 ls []) := by
          intro fu
          induction fu with
          | zero =>
            intro bu0 bu1 bu2 bu3 bv0 bv1 bv2 bv3 bc0 bc1 bc2 bc3 bW o2 H locs ls hm17 ho hi2 hP hD hS hl
            exact absurd hm17 (by omega)
          | succ fu ih17 =>
            intro bu0 bu1 bu2 bu3 bv0 bv1 bv2 bv3 bc0 bc1 bc2 bc3 bW o2 H locs ls hm17 ho hi2 hP hD hS hl
            refine lv_iload_n hC.1 hC.2.1 d_Mo_clash_17 rfl (lv_at hl 0 rfl) ?_
            refine lv_iload_n hC.1 hC.2.1 d_Mo_clash_18 rfl (lv_at hl 1 rfl) ?_
            refine z_icmp_ge (tgt := 41) hC d_Mo_clash_19 (by decide) (by omega) (by omega) (fun h19 => ?_) (fun h19 => ?_)
            · refine lv_iinc (v := iI (n + 1)) (lv' := [(1, .int (iI (n + 1))), (2, .int (iI o2)), (0, .ref o)]) hC.1 hC.2.1 d_Mo_clash_41 hl (k := 1) rfl (z_inc (by omega)) (by decide) rfl (fun ls hl => ?_)
              refine z_goto (tgt := 7) hC d_Mo_clash_44 (by decide) ?_
              exact ih7 bu0 bu1 bu2 bu3 bv0 bv1 bv2 bv3 bc0 bc1 bc2 bc3 bW (n + 1) _ _ _ (by omega) (by omega) (stepF hi (anyZ_f.mpr (fun j h1 h2 => hi2 j h1 (by omega)))) (hP.sub (ws' := [(o, .inr (5, [.int (iI 0), .int (iI z), .int (iI lv), .ref qT, .ref qC, .ref qF, .ref qY, .ref qZ, .ref qu, .ref qv, .ref qw, .ref qg, .ref qh, .ref qx, .ref qc, .ref qa, .ref qb, .ref qd, .int (iI fm), .ref qp, .ref qq])), (qT, eI t.1 1200 T), (qC, eI t.1 14400 F), (qu, eL t.2.1 4 (v4 bu0 bu1 bu2 bu3)), (qv, eL t.2.1 4 (v4 bv0 bv1 bv2 bv3)), (qc, eL t.2.1 4 (v4 bc0 bc1 bc2 bc3)), (qx, eL t.2.1 54 bW)]) [0, 1, 2, 3, 4, 5, 6] rfl) (hD.sub (ws' := [(o, .inr (5, [.int (iI 0), .int (iI z), .int (iI lv), .ref qT, .ref qC, .ref qF, .ref qY, .ref qZ, .ref qu, .ref qv, .ref qw, .ref qg, .ref qh, .ref qx, .ref qc, .ref qa, .ref qb, .ref qd, .int (iI fm), .ref qp, .ref qq])), (qT, eI t.1 1200 T), (qC, eI t.1 14400 F), (qu, eL t.2.1 4 (v4 bu0 bu1 bu2 bu3)), (qv, eL t.2.1 4 (v4 bv0 bv1 bv2 bv3)), (qc, eL t.2.1 4 (v4 bc0 bc1 bc2 bc3)), (qx, eL t.2.1 54 bW)]) [0, 1, 2, 3, 4, 5, 6] (by decide) rfl) hS (lv_sub hl [0, 2] rfl)
            · refine lv_aload_n hC.1 hC.2.1 d_Mo_clash_22 rfl (lv_at hl 2 rfl) ?_
              refine lv_iload_n hC.1 hC.2.1 d_Mo_clash_23 rfl (lv_at hl 0 rfl) ?_
              refine lv_iload_n hC.1 hC.2.1 d_Mo_clash_24 rfl (lv_at hl 1 rfl) ?_
              refine z_mVi (As := [.int (iI o2), .int (iI n)]) (rest := []) (wr := []) hC (c_Mo_against l D t ts o qT qC qF qY qZ qu qv qw qg qh qx qc qa qb qd qp qq 0 z lv fm bW T F bu0 bu1 bu2 bu3 bv0 bv1 bv2 bv3 bc0 bc1 bc2 bc3 hT hF o2 n (by omega) (by omega) _) (cw_V hC k_556 k_558 kp_28 k_6 k_559 ye_Mo_against (by decide)) hP hD hK hE hS hA [0, 1, 2, 3, 4, 5, 6] [] (by decide) rfl rfl (by decide) (by decide) 0 (ci := 5) rfl rfl rfl rfl hl.1 rfl (Nat.le_of_ble_eq_true rfl) ⟨Nat.le_of_ble_eq_true rfl, Nat.le_of_ble_eq_true rfl⟩ d_Mo_clash_25 (fun u1 H locs eu1 hP hD hS => ?_)
              obtain ⟨u1r, u1x0, u1x1, u1x2, u1x3, u1y0, u1y1, u1y2, u1y3, u1c0, u1c1, u1c2, u1c3, u1X⟩ := u1
              dsimp only at eu1 hP hD ⊢
              have hP : va_P D classes [(o, .inr (5, [.int (iI 0), .int (iI z), .int (iI lv), .ref qT, .ref qC, .ref qF, .ref qY, .ref qZ, .ref qu, .ref qv, .ref qw, .ref qg, .ref qh, .ref qx, .ref qc, .ref qa, .ref qb, .ref qd, .int (iI fm), .ref qp, .ref qq])), (qT, eI t.1 1200 T), (qC, eI t.1 14400 F), (qu, eL t.2.1 4 (v4 u1x0 u1x1 u1x2 u1x3)), (qv, eL t.2.1 4 (v4 u1y0 u1y1 u1y2 u1y3)), (qc, eL t.2.1 4 (v4 u1c0 u1c1 u1c2 u1c3)), (qx, eL t.2.1 54 u1X)] H := hP
              have hD : va_D A [(o, .inr (5, [.int (iI 0), .int (iI z), .int (iI lv), .ref qT, .ref qC, .ref qF, .ref qY, .ref qZ, .ref qu, .ref qv, .ref qw, .ref qg, .ref qh, .ref qx, .ref qc, .ref qa, .ref qb, .ref qd, .int (iI fm), .ref qp, .ref qq])), (qT, eI t.1 1200 T), (qC, eI t.1 14400 F), (qu, eL t.2.1 4 (v4 u1x0 u1x1 u1x2 u1x3)), (qv, eL t.2.1 4 (v4 u1y0 u1y1 u1y2 u1y3)), (qc, eL t.2.1 4 (v4 u1c0 u1c1 u1c2 u1c3)), (qx, eL t.2.1 54 u1X)] := hD
              refine z_if_eqB (tgt := 35) hC d_Mo_clash_28 (by decide) (fun h28 => ?_) (fun h28 => ?_)
              · refine lv_iinc (v := iI (o2 + 1)) (lv' := [(2, .int (iI (o2 + 1))), (1, .int (iI n)), (0, .ref o)]) hC.1 hC.2.1 d_Mo_clash_35 hl (k := 0) rfl (z_inc (by omega)) (by decide) rfl (fun ls hl => ?_)
                refine z_goto (tgt := 17) hC d_Mo_clash_38 (by decide) ?_
                exact ih17 u1x0 u1x1 u1x2 u1x3 u1y0 u1y1 u1y2 u1y3 u1c0 u1c1 u1c2 u1c3 u1X (o2 + 1) _ _ _ (by omega) (by omega) (stepF hi2 (by rw [← eu1]; exact h28)) (hP.sub (ws' := [(o, .inr (5, [.int (iI 0), .int (iI z), .int (iI lv), .ref qT, .ref qC, .ref qF, .ref qY, .ref qZ, .ref qu, .ref qv, .ref qw, .ref qg, .ref qh, .ref qx, .ref qc, .ref qa, .ref qb, .ref qd, .int (iI fm), .ref qp, .ref qq])), (qT, eI t.1 1200 T), (qC, eI t.1 14400 F), (qu, eL t.2.1 4 (v4 u1x0 u1x1 u1x2 u1x3)), (qv, eL t.2.1 4 (v4 u1y0 u1y1 u1y2 u1y3)), (qc, eL t.2.1 4 (v4 u1c0 u1c1 u1c2 u1c3)), (qx, eL t.2.1 54 u1X)]) [0, 1, 2, 3, 4, 5, 6] rfl) (hD.sub (ws' := [(o, .inr (5, [.int (iI 0), .int (iI z), .int (iI lv), .ref qT, .ref qC, .ref qF, .ref qY, .ref qZ, .ref qu, .ref qv, .ref qw, .ref qg, .ref qh, .ref qx, .ref qc, .ref qa, .ref qb, .ref qd, .int (iI fm), .ref qp, .ref qq])), (qT, eI t.1 1200 T), (qC, eI t.1 14400 F), (qu, eL t.2.1 4 (v4 u1x0 u1x1 u1x2 u1x3)), (qv, eL t.2.1 4 (v4 u1y0 u1y1 u1y2 u1y3)), (qc, eL t.2.1 4 (v4 u1c0 u1c1 u1c2 u1c3)), (qx, eL t.2.1 54 u1X)]) [0, 1, 2, 3, 4, 5, 6] (by decide) rfl) hS (lv_sub hl [0, 1, 2] rfl)
              · refine lv_iload_n hC.1 hC.2.1 d_Mo_clash_31 rfl (lv_at hl 1 rfl) ?_
                refine z_iconst hC d_Mo_clash_32 ?_
                refine z_iadd hC d_Mo_clash_33 ?_
                have hP9 := hP.sub (ws' := [(o, .inr (5, [.int (iI 0), .int (iI z), .int (iI lv), .ref qT, .ref qC, .ref qF, .ref qY, .ref qZ, .ref qu, .ref qv, .ref qw, .ref qg, .ref qh, .ref qx, .ref qc, .ref qa, .ref qb, .ref qd, .int (iI fm), .ref qp, .ref qq])), (qT, eI t.1 1200 T), (qC, eI t.1 14400 F), (qu, eL t.2.1 4 (v4 u1x0 u1x1 u1x2 u1x3)), (qv, eL t.2.1 4 (v4 u1y0 u1y1 u1y2 u1y3)), (qc, eL t.2.1 4 (v4 u1c0 u1c1 u1c2 u1c3)), (qx, eL t.2.1 54 u1X)]) [0, 1, 2, 3, 4, 5, 6] rfl
                have hD9 := hD.sub (ws' := [(o, .inr (5, [.int (iI 0), .int (iI z), .int (iI lv), .ref qT, .ref qC, .ref qF, .ref qY, .ref qZ, .ref qu, .ref qv, .ref qw, .ref qg, .ref qh, .ref qx, .ref qc, .ref qa, .ref qb, .ref qd, .int (iI fm), .ref qp, .ref qq])), (qT, eI t.1 1200 T), (qC, eI t.1 14400 F), (qu, eL t.2.1 4 (v4 u1x0 u1x1 u1x2 u1x3)), (qv, eL t.2.1 4 (v4 u1y0 u1y1 u1y2 u1y3)), (qc, eL t.2.1 4 (v4 u1c0 u1c1 u1c2 u1c3)), (qx, eL t.2.1 54 u1X)]) [0, 1, 2, 3, 4, 5, 6] (by decide) rfl
                exact retv (n + 1, (v4 u1x0 u1x1 u1x2 u1x3), (v4 u1y0 u1y1 u1y2 u1y3), (v4 u1c0 u1c1 u1c2 u1c3), u1X) _ _ 34 _ _ d_Mo_clash_34 ⟨rfl, (by show n + 1 = _; unfold mclZ; rw [fstZ_at (k := n) (by omega) (by omega) hi (anyZ_t (k := o2) (by omega) (by omega) (by rw [← eu1]; exact h28))]; omega)⟩ hP9 hD9 hS
        exact L17 (n - 0 + 1 : Int).toNat au0 au1 au2 au3 av0 av1 av2 av3 ac0 ac1 ac2 ac3 aW 0 _ _ _ (by omega) (by omega) (by intro j _ _; omega) hP hD hS (lv_sub hl [0, 1, 2] rfl)
  exact L7 (z - 0 + 1 : Int).toNat x0 x1 x2 x3 y0 y1 y2 y3 c0 c1 c2 c3 Wd 0 _ _ _ (by omega) (by omega) (by intro j _ _; omega) hP hD hS (lv_sub hl [0, 1] rfl)
theorem ye_Mo_inside : ye y_Mo_inside R_Mo 4 := by unfold ye; decide +kernel
abbrev rm_Mo_inside : Room := { frames := 6, cells := 0, slots := 0, locals := 147 }
set_option maxHeartbeats 4000000 in
set_option maxRecDepth 100000 in
theorem c_Mo_inside (l : Launch) (D : va_G) (t : vt) (ts : Nat → Nat) (o qT qC qF qY qZ qu qv qw qg qh qx qc qa qb qd qp qq : Nat) (cd z lv fm : Int) (Wd T F : Int → Int) (x0 x1 x2 x3 : Int) (y0 y1 y2 y3 : Int) (c0 c1 c2 c3 : Int) (hT : bT T) (hF : bF F) (q0 q1 q2 q3 : Int) (hz : 0 ≤ z ∧ z ≤ 400) (j1 j2 j3 j4 : Int) (ha : inI j1) (hb : inI j2) (hc : inI j3) (hd : inI j4) (sz : Nat) : Met l y_Mo_inside (.code y_Mo_inside b_Mo_inside 7 (some .int) :: tb_ws) rm_Mo_inside (MP D t ts [.ref o, .int (iI j1), .int (iI j2), .int (iI j3), .int (iI j4)] [(o, .inr (5, [.int (iI cd), .int (iI z), .int (iI lv), .ref qT, .ref qC, .ref qF, .ref qY, .ref qZ, .ref qu, .ref qv, .ref qw, .ref qg, .ref qh, .ref qx, .ref qc, .ref qa, .ref qb, .ref qd, .int (iI fm), .ref qp, .ref qq])), (qT, eI t.1 1200 T), (qC, eI t.1 14400 F), (qu, eL t.2.1 4 (v4 x0 x1 x2 x3)), (qv, eL t.2.1 4 (v4 y0 y1 y2 y3)), (qc, eL t.2.1 4 (v4 c0 c1 c2 c3)), (qx, eL t.2.1 54 Wd), (qa, eL t.2.1 4 (v4 q0 q1 q2 q3))] sz) (va_Qi (fun zr u => zr = iI ((fun u : Int × (Int → Int) × (Int → Int) × (Int → Int) × (Int → Int) × (Int → Int) × (Int → Int) => u.1) u) ∧ ((fun u : Int × (Int → Int) × (Int → Int) × (Int → Int) × (Int → Int) × (Int → Int) × (Int → Int) => u.1 = minZ F z j1 j2 j3 j4 ∧ (u.2.1 = F ∨ (ftZ j1 j2 j3 j4 = true ∧ u.2.1 = st4 F 4800 j1 j2 j3 j4)))) u) (MB D (va_A [(o, .inr (5, [.int (iI cd), .int (iI z), .int (iI lv), .ref qT, .ref qC, .ref qF, .ref qY, .ref qZ, .ref qu, .ref qv, .ref qw, .ref qg, .ref qh, .ref qx, .ref qc, .ref qa, .ref qb, .ref qd, .int (iI fm), .ref qp, .ref qq])), (qT, eI t.1 1200 T), (qC, eI t.1 14400 F), (qu, eL t.2.1 4 (v4 x0 x1 x2 x3)), (qv, eL t.2.1 4 (v4 y0 y1 y2 y3)), (qc, eL t.2.1 4 (v4 c0 c1 c2 c3)), (qx, eL t.2.1 54 Wd), (qa, eL t.2.1 4 (v4 q0 q1 q2 q3))] sz) (fun u : Int × (Int → Int) × (Int → Int) × (Int → Int) × (Int → Int) × (Int → Int) × (Int → Int) => [(o, .inr (5, [.int (iI 0), .int (iI z), .int (iI lv), .ref qT, .ref qC, .ref qF, .ref qY, .ref qZ, .ref qu, .ref qv, .ref qw, .ref qg, .ref qh, .ref qx, .ref qc, .ref qa, .ref qb, .ref qd, .int (iI fm), .ref qp, .ref qq])), (qT, eI t.1 1200 T), (qC, eI t.1 14400 u.2.1), (qu, eL t.2.1 4 u.2.2.1), (qv, eL t.2.1 4 u.2.2.2.1), (qc, eL t.2.1 4 u.2.2.2.2.1), (qx, eL t.2.1 54 u.2.2.2.2.2.1), (qa, eL t.2.1 4 u.2.2.2.2.2.2)])) (va_A [(o, .inr (5, [.int (iI cd), .int (iI z), .int (iI lv), .ref qT, .ref qC, .ref qF, .ref qY, .ref qZ, .ref qu, .ref qv, .ref qw, .ref qg, .ref qh, .ref qx, .ref qc, .ref qa, .ref qb, .ref qd, .int (iI fm), .ref qp, .ref qq])), (qT, eI t.1 1200 T), (qC, eI t.1 14400 F), (qu, eL t.2.1 4 (v4 x0 x1 x2 x3)), (qv, eL t.2.1 4 (v4 y0 y1 y2 y3)), (qc, eL t.2.1 4 (v4 c0 c1 c2 c3)), (qx, eL t.2.1 54 Wd), (qa, eL t.2.1 4 (v4 q0 q1 q2 q3))] sz)) 0 0 (va_A [(o, .inr (5, [.int (iI cd), .int (iI z), .int (iI lv), .ref qT, .ref qC, .ref qF, .ref qY, .ref qZ, .ref qu, .ref qv, .ref qw, .ref qg, .ref qh, .ref qx, .ref qc, .ref qa, .ref qb, .ref qd, .int (iI fm), .ref qp, .ref qq])), (qT, eI t.1 1200 T), (qC, eI t.1 14400 F), (qu, eL t.2.1 4 (v4 x0 x1 x2 x3)), (qv, eL t.2.1 4 (v4 y0 y1 y2 y3)), (qc, eL t.2.1 4 (v4 c0 c1 c2 c3)), (qx, eL t.2.1 54 Wd), (qa, eL t.2.1 4 (v4 q0 q1 q2 q3))] sz) := by
  refine m_i (by decide +kernel) (Nat.le_of_ble_eq_true rfl) ?_
  intro zp ze zs zm zb zt zc zQ A ls hC hA hP hK hD hE hS hl ret
  have hl : lv_has ls 7 [(0, .ref o), (1, .int (iI j1)), (2, .int (iI j2)), (3, .int (iI j3)), (4, .int (iI j4))] := hl
  have retv : ∀ (u : Int × (Int → Int) × (Int → Int) × (Int → Int) × (Int → Int) × (Int → Int) × (Int → Int)) (H : Heap) (locs : List Loc) (pc : Nat) (ls : Array Slot) (zv : Int), decode b_Mo_inside pc = .ok (.ireturn, 1) → (zv = u.1 ∧ (u.1 = minZ F z j1 j2 j3 j4 ∧ (u.2.1 = F ∨ (ftZ j1 j2 j3 j4 = true ∧ u.2.1 = st4 F 4800 j1 j2 j3 j4)))) → va_P D classes ([(o, .inr (5, [.int (iI 0), .int (iI z), .int (iI lv), .ref qT, .ref qC, .ref qF, .ref qY, .ref qZ, .ref qu, .ref qv, .ref qw, .ref qg, .ref qh, .ref qx, .ref qc, .ref qa, .ref qb, .ref qd, .int (iI fm), .ref qp, .ref qq])), (qT, eI t.1 1200 T), (qC, eI t.1 14400 u.2.1), (qu, eL t.2.1 4 u.2.2.1), (qv, eL t.2.1 4 u.2.2.2.1), (qc, eL t.2.1 4 u.2.2.2.2.1), (qx, eL t.2.1 54 u.2.2.2.2.2.1), (qa, eL t.2.1 4 u.2.2.2.2.2.2)]) H → va_D A ([(o, .inr (5, [.int (iI 0), .int (iI z), .int (iI lv), .ref qT, .ref qC, .ref qF, .ref qY, .ref qZ, .ref qu, .ref qv, .ref qw, .ref qg, .ref qh, .ref qx, .ref qc, .ref qa, .ref qb, .ref qd, .int (iI fm), .ref qp, .ref qq])), (qT, eI t.1 1200 T), (qC, eI t.1 14400 u.2.1), (qu, eL t.2.1 4 u.2.2.1), (qv, eL t.2.1 4 u.2.2.2.1), (qc, eL t.2.1 4 u.2.2.2.2.1), (qx, eL t.2.1 54 u.2.2.2.2.2.1), (qa, eL t.2.1 4 u.2.2.2.2.2.2)]) → va_S A zs.heap H locs → W zp l ze rm_Mo_inside zs zm [.ref o, .int (iI j1), .int (iI j2), .int (iI j3), .int (iI j4)].toArray zb zt zc H locs 0 0 zQ (F0 zm pc ls [.int (iI zv)]) := fun u H locs pc ls v d h hP hD hS => by rw [h.1]; exact ret u H locs pc ls d h.2 hP hD hS
  refine lv_aload_n hC.1 hC.2.1 d_Mo_inside_0 rfl (lv_at hl 0 rfl) ?_
  refine z_iconst hC d_Mo_inside_1 ?_
  refine z_put (ci := 5) (C := R_Mo) (T := F_Mo) (N := 21) (v := .int (iI 0)) (ws' := [(o, .inr (5, [.int (iI 0), .int (iI z), .int (iI lv), .ref qT, .ref qC, .ref qF, .ref qY, .ref qZ, .ref qu, .ref qv, .ref qw, .ref qg, .ref qh, .ref qx, .ref qc, .ref qa, .ref qb, .ref qd, .int (iI fm), .ref qp, .ref qq])), (qT, eI t.1 1200 T), (qC, eI t.1 14400 F), (qu, eL t.2.1 4 (v4 x0 x1 x2 x3)), (qv, eL t.2.1 4 (v4 y0 y1 y2 y3)), (qc, eL t.2.1 4 (v4 c0 c1 c2 c3)), (qx, eL t.2.1 54 Wd), (qa, eL t.2.1 4 (v4 q0 q1 q2 q3))]) hC in_Mo t_Mo t_Mo_ok n_Mo hK hP hD hS 0 rfl rfl 0 (by decide) k_453 rfl rfl rfl (Nat.le_of_ble_eq_true rfl) rfl d_Mo_inside_2 (fun H locs hP hD hS => ?_)
  refine lv_aload_n hC.1 hC.2.1 d_Mo_inside_5 rfl (lv_at hl 0 rfl) ?_
  refine z_get (ci := 5) (C := R_Mo) (T := F_Mo) (N := 21) (v := .ref qa) hC in_Mo hK hP 0 rfl rfl 15 (by decide) k_468 rfl d_Mo_inside_6 ?_
  refine z_iconst hC d_Mo_inside_9 ?_
  refine lv_iload_n hC.1 hC.2.1 d_Mo_inside_10 rfl (lv_at hl 1 rfl) ?_
  refine z_i2l hC d_Mo_inside_11 (by omega) ?_
  refine z_last (ws' := [(o, .inr (5, [.int (iI 0), .int (iI z), .int (iI lv), .ref qT, .ref qC, .ref qF, .ref qY, .ref qZ, .ref qu, .ref qv, .ref qw, .ref qg, .ref qh, .ref qx, .ref qc, .ref qa, .ref qb, .ref qd, .int (iI fm), .ref qp, .ref qq])), (qT, eI t.1 1200 T), (qC, eI t.1 14400 F), (qu, eL t.2.1 4 (v4 x0 x1 x2 x3)), (qv, eL t.2.1 4 (v4 y0 y1 y2 y3)), (qc, eL t.2.1 4 (v4 c0 c1 c2 c3)), (qx, eL t.2.1 54 Wd), (qa, eL t.2.1 4 (uZ (v4 q0 q1 q2 q3) 0 j1))]) hC hK hP hD hS 7 rfl (by decide) rfl d_Mo_inside_12 (fun H locs hP hD hS => ?_)
  rw [v4_u0] at hP hD
  refine lv_aload_n hC.1 hC.2.1 d_Mo_inside_13 rfl (lv_at hl 0 rfl) ?_
  refine z_get (ci := 5) (C := R_Mo) (T := F_Mo) (N := 21) (v := .ref qa) hC in_Mo hK hP 0 rfl rfl 15 (by decide) k_468 rfl d_Mo_inside_14 ?_
  refine z_iconst hC d_Mo_inside_17 ?_
  refine lv_iload_n hC.1 hC.2.1 d_Mo_inside_18 rfl (lv_at hl 2 rfl) ?_
  refine z_i2l hC d_Mo_inside_19 (by omega) ?_
  refine z_last (ws' := [(o, .inr (5, [.int (iI 0), .int (iI z), .int (iI lv), .ref qT, .ref qC, .ref qF, .ref qY, .ref qZ, .ref qu, .ref qv, .ref qw, .ref qg, .ref qh, .ref qx, .ref qc, .ref qa, .ref qb, .ref qd, .int (iI fm), .ref qp, .ref qq])), (qT, eI t.1 1200 T), (qC, eI t.1 14400 F), (qu, eL t.2.1 4 (v4 x0 x1 x2 x3)), (qv, eL t.2.1 4 (v4 y0 y1 y2 y3)), (qc, eL t.2.1 4 (v4 c0 c1 c2 c3)), (qx, eL t.2.1 54 Wd), (qa, eL t.2.1 4 (uZ (v4 j1 q1 q2 q3) 1 j2))]) hC hK hP hD hS 7 rfl (by decide) rfl d_Mo_inside_20 (fun H locs hP hD hS => ?_)
  rw [v4_u1] at hP hD
  refine lv_aload_n hC.1 hC.2.1 d_Mo_inside_21 rfl (lv_at hl 0 rfl) ?_
  refine z_get (ci := 5) (C := R_Mo) (T := F_Mo) (N := 21) (v := .ref qa) hC in_Mo hK hP 0 rfl rfl 15 (by decide) k_468 rfl d_Mo_inside_22 ?_
  refine z_iconst hC d_Mo_inside_25 ?_
  refine lv_iload_n hC.1 hC.2.1 d_Mo_inside_26 rfl (lv_at hl 3 rfl) ?_
  refine z_i2l hC d_Mo_inside_27 (by omega) ?_
  refine z_last (ws' := [(o, .inr (5, [.int (iI 0), .int (iI z), .int (iI lv), .ref qT, .ref qC, .ref qF, .ref qY, .ref qZ, .ref qu, .ref qv, .ref qw, .ref qg, .ref qh, .ref qx, .ref qc, .ref qa, .ref qb, .ref qd, .int (iI fm), .ref qp, .ref qq])), (qT, eI t.1 1200 T), (qC, eI t.1 14400 F), (qu, eL t.2.1 4 (v4 x0 x1 x2 x3)), (qv, eL t.2.1 4 (v4 y0 y1 y2 y3)), (qc, eL t.2.1 4 (v4 c0 c1 c2 c3)), (qx, eL t.2.1 54 Wd), (qa, eL t.2.1 4 (uZ (v4 j1 j2 q2 q3) 2 j3))]) hC hK hP hD hS 7 rfl (by decide) rfl d_Mo_inside_28 (fun H locs hP hD hS => ?_)
  rw [v4_u2] at hP hD
  refine lv_aload_n hC.1 hC.2.1 d_Mo_inside_29 rfl (lv_at hl 0 rfl) ?_
  refine z_get (ci := 5) (C := R_Mo) (T := F_Mo) (N := 21) (v := .ref qa) hC in_Mo hK hP 0 rfl rfl 15 (by decide) k_468 rfl d_Mo_inside_30 ?_
  refine z_iconst hC d_Mo_inside_33 ?_
  refine lv_iload hC.1 hC.2.1 d_Mo_inside_34 (lv_at hl 4 rfl) ?_
  refine z_i2l hC d_Mo_inside_36 (by omega) ?_
  refine z_last (ws' := [(o, .inr (5, [.int (iI 0), .int (iI z), .int (iI lv), .ref qT, .ref qC, .ref qF, .ref qY, .ref qZ, .ref qu, .ref qv, .ref qw, .ref qg, .ref qh, .ref qx, .ref qc, .ref qa, .ref qb, .ref qd, .int (iI fm), .ref qp, .ref qq])), (qT, eI t.1 1200 T), (qC, eI t.1 14400 F), (qu, eL t.2.1 4 (v4 x0 x1 x2 x3)), (qv, eL t.2.1 4 (v4 y0 y1 y2 y3)), (qc, eL t.2.1 4 (v4 c0 c1 c2 c3)), (qx, eL t.2.1 54 Wd), (qa, eL t.2.1 4 (uZ (v4 j1 j2 j3 q3) 3 j4))]) hC hK hP hD hS 7 rfl (by decide) rfl d_Mo_inside_37 (fun H locs hP hD hS => ?_)
  rw [v4_u3] at hP hD
  refine lv_aload_n hC.1 hC.2.1 d_Mo_inside_38 rfl (lv_at hl 0 rfl) ?_
  refine z_get (ci := 5) (C := R_Mo) (T := F_Mo) (N := 21) (v := .ref qa) hC in_Mo hK hP 0 rfl rfl 15 (by decide) k_468 rfl d_Mo_inside_39 ?_
  refine z_roSi (As := [.ref qa]) (rest := []) hC (c_Mo_fits l D t ts qa j1 j2 j3 j4 (by omega) (by omega) (by omega) (by omega)) (cw_S hC k_549 k_550 k_6 k_551 ye_Mo_fits (by decide)) hP hK hE hS [7] rfl rfl hl.1 rfl (Nat.le_of_ble_eq_true rfl) ⟨Nat.le_of_ble_eq_true rfl, Nat.le_of_ble_eq_true rfl⟩ d_Mo_inside_42 ?_
  refine z_if_neB (tgt := 50) hC d_Mo_inside_45 (by decide) (fun h45 => ?_) (fun h45 => ?_)
  · refine z_sipush hC d_Mo_inside_50 (by decide) ?_
    refine lv_istore (lv' := [(5, .int (iI 4800)), (0, .ref o), (1, .int (iI j1)), (2, .int (iI j2)), (3, .int (iI j3)), (4, .int (iI j4))]) hC.1 hC.2.1 d_Mo_inside_53 hl (by decide) rfl (fun ls hl => ?_)
    refine lv_aload_n hC.1 hC.2.1 d_Mo_inside_55 rfl (lv_at hl 1 rfl) ?_
    refine lv_iload hC.1 hC.2.1 d_Mo_inside_56 (lv_at hl 0 rfl) ?_
    refine lv_aload_n hC.1 hC.2.1 d_Mo_inside_58 rfl (lv_at hl 1 rfl) ?_
    refine z_get (ci := 5) (C := R_Mo) (T := F_Mo) (N := 21) (v := .ref qa) hC in_Mo hK hP 0 rfl rfl 15 (by decide) k_468 rfl d_Mo_inside_59 ?_
    refine z_mVv (As := [.int (iI 4800), .ref qa]) (rest := []) (wr := [(qT, eI t.1 1200 T), (qu, eL t.2.1 4 (v4 x0 x1 x2 x3)), (qv, eL t.2.1 4 (v4 y0 y1 y2 y3)), (qc, eL t.2.1 4 (v4 c0 c1 c2 c3)), (qx, eL t.2.1 54 Wd)]) hC (c_Mo_set l D t ts o qT qC qF qY qZ qu qv qw qg qh qx qc qa qb qd qp qq 0 z lv fm qa F j1 j2 j3 j4 4800 (by omega) _) (cw_V hC k_541 k_543 kp_27 k_6 k_544 ye_Mo_set (by decide)) hP hD hK hE hS hA [0, 2, 7] [1, 3, 4, 5, 6] (by decide) rfl rfl (by decide) (by decide) 0 (ci := 5) rfl rfl rfl rfl hl.1 rfl (Nat.le_of_ble_eq_true rfl) ⟨Nat.le_of_ble_eq_true rfl, Nat.le_of_ble_eq_true rfl⟩ d_Mo_inside_62 (fun u1 H locs eu1 hP hD hS => ?_)
    have hP : va_P D classes [(qT, eI t.1 1200 T), (qu, eL t.2.1 4 (v4 x0 x1 x2 x3)), (qv, eL t.2.1 4 (v4 y0 y1 y2 y3)), (qc, eL t.2.1 4 (v4 c0 c1 c2 c3)), (qx, eL t.2.1 54 Wd), (o, .inr (5, [.int (iI 0), .int (iI z), .int (iI lv), .ref qT, .ref qC, .ref qF, .ref qY, .ref qZ, .ref qu, .ref qv, .ref qw, .ref qg, .ref qh, .ref qx, .ref qc, .ref qa, .ref qb, .ref qd, .int (iI fm), .ref qp, .ref qq])), (qC, eI t.1 14400 (st4 F 4800 j1 j2 j3 j4)), (qa, eL t.2.1 4 (v4 j1 j2 j3 j4))] H := hP
    have hD : va_D A [(qT, eI t.1 1200 T), (qu, eL t.2.1 4 (v4 x0 x1 x2 x3)), (qv, eL t.2.1 4 (v4 y0 y1 y2 y3)), (qc, eL t.2.1 4 (v4 c0 c1 c2 c3)), (qx, eL t.2.1 54 Wd), (o, .inr (5, [.int (iI 0), .int (iI z), .int (iI lv), .ref qT, .ref qC, .ref qF, .ref qY, .ref qZ, .ref qu, .ref qv, .ref qw, .ref qg, .ref qh, .ref qx, .ref qc, .ref qa, .ref qb, .ref qd, .int (iI fm), .ref qp, .ref qq])), (qC, eI t.1 14400 (st4 F 4800 j1 j2 j3 j4)), (qa, eL t.2.1 4 (v4 j1 j2 j3 j4))] := hD
    obtain ⟨GG, eGG⟩ : ∃ G : Int → Int, G = (st4 F 4800 j1 j2 j3 j4) := ⟨_, rfl⟩
    rw [← eGG] at hP hD
    have hGG : bF GG := by rw [eGG]; have q := ftZ_b h45; exact bF_st4 hF (by omega) (by omega) (by omega) (by omega)
    refine z_iconst hC d_Mo_inside_65 ?_
    refine lv_istore (lv' := [(6, .int (iI 0)), (5, .int (iI 4800)), (0, .ref o), (1, .int (iI j1)), (2, .int (iI j2)), (3, .int (iI j3)), (4, .int (iI j4))]) hC.1 hC.2.1 d_Mo_inside_66 hl (by decide) rfl (fun ls hl => ?_)
    have L68 : ∀ (fu : Nat) (au0 : Int) (au1 : Int) (au2 : Int) (au3 : Int) (av0 : Int) (av1 : Int) (av2 : Int) (av3 : Int) (ac0 : Int) (ac1 : Int) (ac2 : Int) (ac3 : Int) (aW : Int → Int) (n : Int) (H : Heap) (locs : List Loc) (ls : Array Slot), z - n + 1 ≤ (fu : Int) → (0 ≤ n ∧ n ≤ z) → (∀ j, 0 ≤ j → j < n → cvZ GG j 4800 = false) → va_P D classes [(qT, eI t.1 1200 T), (qu, eL t.2.1 4 (v4 au0 au1 au2 au3)), (qv, eL t.2.1 4 (v4 av0 av1 av2 av3)), (qc, eL t.2.1 4 (v4 ac0 ac1 ac2 ac3)), (qx, eL t.2.1 54 aW), (o, .inr (5, [.int (iI 0), .int (iI z), .int (iI lv), .ref qT, .ref qC, .ref qF, .ref qY, .ref qZ, .ref qu, .ref qv, .ref qw, .ref qg, .ref qh, .ref qx, .ref qc, .ref qa, .ref qb, .ref qd, .int (iI fm), .ref qp, .ref qq])), (qC, eI t.1 14400 GG), (qa, eL t.2.1 4 (v4 j1 j2 j3 j4))] H → va_D A [(qT, eI t.1 1200 T), (qu, eL t.2.1 4 (v4 au0 au1 au2 au3)), (qv, eL t.2.1 4 (v4 av0 av1 av2 av3)), (qc, eL t.2.1 4 (v4 ac0 ac1 ac2 ac3)), (qx, eL t.2.1 54 aW), (o, .inr (5, [.int (iI 0), .int (iI z), .int (iI lv), .ref qT, .ref qC, .ref qF, .ref qY, .ref qZ, .ref qu, .ref qv, .ref qw, .ref qg, .ref qh, .ref qx, .ref qc, .ref qa, .ref qb, .ref qd, .int (iI fm), .ref qp, .ref qq])), (qC, eI t.1 14400 GG), (qa, eL t.2.1 4 (v4 j1 j2 j3 j4))] → va_S A zs.heap H locs → lv_has ls 7 [(6, .int (iI n)), (5, .int (iI 4800)), (0, .ref o)] → W zp l ze rm_Mo_inside zs zm [.ref o, .int (iI j1), .int (iI j2), .int (iI j3), .int (iI j4)].toArray zb zt zc H locs 0 0 zQ (F0 zm 68 ls []) := by
      intro fu
      induction fu with
      | zero =>
        intro au0 au1 au2 au3 av0 av1 av2 av3 ac0 ac1 ac2 ac3 aW n H locs ls hm68 hn hi hP hD hS hl
        exact absurd hm68 (by omega)
      | succ fu ih68 =>
        intro au0 au1 au2 au3 av0 av1 av2 av3 ac0 ac1 ac2 ac3 aW n H locs ls hm68 hn hi hP hD hS hl
        refine lv_iload hC.1 hC.2.1 d_Mo_inside_68 (lv_at hl 0 rfl) ?_
        refine lv_aload_n hC.1 hC.2.1 d_Mo_inside_70 rfl (lv_at hl 2 rfl) ?_
        refine z_get (ci := 5) (C := R_Mo) (T := F_Mo) (N := 21) (v := .int (iI z)) hC in_Mo hK hP 5 rfl rfl 1 (by decide) k_454 rfl d_Mo_inside_71 ?_
        refine z_icmp_ge (tgt := 97) hC d_Mo_inside_74 (by decide) (by omega) (by omega) (fun h74 => ?_) (fun h74 => ?_)
        · refine z_iconst hC d_Mo_inside_97 ?_
          have hP9 := hP.sub (ws' := [(o, .inr (5, [.int (iI 0), .int (iI z), .int (iI lv), .ref qT, .ref qC, .ref qF, .ref qY, .ref qZ, .ref qu, .ref qv, .ref qw, .ref qg, .ref qh, .ref qx, .ref qc, .ref qa, .ref qb, .ref qd, .int (iI fm), .ref qp, .ref qq])), (qT, eI t.1 1200 T), (qC, eI t.1 14400 GG), (qu, eL t.2.1 4 (v4 au0 au1 au2 au3)), (qv, eL t.2.1 4 (v4 av0 av1 av2 av3)), (qc, eL t.2.1 4 (v4 ac0 ac1 ac2 ac3)), (qx, eL t.2.1 54 aW), (qa, eL t.2.1 4 (v4 j1 j2 j3 j4))]) [5, 0, 6, 1, 2, 3, 4, 7] rfl
          have hD9 := hD.sub (ws' := [(o, .inr (5, [.int (iI 0), .int (iI z), .int (iI lv), .ref qT, .ref qC, .ref qF, .ref qY, .ref qZ, .ref qu, .ref qv, .ref qw, .ref qg, .ref qh, .ref qx, .ref qc, .ref qa, .ref qb, .ref qd, .int (iI fm), .ref qp, .ref qq])), (qT, eI t.1 1200 T), (qC, eI t.1 14400 GG), (qu, eL t.2.1 4 (v4 au0 au1 au2 au3)), (qv, eL t.2.1 4 (v4 av0 av1 av2 av3)), (qc, eL t.2.1 4 (v4 ac0 ac1 ac2 ac3)), (qx, eL t.2.1 54 aW), (qa, eL t.2.1 4 (v4 j1 j2 j3 j4))]) [5, 0, 6, 1, 2, 3, 4, 7] (by decide) rfl
          exact retv (-1, GG, (v4 au0 au1 au2 au3), (v4 av0 av1 av2 av3), (v4 ac0 ac1 ac2 ac3), aW, (v4 j1 j2 j3 j4)) _ _ 98 _ _ d_Mo_inside_98 ⟨rfl, (by show -1 = _; unfold minZ; rw [if_pos h45, ← eGG, fstZ_none (fun j h1 h2 => hi j h1 (by omega))]), Or.inr ⟨h45, eGG⟩⟩ hP9 hD9 hS
        · refine lv_aload_n hC.1 hC.2.1 d_Mo_inside_77 rfl (lv_at hl 2 rfl) ?_
          refine lv_iload hC.1 hC.2.1 d_Mo_inside_78 (lv_at hl 0 rfl) ?_
          refine lv_iload hC.1 hC.2.1 d_Mo_inside_80 (lv_at hl 1 rfl) ?_
          refine z_mVi (As := [.int (iI n), .int (iI 4800)]) (rest := []) (wr := [(qa, eL t.2.1 4 (v4 j1 j2 j3 j4))]) hC (c_Mo_covers l D t ts o qT qC qF qY qZ qu qv qw qg qh qx qc qa qb qd qp qq 0 z lv fm aW T GG au0 au1 au2 au3 av0 av1 av2 av3 ac0 ac1 ac2 ac3 hT hGG n 4800 (by omega) (by omega) _) (cw_V hC k_735 k_737 kp_62 k_6 k_738 ye_Mo_covers (by decide)) hP hD hK hE hS hA [5, 0, 6, 1, 2, 3, 4] [7] (by decide) rfl rfl (by decide) (by decide) 5 (ci := 5) rfl rfl rfl rfl hl.1 rfl (Nat.le_of_ble_eq_true rfl) ⟨Nat.le_of_ble_eq_true rfl, Nat.le_of_ble_eq_true rfl⟩ d_Mo_inside_82 (fun u2 H locs eu2 hP hD hS => ?_)
          obtain ⟨u2r, u2x0, u2x1, u2x2, u2x3, u2y0, u2y1, u2y2, u2y3, u2c0, u2c1, u2c2, u2c3, u2X⟩ := u2
          dsimp only at eu2 hP hD ⊢
          have hP : va_P D classes [(qa, eL t.2.1 4 (v4 j1 j2 j3 j4)), (o, .inr (5, [.int (iI 0), .int (iI z), .int (iI lv), .ref qT, .ref qC, .ref qF, .ref qY, .ref qZ, .ref qu, .ref qv, .ref qw, .ref qg, .ref qh, .ref qx, .ref qc, .ref qa, .ref qb, .ref qd, .int (iI fm), .ref qp, .ref qq])), (qT, eI t.1 1200 T), (qC, eI t.1 14400 GG), (qu, eL t.2.1 4 (v4 u2x0 u2x1 u2x2 u2x3)), (qv, eL t.2.1 4 (v4 u2y0 u2y1 u2y2 u2y3)), (qc, eL t.2.1 4 (v4 u2c0 u2c1 u2c2 u2c3)), (qx, eL t.2.1 54 u2X)] H := hP
          have hD : va_D A [(qa, eL t.2.1 4 (v4 j1 j2 j3 j4)), (o, .inr (5, [.int (iI 0), .int (iI z), .int (iI lv), .ref qT, .ref qC, .ref qF, .ref qY, .ref qZ, .ref qu, .ref qv, .ref qw, .ref qg, .ref qh, .ref qx, .ref qc, .ref qa, .ref qb, .ref qd, .int (iI fm), .ref qp, .ref qq])), (qT, eI t.1 1200 T), (qC, eI t.1 14400 GG), (qu, eL t.2.1 4 (v4 u2x0 u2x1 u2x2 u2x3)), (qv, eL t.2.1 4 (v4 u2y0 u2y1 u2y2 u2y3)), (qc, eL t.2.1 4 (v4 u2c0 u2c1 u2c2 u2c3)), (qx, eL t.2.1 54 u2X)] := hD
          refine z_if_eqB (tgt := 91) hC d_Mo_inside_85 (by decide) (fun h85 => ?_) (fun h85 => ?_)
          · refine lv_iinc (v := iI (n + 1)) (lv' := [(6, .int (iI (n + 1))), (5, .int (iI 4800)), (0, .ref o)]) hC.1 hC.2.1 d_Mo_inside_91 hl (k := 0) rfl (z_inc (by omega)) (by decide) rfl (fun ls hl => ?_)
            refine z_goto (tgt := 68) hC d_Mo_inside_94 (by decide) ?_
            exact ih68 u2x0 u2x1 u2x2 u2x3 u2y0 u2y1 u2y2 u2y3 u2c0 u2c1 u2c2 u2c3 u2X (n + 1) _ _ _ (by omega) (by omega) (stepF hi (by rw [← eu2]; exact h85)) (hP.sub (ws' := [(qT, eI t.1 1200 T), (qu, eL t.2.1 4 (v4 u2x0 u2x1 u2x2 u2x3)), (qv, eL t.2.1 4 (v4 u2y0 u2y1 u2y2 u2y3)), (qc, eL t.2.1 4 (v4 u2c0 u2c1 u2c2 u2c3)), (qx, eL t.2.1 54 u2X), (o, .inr (5, [.int (iI 0), .int (iI z), .int (iI lv), .ref qT, .ref qC, .ref qF, .ref qY, .ref qZ, .ref qu, .ref qv, .ref qw, .ref qg, .ref qh, .ref qx, .ref qc, .ref qa, .ref qb, .ref qd, .int (iI fm), .ref qp, .ref qq])), (qC, eI t.1 14400 GG), (qa, eL t.2.1 4 (v4 j1 j2 j3 j4))]) [2, 4, 5, 6, 7, 1, 3, 0] rfl) (hD.sub (ws' := [(qT, eI t.1 1200 T), (qu, eL t.2.1 4 (v4 u2x0 u2x1 u2x2 u2x3)), (qv, eL t.2.1 4 (v4 u2y0 u2y1 u2y2 u2y3)), (qc, eL t.2.1 4 (v4 u2c0 u2c1 u2c2 u2c3)), (qx, eL t.2.1 54 u2X), (o, .inr (5, [.int (iI 0), .int (iI z), .int (iI lv), .ref qT, .ref qC, .ref qF, .ref qY, .ref qZ, .ref qu, .ref qv, .ref qw, .ref qg, .ref qh, .ref qx, .ref qc, .ref qa, .ref qb, .ref qd, .int (iI fm), .ref qp, .ref qq])), (qC, eI t.1 14400 GG), (qa, eL t.2.1 4 (v4 j1 j2 j3 j4))]) [2, 4, 5, 6, 7, 1, 3, 0] (by decide) rfl) hS (lv_sub hl [0, 1, 2] rfl)
          · refine lv_iload hC.1 hC.2.1 d_Mo_inside_88 (lv_at hl 0 rfl) ?_
            have hP9 := hP.sub (ws' := [(o, .inr (5, [.int (iI 0), .int (iI z), .int (iI lv), .ref qT, .ref qC, .ref qF, .ref qY, .ref qZ, .ref qu, .ref qv, .ref qw, .ref qg, .ref qh, .ref qx, .ref qc, .ref qa, .ref qb, .ref qd, .int (iI fm), .ref qp, .ref qq])), (qT, eI t.1 1200 T), (qC, eI t.1 14400 GG), (qu, eL t.2.1 4 (v4 u2x0 u2x1 u2x2 u2x3)), (qv, eL t.2.1 4 (v4 u2y0 u2y1 u2y2 u2y3)), (qc, eL t.2.1 4 (v4 u2c0 u2c1 u2c2 u2c3)), (qx, eL t.2.1 54 u2X), (qa, eL t.2.1 4 (v4 j1 j2 j3 j4))]) [1, 2, 3, 4, 5, 6, 7, 0] rfl
            have hD9 := hD.sub (ws' := [(o, .inr (5, [.int (iI 0), .int (iI z), .int (iI lv), .ref qT, .ref qC, .ref qF, .ref qY, .ref qZ, .ref qu, .ref qv, .ref qw, .ref qg, .ref qh, .ref qx, .ref qc, .ref qa, .ref qb, .ref qd, .int (iI fm), .ref qp, .ref qq])), (qT, eI t.1 1200 T), (qC, eI t.1 14400 GG), (qu, eL t.2.1 4 (v4 u2x0 u2x1 u2x2 u2x3)), (qv, eL t.2.1 4 (v4 u2y0 u2y1 u2y2 u2y3)), (qc, eL t.2.1 4 (v4 u2c0 u2c1 u2c2 u2c3)), (qx, eL t.2.1 54 u2X), (qa, eL t.2.1 4 (v4 j1 j2 j3 j4))]) [1, 2, 3, 4, 5, 6, 7, 0] (by decide) rfl
            exact retv (n, GG, (v4 u2x0 u2x1 u2x2 u2x3), (v4 u2y0 u2y1 u2y2 u2y3), (v4 u2c0 u2c1 u2c2 u2c3), u2X, (v4 j1 j2 j3 j4)) _ _ 90 _ _ d_Mo_inside_90 ⟨rfl, (by show n = _; unfold minZ; rw [if_pos h45, ← eGG, fstZ_at (k := n) (by omega) (by omega) hi (by rw [← eu2]; exact h85)]), Or.inr ⟨h45, eGG⟩⟩ hP9 hD9 hS
    exact L68 (z - 0 + 1 : Int).toNat x0 x1 x2 x3 y0 y1 y2 y3 c0 c1 c2 c3 Wd 0 _ _ _ (by omega) (by omega) (by intro j _ _; omega) hP hD hS (lv_sub hl [0, 1, 2] rfl)
  · refine z_iconst hC d_Mo_inside_48 ?_
    have hP9 := hP.sub (ws' := [(o, .inr (5, [.int (iI 0), .int (iI z), .int (iI lv), .ref qT, .ref qC, .ref qF, .ref qY, .ref qZ, .ref qu, .ref qv, .ref qw, .ref qg, .ref qh, .ref qx, .ref qc, .ref qa, .ref qb, .ref qd, .int (iI fm), .ref qp, .ref qq])), (qT, eI t.1 1200 T), (qC, eI t.1 14400 F), (qu, eL t.2.1 4 (v4 x0 x1 x2 x3)), (qv, eL t.2.1 4 (v4 y0 y1 y2 y3)), (qc, eL t.2.1 4 (v4 c0 c1 c2 c3)), (qx, eL t.2.1 54 Wd), (qa, eL t.2.1 4 (v4 j1 j2 j3 j4))]) [0, 1, 2, 3, 4, 5, 6, 7] rfl
    have hD9 := hD.sub (ws' := [(o, .inr (5, [.int (iI 0), .int (iI z), .int (iI lv), .ref qT, .ref qC, .ref qF, .ref qY, .ref qZ, .ref qu, .ref qv, .ref qw, .ref qg, .ref qh, .ref qx, .ref qc, .ref qa, .ref qb, .ref qd, .int (iI fm), .ref qp, .ref qq])), (qT, eI t.1 1200 T), (qC, eI t.1 14400 F), (qu, eL t.2.1 4 (v4 x0 x1 x2 x3)), (qv, eL t.2.1 4 (v4 y0 y1 y2 y3)), (qc, eL t.2.1 4 (v4 c0 c1 c2 c3)), (qx, eL t.2.1 54 Wd), (qa, eL t.2.1 4 (v4 j1 j2 j3 j4))]) [0, 1, 2, 3, 4, 5, 6, 7] (by decide) rfl
    exact retv (-1, F, (v4 x0 x1 x2 x3), (v4 y0 y1 y2 y3), (v4 c0 c1 c2 c3), Wd, (v4 j1 j2 j3 j4)) _ _ 49 _ _ d_Mo_inside_49 ⟨rfl, (by show -1 = _; unfold minZ; rw [if_neg (by rw [h45]; decide)]), Or.inl rfl⟩ hP9 hD9 hS
theorem ye_Mo_star : ye y_Mo_star R_Mo 3 := by unfold ye; decide +kernel
abbrev rm_Mo_star : Room := { frames := 7, cells := 0, slots := 0, locals := 172 }
set_option maxHeartbeats 4000000 in
set_option maxRecDepth 100000 in
theorem c_Mo_star (l : Launch) (D : va_G) (t : vt) (ts : Nat → Nat) (o qT qC qF qY qZ qu qv qw qg qh qx qc qa qb qd qp qq : Nat) (cd z lv fm : Int) (Wd T F : Int → Int) (x0 x1 x2 x3 : Int) (y0 y1 y2 y3 : Int) (c0 c1 c2 c3 : Int) (hT : bT T) (hF : bF F) (hz : 0 ≤ z ∧ z ≤ 400) (n c w : Int) (hn : inI n) (hc : inI c) (hw : inI w) (sz : Nat) : Met l y_Mo_star (.code y_Mo_star b_Mo_star 11 (some .int) :: tb_ws) rm_Mo_star (MP D t ts [.ref o, .int (iI n), .int (iI c), .int (iI w)] [(o, .inr (5, [.int (iI cd), .int (iI z), .int (iI lv), .ref qT, .ref qC, .ref qF, .ref qY, .ref qZ, .ref qu, .ref qv, .ref qw, .ref qg, .ref qh, .ref qx, .ref qc, .ref qa, .ref qb, .ref qd, .int (iI fm), .ref qp, .ref qq])), (qT, eI t.1 1200 T), (qC, eI t.1 14400 F), (qu, eL t.2.1 4 (v4 x0 x1 x2 x3)), (qv, eL t.2.1 4 (v4 y0 y1 y2 y3)), (qc, eL t.2.1 4 (v4 c0 c1 c2 c3)), (qx, eL t.2.1 54 Wd)] sz) (va_Qi (fun zr u => zr = iI ((fun u : Int × (Int → Int) × (Int → Int) × (Int → Int) × (Int → Int) => u.1) u) ∧ ((fun u : Int × (Int → Int) × (Int → Int) × (Int → Int) × (Int → Int) => u.1 = mstZ T F z n c w)) u) (MB D (va_A [(o, .inr (5, [.int (iI cd), .int (iI z), .int (iI lv), .ref qT, .ref qC, .ref qF, .ref qY, .ref qZ, .ref qu, .ref qv, .ref qw, .ref qg, .ref qh, .ref qx, .ref qc, .ref qa, .ref qb, .ref qd, .int (iI fm), .ref qp, .ref qq])), (qT, eI t.1 1200 T), (qC, eI t.1 14400 F), (qu, eL t.2.1 4 (v4 x0 x1 x2 x3)), (qv, eL t.2.1 4 (v4 y0 y1 y2 y3)), (qc, eL t.2.1 4 (v4 c0 c1 c2 c3)), (qx, eL t.2.1 54 Wd)] sz) (fun u : Int × (Int → Int) × (Int → Int) × (Int → Int) × (Int → Int) => [(o, .inr (5, [.int (iI 0), .int (iI z), .int (iI lv), .ref qT, .ref qC, .ref qF, .ref qY, .ref qZ, .ref qu, .ref qv, .ref qw, .ref qg, .ref qh, .ref qx, .ref qc, .ref qa, .ref qb, .ref qd, .int (iI fm), .ref qp, .ref qq])), (qT, eI t.1 1200 T), (qC, eI t.1 14400 F), (qu, eL t.2.1 4 u.2.1), (qv, eL t.2.1 4 u.2.2.1), (qc, eL t.2.1 4 u.2.2.2.1), (qx, eL t.2.1 54 u.2.2.2.2)])) (va_A [(o, .inr (5, [.int (iI cd), .int (iI z), .int (iI lv), .ref qT, .ref qC, .ref qF, .ref qY, .ref qZ, .ref qu, .ref qv, .ref qw, .ref qg, .ref qh, .ref qx, .ref qc, .ref qa, .ref qb, .ref qd, .int (iI fm), .ref qp, .ref qq])), (qT, eI t.1 1200 T), (qC, eI t.1 14400 F), (qu, eL t.2.1 4 (v4 x0 x1 x2 x3)), (qv, eL t.2.1 4 (v4 y0 y1 y2 y3)), (qc, eL t.2.1 4 (v4 c0 c1 c2 c3)), (qx, eL t.2.1 54 Wd)] sz)) 0 0 (va_A [(o, .inr (5, [.int (iI cd), .int (iI z), .int (iI lv), .ref qT, .ref qC, .ref qF, .ref qY, .ref qZ, .ref qu, .ref qv, .ref qw, .ref qg, .ref qh, .ref qx, .ref qc, .ref qa, .ref qb, .ref qd, .int (iI fm), .ref qp, .ref qq])), (qT, eI t.1 1200 T), (qC, eI t.1 14400 F), (qu, eL t.2.1 4 (v4 x0 x1 x2 x3)), (qv, eL t.2.1 4 (v4 y0 y1 y2 y3)), (qc, eL t.2.1 4 (v4 c0 c1 c2 c3)), (qx, eL t.2.1 54 Wd)] sz) := by
  refine m_i (by decide +kernel) (Nat.le_of_ble_eq_true rfl) ?_
  intro zp ze zs zm zb zt zc zQ A ls hC hA hP hK hD hE hS hl ret
  have hl : lv_has ls 11 [(0, .ref o), (1, .int (iI n)), (2, .int (iI c)), (3, .int (iI w))] := hl
  have retv : ∀ (u : Int × (Int → Int) × (Int → Int) × (Int → Int) × (Int → Int)) (H : Heap) (locs : List Loc) (pc : Nat) (ls : Array Slot) (zv : Int), decode b_Mo_star pc = .ok (.ireturn, 1) → (zv = u.1 ∧ (u.1 = mstZ T F z n c w)) → va_P D classes ([(o, .inr (5, [.int (iI 0), .int (iI z), .int (iI lv), .ref qT, .ref qC, .ref qF, .ref qY, .ref qZ, .ref qu, .ref qv, .ref qw, .ref qg, .ref qh, .ref qx, .ref qc, .ref qa, .ref qb, .ref qd, .int (iI fm), .ref qp, .ref qq])), (qT, eI t.1 1200 T), (qC, eI t.1 14400 F), (qu, eL t.2.1 4 u.2.1), (qv, eL t.2.1 4 u.2.2.1), (qc, eL t.2.1 4 u.2.2.2.1), (qx, eL t.2.1 54 u.2.2.2.2)]) H → va_D A ([(o, .inr (5, [.int (iI 0), .int (iI z), .int (iI lv), .ref qT, .ref qC, .ref qF, .ref qY, .ref qZ, .ref qu, .ref qv, .ref qw, .ref qg, .ref qh, .ref qx, .ref qc, .ref qa, .ref qb, .ref qd, .int (iI fm), .ref qp, .ref qq])), (qT, eI t.1 1200 T), (qC, eI t.1 14400 F), (qu, eL t.2.1 4 u.2.1), (qv, eL t.2.1 4 u.2.2.1), (qc, eL t.2.1 4 u.2.2.2.1), (qx, eL t.2.1 54 u.2.2.2.2)]) → va_S A zs.heap H locs → W zp l ze rm_Mo_star zs zm [.ref o, .int (iI n), .int (iI c), .int (iI w)].toArray zb zt zc H locs 0 0 zQ (F0 zm pc ls [.int (iI zv)]) := fun u H locs pc ls v d h hP hD hS => by rw [h.1]; exact ret u H locs pc ls d h.2 hP hD hS
  refine lv_aload_n hC.1 hC.2.1 d_Mo_star_0 rfl (lv_at hl 0 rfl) ?_
  refine z_iconst hC d_Mo_star_1 ?_
  refine z_put (ci := 5) (C := R_Mo) (T := F_Mo) (N := 21) (v := .int (iI 0)) (ws' := [(o, .inr (5, [.int (iI 0), .int (iI z), .int (iI lv), .ref qT, .ref qC, .ref qF, .ref qY, .ref qZ, .ref qu, .ref qv, .ref qw, .ref qg, .ref qh, .ref qx, .ref qc, .ref qa, .ref qb, .ref qd, .int (iI fm), .ref qp, .ref qq])), (qT, eI t.1 1200 T), (qC, eI t.1 14400 F), (qu, eL t.2.1 4 (v4 x0 x1 x2 x3)), (qv, eL t.2.1 4 (v4 y0 y1 y2 y3)), (qc, eL t.2.1 4 (v4 c0 c1 c2 c3)), (qx, eL t.2.1 54 Wd)]) hC in_Mo t_Mo t_Mo_ok n_Mo hK hP hD hS 0 rfl rfl 0 (by decide) k_453 rfl rfl rfl (Nat.le_of_ble_eq_true rfl) rfl d_Mo_star_2 (fun H locs hP hD hS => ?_)
  refine lv_aload_n hC.1 hC.2.1 d_Mo_star_5 rfl (lv_at hl 0 rfl) ?_
  refine lv_iload_n hC.1 hC.2.1 d_Mo_star_6 rfl (lv_at hl 1 rfl) ?_
  refine lv_iload_n hC.1 hC.2.1 d_Mo_star_7 rfl (lv_at hl 2 rfl) ?_
  refine z_roVi (As := [.int (iI n), .int (iI c)]) (rest := []) hC (c_Mo_isCorner l D t ts o qT qC qF qY qZ qu qv qw qg qh qx qc qa qb qd qp qq 0 z lv fm n c (by omega) (by omega) (by omega)) (cw_V hC k_718 k_720 kp_60 k_6 k_721 ye_Mo_isCorner (by decide)) hP hK hE hS [0] rfl 0 (ci := 5) rfl rfl rfl rfl hl.1 rfl (Nat.le_of_ble_eq_true rfl) ⟨Nat.le_of_ble_eq_true rfl, Nat.le_of_ble_eq_true rfl⟩ d_Mo_star_8 ?_
  refine z_if_eqB (tgt := 23) hC d_Mo_star_11 (by decide) (fun h11 => ?_) (fun h11 => ?_)
  · refine z_iconst hC d_Mo_star_23 ?_
    have hP9 := hP.sub (ws' := [(o, .inr (5, [.int (iI 0), .int (iI z), .int (iI lv), .ref qT, .ref qC, .ref qF, .ref qY, .ref qZ, .ref qu, .ref qv, .ref qw, .ref qg, .ref qh, .ref qx, .ref qc, .ref qa, .ref qb, .ref qd, .int (iI fm), .ref qp, .ref qq])), (qT, eI t.1 1200 T), (qC, eI t.1 14400 F), (qu, eL t.2.1 4 (v4 x0 x1 x2 x3)), (qv, eL t.2.1 4 (v4 y0 y1 y2 y3)), (qc, eL t.2.1 4 (v4 c0 c1 c2 c3)), (qx, eL t.2.1 54 Wd)]) [0, 1, 2, 3, 4, 5, 6] rfl
    have hD9 := hD.sub (ws' := [(o, .inr (5, [.int (iI 0), .int (iI z), .int (iI lv), .ref qT, .ref qC, .ref qF, .ref qY, .ref qZ, .ref qu, .ref qv, .ref qw, .ref qg, .ref qh, .ref qx, .ref qc, .ref qa, .ref qb, .ref qd, .int (iI fm), .ref qp, .ref qq])), (qT, eI t.1 1200 T), (qC, eI t.1 14400 F), (qu, eL t.2.1 4 (v4 x0 x1 x2 x3)), (qv, eL t.2.1 4 (v4 y0 y1 y2 y3)), (qc, eL t.2.1 4 (v4 c0 c1 c2 c3)), (qx, eL t.2.1 54 Wd)]) [0, 1, 2, 3, 4, 5, 6] (by decide) rfl
    exact retv (-1, (v4 x0 x1 x2 x3), (v4 y0 y1 y2 y3), (v4 c0 c1 c2 c3), Wd) _ _ 24 _ _ d_Mo_star_24 ⟨rfl, (by show -1 = _; unfold mstZ; simp [h11])⟩ hP9 hD9 hS
  · have g := h11
    unfold hasZ at g
    simp at g
    refine lv_iload_n hC.1 hC.2.1 d_Mo_star_14 rfl (lv_at hl 3 rfl) ?_
    refine z_if_lt (tgt := 23) hC d_Mo_star_15 (by decide) (by omega) (fun h15 => ?_) (fun h15 => ?_)
    · refine z_iconst hC d_Mo_star_23 ?_
      have hP9 := hP.sub (ws' := [(o, .inr (5, [.int (iI 0), .int (iI z), .int (iI lv), .ref qT, .ref qC, .ref qF, .ref qY, .ref qZ, .ref qu, .ref qv, .ref qw, .ref qg, .ref qh, .ref qx, .ref qc, .ref qa, .ref qb, .ref qd, .int (iI fm), .ref qp, .ref qq])), (qT, eI t.1 1200 T), (qC, eI t.1 14400 F), (qu, eL t.2.1 4 (v4 x0 x1 x2 x3)), (qv, eL t.2.1 4 (v4 y0 y1 y2 y3)), (qc, eL t.2.1 4 (v4 c0 c1 c2 c3)), (qx, eL t.2.1 54 Wd)]) [0, 1, 2, 3, 4, 5, 6] rfl
      have hD9 := hD.sub (ws' := [(o, .inr (5, [.int (iI 0), .int (iI z), .int (iI lv), .ref qT, .ref qC, .ref qF, .ref qY, .ref qZ, .ref qu, .ref qv, .ref qw, .ref qg, .ref qh, .ref qx, .ref qc, .ref qa, .ref qb, .ref qd, .int (iI fm), .ref qp, .ref qq])), (qT, eI t.1 1200 T), (qC, eI t.1 14400 F), (qu, eL t.2.1 4 (v4 x0 x1 x2 x3)), (qv, eL t.2.1 4 (v4 y0 y1 y2 y3)), (qc, eL t.2.1 4 (v4 c0 c1 c2 c3)), (qx, eL t.2.1 54 Wd)]) [0, 1, 2, 3, 4, 5, 6] (by decide) rfl
      exact retv (-1, (v4 x0 x1 x2 x3), (v4 y0 y1 y2 y3), (v4 c0 c1 c2 c3), Wd) _ _ 24 _ _ d_Mo_star_24 ⟨rfl, (by show -1 = _; unfold mstZ; simp [h11]; try (intros; omega))⟩ hP9 hD9 hS
    · refine lv_iload_n hC.1 hC.2.1 d_Mo_star_18 rfl (lv_at hl 3 rfl) ?_
      refine z_iconst hC d_Mo_star_19 ?_
      refine z_icmp_le (tgt := 25) hC d_Mo_star_20 (by decide) (by omega) (by decide) (fun h20 => ?_) (fun h20 => ?_)
      · refine lv_aload_n hC.1 hC.2.1 d_Mo_star_25 rfl (lv_at hl 0 rfl) ?_
        refine lv_iload_n hC.1 hC.2.1 d_Mo_star_26 rfl (lv_at hl 1 rfl) ?_
        refine lv_iload_n hC.1 hC.2.1 d_Mo_star_27 rfl (lv_at hl 2 rfl) ?_
        refine z_roVi (As := [.int (iI n), .int (iI c)]) (rest := []) hC (c_Mo_at l D t ts o n c (4 * c + 12 * n) (by omega)) (cw_V hC k_537 k_539 kp_26 k_6 k_540 ye_Mo_at (by decide)) hP hK hE hS [] rfl 0 (ci := 5) rfl rfl rfl rfl hl.1 rfl (Nat.le_of_ble_eq_true rfl) ⟨Nat.le_of_ble_eq_true rfl, Nat.le_of_ble_eq_true rfl⟩ d_Mo_star_28 ?_
        refine lv_istore (lv' := [(4, .int (iI (4 * c + 12 * n))), (0, .ref o), (1, .int (iI n)), (2, .int (iI c)), (3, .int (iI w))]) hC.1 hC.2.1 d_Mo_star_31 hl (by decide) rfl (fun ls hl => ?_)
        refine z_iconst hC d_Mo_star_33 ?_
        refine lv_istore (lv' := [(5, .int (iI 0)), (4, .int (iI (4 * c + 12 * n))), (0, .ref o), (1, .int (iI n)), (2, .int (iI c)), (3, .int (iI w))]) hC.1 hC.2.1 d_Mo_star_34 hl (by decide) rfl (fun ls hl => ?_)
        refine z_iconst hC d_Mo_star_36 ?_
        refine lv_istore (lv' := [(6, .int (iI 0)), (5, .int (iI 0)), (4, .int (iI (4 * c + 12 * n))), (0, .ref o), (1, .int (iI n)), (2, .int (iI c)), (3, .int (iI w))]) hC.1 hC.2.1 d_Mo_star_37 hl (by decide) rfl (fun ls hl => ?_)
        refine z_iconst hC d_Mo_star_39 ?_
        refine lv_istore (lv' := [(7, .int (iI 1)), (6, .int (iI 0)), (5, .int (iI 0)), (4, .int (iI (4 * c + 12 * n))), (0, .ref o), (1, .int (iI n)), (2, .int (iI c)), (3, .int (iI w))]) hC.1 hC.2.1 d_Mo_star_40 hl (by decide) rfl (fun ls hl => ?_)
        refine z_iconst hC d_Mo_star_42 ?_
        refine lv_istore (lv' := [(8, .int (iI 0)), (7, .int (iI 1)), (6, .int (iI 0)), (5, .int (iI 0)), (4, .int (iI (4 * c + 12 * n))), (0, .ref o), (1, .int (iI n)), (2, .int (iI c)), (3, .int (iI w))]) hC.1 hC.2.1 d_Mo_star_43 hl (by decide) rfl (fun ls hl => ?_)
        have L45 : ∀ (fu : Nat) (au0 : Int) (au1 : Int) (au2 : Int) (au3 : Int) (av0 : Int) (av1 : Int) (av2 : Int) (av3 : Int) (ac0 : Int) (ac1 : Int) (ac2 : Int) (ac3 : Int) (aW : Int → Int) (hv : Int) (sm : Int) (gd : Bool) (k : Int) (H : Heap) (locs : List Loc) (ls : Array Slot), z - k + 1 ≤ (fu : Int) → (0 ≤ k ∧ k ≤ z) → (hv = cntZ k.toNat (fun k => decide (¬ anZ T F k (4 * c + 12 * n) = 0))) → (sm = sumZ k.toNat (fun k => anZ T F k (4 * c + 12 * n))) → (gd = !(decide (w = 2) && anyZ k.toNat (fun k => mgk T F (4 * c + 12 * n) k))) → va_P D classes [(o, .inr (5, [.int (iI 0), .int (iI z), .int (iI lv), .ref qT, .ref qC, .ref qF, .ref qY, .ref qZ, .ref qu, .ref qv, .ref qw, .ref qg, .ref qh, .ref qx, .ref qc, .ref qa, .ref qb, .ref qd, .int (iI fm), .ref qp, .ref qq])), (qT, eI t.1 1200 T), (qC, eI t.1 14400 F), (qu, eL t.2.1 4 (v4 au0 au1 au2 au3)), (qv, eL t.2.1 4 (v4 av0 av1 av2 av3)), (qc, eL t.2.1 4 (v4 ac0 ac1 ac2 ac3)), (qx, eL t.2.1 54 aW)] H → va_D A [(o, .inr (5, [.int (iI 0), .int (iI z), .int (iI lv), .ref qT, .ref qC, .ref qF, .ref qY, .ref qZ, .ref qu, .ref qv, .ref qw, .ref qg, .ref qh, .ref qx, .ref qc, .ref qa, .ref qb, .ref qd, .int (iI fm), .ref qp, .ref qq])), (qT, eI t.1 1200 T), (qC, eI t.1 14400 F), (qu, eL t.2.1 4 (v4 au0 au1 au2 au3)), (qv, eL t.2.1 4 (v4 av0 av1 av2 av3)), (qc, eL t.2.1 4 (v4 ac0 ac1 ac2 ac3)), (qx, eL t.2.1 54 aW)] → va_S A zs.heap H locs → lv_has ls 11 [(8, .int (iI k)), (7, .int (iI (zB gd))), (6, .int (iI sm)), (5, .int (iI hv)), (4, .int (iI (4 * c + 12 * n))), (0, .ref o), (1, .int (iI n)), (2, .int (iI c)), (3, .int (iI w))] → W zp l ze rm_Mo_star zs zm [.ref o, .int (iI n), .int (iI c), .int (iI w)].toArray zb zt zc H locs 0 0 zQ (F0 zm 45 ls []) := by
          intro fu
          induction fu with
          | zero =>
            intro au0 au1 au2 au3 av0 av1 av2 av3 ac0 ac1 ac2 ac3 aW hv sm gd k H locs ls hm45 hk ehv esm egd hP hD hS hl
            exact absurd hm45 (by omega)
          | succ fu ih45 =>
            intro au0 au1 au2 au3 av0 av1 av2 av3 ac0 ac1 ac2 ac3 aW hv sm gd k H locs ls hm45 hk ehv esm egd hP hD hS hl
            refine lv_iload hC.1 hC.2.1 d_Mo_star_45 (lv_at hl 0 rfl) ?_
            refine lv_aload_n hC.1 hC.2.1 d_Mo_star_47 rfl (lv_at hl 5 rfl) ?_
            refine z_get (ci := 5) (C := R_Mo) (T := F_Mo) (N := 21) (v := .int (iI z)) hC in_Mo hK hP 0 rfl rfl 1 (by decide) k_454 rfl d_Mo_star_48 ?_
            refine z_icmp_ge (tgt := 143) hC d_Mo_star_51 (by decide) (by omega) (by omega) (fun h51 => ?_) (fun h51 => ?_)
            · have bsm : 0 ≤ sm ∧ sm ≤ 1200 := by have q := sumZ_in (n := k.toNat) (g := fun k => anZ T F k (4 * c + 12 * n)) (M := 3) (fun k _ _ => anZ_in hT _ _); rw [esm]; omega
              refine lv_iload_n hC.1 hC.2.1 d_Mo_star_143 rfl (lv_at hl 8 rfl) ?_
              refine z_if_ne (tgt := 152) hC d_Mo_star_144 (by decide) (by omega) (fun h144 => ?_) (fun h144 => ?_)
              · refine lv_iload_n hC.1 hC.2.1 d_Mo_star_152 rfl (lv_at hl 8 rfl) ?_
                refine z_iconst hC d_Mo_star_153 ?_
                refine z_icmp_ne (tgt := 162) hC d_Mo_star_154 (by decide) (by omega) (by decide) (fun h154 => ?_) (fun h154 => ?_)
                · refine lv_iload hC.1 hC.2.1 d_Mo_star_162 (lv_at hl 2 rfl) ?_
                  refine z_bipush hC d_Mo_star_164 (by decide) ?_
                  refine z_icmp_ne (tgt := 178) hC d_Mo_star_166 (by decide) (by omega) (by decide) (fun h166 => ?_) (fun h166 => ?_)
                  · refine z_iconst hC d_Mo_star_178 ?_
                    have hP9 := hP.sub (ws' := [(o, .inr (5, [.int (iI 0), .int (iI z), .int (iI lv), .ref qT, .ref qC, .ref qF, .ref qY, .ref qZ, .ref qu, .ref qv, .ref qw, .ref qg, .ref qh, .ref qx, .ref qc, .ref qa, .ref qb, .ref qd, .int (iI fm), .ref qp, .ref qq])), (qT, eI t.1 1200 T), (qC, eI t.1 14400 F), (qu, eL t.2.1 4 (v4 au0 au1 au2 au3)), (qv, eL t.2.1 4 (v4 av0 av1 av2 av3)), (qc, eL t.2.1 4 (v4 ac0 ac1 ac2 ac3)), (qx, eL t.2.1 54 aW)]) [0, 1, 2, 3, 4, 5, 6] rfl
                    have hD9 := hD.sub (ws' := [(o, .inr (5, [.int (iI 0), .int (iI z), .int (iI lv), .ref qT, .ref qC, .ref qF, .ref qY, .ref qZ, .ref qu, .ref qv, .ref qw, .ref qg, .ref qh, .ref qx, .ref qc, .ref qa, .ref qb, .ref qd, .int (iI fm), .ref qp, .ref qq])), (qT, eI t.1 1200 T), (qC, eI t.1 14400 F), (qu, eL t.2.1 4 (v4 au0 au1 au2 au3)), (qv, eL t.2.1 4 (v4 av0 av1 av2 av3)), (qc, eL t.2.1 4 (v4 ac0 ac1 ac2 ac3)), (qx, eL t.2.1 54 aW)]) [0, 1, 2, 3, 4, 5, 6] (by decide) rfl
                    exact retv (0, (v4 au0 au1 au2 au3), (v4 av0 av1 av2 av3), (v4 ac0 ac1 ac2 ac3), aW) _ _ 179 _ _ d_Mo_star_179 ⟨rfl, (by show 0 = _; unfold mstZ; rw [h11, if_pos (by simp; try omega)]; rw [if_neg (by omega), if_neg (by omega)]; have w2 : w = 2 := (by omega); rw [show k = z by omega] at esm egd; rw [w2] at egd; simp at egd; rw [if_neg (fun q => by omega)])⟩ hP9 hD9 hS
                  · refine lv_iload hC.1 hC.2.1 d_Mo_star_169 (lv_at hl 1 rfl) ?_
                    refine z_if_eqB (tgt := 178) hC d_Mo_star_171 (by decide) (fun h171 => ?_) (fun h171 => ?_)
                    · refine z_iconst hC d_Mo_star_178 ?_
                      have hP9 := hP.sub (ws' := [(o, .inr (5, [.int (iI 0), .int (iI z), .int (iI lv), .ref qT, .ref qC, .ref qF, .ref qY, .ref qZ, .ref qu, .ref qv, .ref qw, .ref qg, .ref qh, .ref qx, .ref qc, .ref qa, .ref qb, .ref qd, .int (iI fm), .ref qp, .ref qq])), (qT, eI t.1 1200 T), (qC, eI t.1 14400 F), (qu, eL t.2.1 4 (v4 au0 au1 au2 au3)), (qv, eL t.2.1 4 (v4 av0 av1 av2 av3)), (qc, eL t.2.1 4 (v4 ac0 ac1 ac2 ac3)), (qx, eL t.2.1 54 aW)]) [0, 1, 2, 3, 4, 5, 6] rfl
                      have hD9 := hD.sub (ws' := [(o, .inr (5, [.int (iI 0), .int (iI z), .int (iI lv), .ref qT, .ref qC, .ref qF, .ref qY, .ref qZ, .ref qu, .ref qv, .ref qw, .ref qg, .ref qh, .ref qx, .ref qc, .ref qa, .ref qb, .ref qd, .int (iI fm), .ref qp, .ref qq])), (qT, eI t.1 1200 T), (qC, eI t.1 14400 F), (qu, eL t.2.1 4 (v4 au0 au1 au2 au3)), (qv, eL t.2.1 4 (v4 av0 av1 av2 av3)), (qc, eL t.2.1 4 (v4 ac0 ac1 ac2 ac3)), (qx, eL t.2.1 54 aW)]) [0, 1, 2, 3, 4, 5, 6] (by decide) rfl
                      exact retv (0, (v4 au0 au1 au2 au3), (v4 av0 av1 av2 av3), (v4 ac0 ac1 ac2 ac3), aW) _ _ 179 _ _ d_Mo_star_179 ⟨rfl, (by show 0 = _; unfold mstZ; rw [h11, if_pos (by simp; try omega)]; rw [if_neg (by omega), if_neg (by omega)]; have w2 : w = 2 := (by omega); rw [show k = z by omega] at esm egd; rw [w2] at egd; simp at egd; rw [if_neg (fun q => by rw [h171, q.2] at egd; cases egd)])⟩ hP9 hD9 hS
                    · refine z_iconst hC d_Mo_star_174 ?_
                      refine z_goto (tgt := 179) hC d_Mo_star_175 (by decide) ?_
                      have hP9 := hP.sub (ws' := [(o, .inr (5, [.int (iI 0), .int (iI z), .int (iI lv), .ref qT, .ref qC, .ref qF, .ref qY, .ref qZ, .ref qu, .ref qv, .ref qw, .ref qg, .ref qh, .ref qx, .ref qc, .ref qa, .ref qb, .ref qd, .int (iI fm), .ref qp, .ref qq])), (qT, eI t.1 1200 T), (qC, eI t.1 14400 F), (qu, eL t.2.1 4 (v4 au0 au1 au2 au3)), (qv, eL t.2.1 4 (v4 av0 av1 av2 av3)), (qc, eL t.2.1 4 (v4 ac0 ac1 ac2 ac3)), (qx, eL t.2.1 54 aW)]) [0, 1, 2, 3, 4, 5, 6] rfl
                      have hD9 := hD.sub (ws' := [(o, .inr (5, [.int (iI 0), .int (iI z), .int (iI lv), .ref qT, .ref qC, .ref qF, .ref qY, .ref qZ, .ref qu, .ref qv, .ref qw, .ref qg, .ref qh, .ref qx, .ref qc, .ref qa, .ref qb, .ref qd, .int (iI fm), .ref qp, .ref qq])), (qT, eI t.1 1200 T), (qC, eI t.1 14400 F), (qu, eL t.2.1 4 (v4 au0 au1 au2 au3)), (qv, eL t.2.1 4 (v4 av0 av1 av2 av3)), (qc, eL t.2.1 4 (v4 ac0 ac1 ac2 ac3)), (qx, eL t.2.1 54 aW)]) [0, 1, 2, 3, 4, 5, 6] (by decide) rfl
                      exact retv (1, (v4 au0 au1 au2 au3), (v4 av0 av1 av2 av3), (v4 ac0 ac1 ac2 ac3), aW) _ _ 179 _ _ d_Mo_star_179 ⟨rfl, (by show 1 = _; unfold mstZ; rw [h11, if_pos (by simp; try omega)]; rw [if_neg (by omega), if_neg (by omega)]; have w2 : w = 2 := (by omega); rw [show k = z by omega] at esm egd; rw [w2] at egd; simp at egd; rw [if_pos ⟨by omega, by rw [h171] at egd; revert egd; cases anyZ z.toNat (fun k => mgk T F (4 * c + 12 * n) k) <;> simp⟩])⟩ hP9 hD9 hS
                · refine lv_iload hC.1 hC.2.1 d_Mo_star_157 (lv_at hl 2 rfl) ?_
                  refine z_goto (tgt := 179) hC d_Mo_star_159 (by decide) ?_
                  have hP9 := hP.sub (ws' := [(o, .inr (5, [.int (iI 0), .int (iI z), .int (iI lv), .ref qT, .ref qC, .ref qF, .ref qY, .ref qZ, .ref qu, .ref qv, .ref qw, .ref qg, .ref qh, .ref qx, .ref qc, .ref qa, .ref qb, .ref qd, .int (iI fm), .ref qp, .ref qq])), (qT, eI t.1 1200 T), (qC, eI t.1 14400 F), (qu, eL t.2.1 4 (v4 au0 au1 au2 au3)), (qv, eL t.2.1 4 (v4 av0 av1 av2 av3)), (qc, eL t.2.1 4 (v4 ac0 ac1 ac2 ac3)), (qx, eL t.2.1 54 aW)]) [0, 1, 2, 3, 4, 5, 6] rfl
                  have hD9 := hD.sub (ws' := [(o, .inr (5, [.int (iI 0), .int (iI z), .int (iI lv), .ref qT, .ref qC, .ref qF, .ref qY, .ref qZ, .ref qu, .ref qv, .ref qw, .ref qg, .ref qh, .ref qx, .ref qc, .ref qa, .ref qb, .ref qd, .int (iI fm), .ref qp, .ref qq])), (qT, eI t.1 1200 T), (qC, eI t.1 14400 F), (qu, eL t.2.1 4 (v4 au0 au1 au2 au3)), (qv, eL t.2.1 4 (v4 av0 av1 av2 av3)), (qc, eL t.2.1 4 (v4 ac0 ac1 ac2 ac3)), (qx, eL t.2.1 54 aW)]) [0, 1, 2, 3, 4, 5, 6] (by decide) rfl
                  exact retv (sm, (v4 au0 au1 au2 au3), (v4 av0 av1 av2 av3), (v4 ac0 ac1 ac2 ac3), aW) _ _ 179 _ _ d_Mo_star_179 ⟨rfl, (by show sm = _; unfold mstZ; rw [h11, if_pos (by simp; try omega)]; rw [if_neg (by omega), if_pos (by omega), esm, show k = z by omega])⟩ hP9 hD9 hS
              · refine lv_iload hC.1 hC.2.1 d_Mo_star_147 (lv_at hl 3 rfl) ?_
                refine z_goto (tgt := 179) hC d_Mo_star_149 (by decide) ?_
                have hP9 := hP.sub (ws' := [(o, .inr (5, [.int (iI 0), .int (iI z), .int (iI lv), .ref qT, .ref qC, .ref qF, .ref qY, .ref qZ, .ref qu, .ref qv, .ref qw, .ref qg, .ref qh, .ref qx, .ref qc, .ref qa, .ref qb, .ref qd, .int (iI fm), .ref qp, .ref qq])), (qT, eI t.1 1200 T), (qC, eI t.1 14400 F), (qu, eL t.2.1 4 (v4 au0 au1 au2 au3)), (qv, eL t.2.1 4 (v4 av0 av1 av2 av3)), (qc, eL t.2.1 4 (v4 ac0 ac1 ac2 ac3)), (qx, eL t.2.1 54 aW)]) [0, 1, 2, 3, 4, 5, 6] rfl
                have hD9 := hD.sub (ws' := [(o, .inr (5, [.int (iI 0), .int (iI z), .int (iI lv), .ref qT, .ref qC, .ref qF, .ref qY, .ref qZ, .ref qu, .ref qv, .ref qw, .ref qg, .ref qh, .ref qx, .ref qc, .ref qa, .ref qb, .ref qd, .int (iI fm), .ref qp, .ref qq])), (qT, eI t.1 1200 T), (qC, eI t.1 14400 F), (qu, eL t.2.1 4 (v4 au0 au1 au2 au3)), (qv, eL t.2.1 4 (v4 av0 av1 av2 av3)), (qc, eL t.2.1 4 (v4 ac0 ac1 ac2 ac3)), (qx, eL t.2.1 54 aW)]) [0, 1, 2, 3, 4, 5, 6] (by decide) rfl
                exact retv (hv, (v4 au0 au1 au2 au3), (v4 av0 av1 av2 av3), (v4 ac0 ac1 ac2 ac3), aW) _ _ 179 _ _ d_Mo_star_179 ⟨rfl, (by show hv = _; unfold mstZ; rw [h11, if_pos (by simp; try omega)]; rw [if_pos (by omega), ehv, show k = z by omega])⟩ hP9 hD9 hS
            · refine lv_aload_n hC.1 hC.2.1 d_Mo_star_54 rfl (lv_at hl 5 rfl) ?_
              refine lv_iload hC.1 hC.2.1 d_Mo_star_55 (lv_at hl 0 rfl) ?_
              refine lv_iload hC.1 hC.2.1 d_Mo_star_57 (lv_at hl 4 rfl) ?_
              refine z_roVi (As := [.int (iI k), .int (iI (4 * c + 12 * n))]) (rest := []) hC (c_Mo_angle l D t ts o qT qC qF qY qZ qu qv qw qg qh qx qc qa qb qd qp qq 0 z lv fm T F k (4 * c + 12 * n) (by omega) (by omega) hT hF) (cw_V hC k_727 k_729 kp_61 k_6 k_730 ye_Mo_angle (by decide)) hP hK hE hS [0, 1, 2] rfl 0 (ci := 5) rfl rfl rfl rfl hl.1 rfl (Nat.le_of_ble_eq_true rfl) ⟨Nat.le_of_ble_eq_true rfl, Nat.le_of_ble_eq_true rfl⟩ d_Mo_star_59 ?_
              refine lv_istore (lv' := [(9, .int (iI (anZ T F k (4 * c + 12 * n)))), (8, .int (iI k)), (7, .int (iI (zB gd))), (6, .int (iI sm)), (5, .int (iI hv)), (4, .int (iI (4 * c + 12 * n))), (0, .ref o), (1, .int (iI n)), (2, .int (iI c)), (3, .int (iI w))]) hC.1 hC.2.1 d_Mo_star_62 hl (by decide) rfl (fun ls hl => ?_)
              refine lv_iload hC.1 hC.2.1 d_Mo_star_64 (lv_at hl 0 rfl) ?_
              refine z_if_ne (tgt := 72) hC d_Mo_star_66 (by decide) (by have := anZ_in (F := F) hT k (4 * c + 12 * n); omega) (fun h66 => ?_) (fun h66 => ?_)
              · refine lv_iinc (v := iI (hv + 1)) (lv' := [(5, .int (iI (hv + 1))), (9, .int (iI (anZ T F k (4 * c + 12 * n)))), (8, .int (iI k)), (7, .int (iI (zB gd))), (6, .int (iI sm)), (4, .int (iI (4 * c + 12 * n))), (0, .ref o), (1, .int (iI n)), (2, .int (iI c)), (3, .int (iI w))]) hC.1 hC.2.1 d_Mo_star_72 hl (k := 4) rfl (z_inc (by omega)) (by decide) rfl (fun ls hl => ?_)
                refine lv_iload hC.1 hC.2.1 d_Mo_star_75 (lv_at hl 4 rfl) ?_
                refine lv_iload hC.1 hC.2.1 d_Mo_star_77 (lv_at hl 1 rfl) ?_
                refine z_iadd hC d_Mo_star_79 ?_
                refine z_topi (z := anZ T F k (4 * c + 12 * n) + sm) (by omega) ?_
                refine lv_istore (lv' := [(6, .int (iI (anZ T F k (4 * c + 12 * n) + sm))), (5, .int (iI (hv + 1))), (9, .int (iI (anZ T F k (4 * c + 12 * n)))), (8, .int (iI k)), (7, .int (iI (zB gd))), (4, .int (iI (4 * c + 12 * n))), (0, .ref o), (1, .int (iI n)), (2, .int (iI c)), (3, .int (iI w))]) hC.1 hC.2.1 d_Mo_star_80 hl (by decide) rfl (fun ls hl => ?_)
                refine z_iconst hC d_Mo_star_82 ?_
                refine lv_istore (lv' := [(10, .int (iI 0)), (6, .int (iI (anZ T F k (4 * c + 12 * n) + sm))), (5, .int (iI (hv + 1))), (9, .int (iI (anZ T F k (4 * c + 12 * n)))), (8, .int (iI k)), (7, .int (iI (zB gd))), (4, .int (iI (4 * c + 12 * n))), (0, .ref o), (1, .int (iI n)), (2, .int (iI c)), (3, .int (iI w))]) hC.1 hC.2.1 d_Mo_star_83 hl (by decide) rfl (fun ls hl => ?_)
                have L85 : ∀ (fu : Nat) (bu0 : Int) (bu1 : Int) (bu2 : Int) (bu3 : Int) (bv0 : Int) (bv1 : Int) (bv2 : Int) (bv3 : Int) (bc0 : Int) (bc1 : Int) (bc2 : Int) (bc3 : Int) (bW : Int → Int) (g2 : Bool) (o2 : Int) (H : Heap) (locs : List Loc) (ls : Array Slot), k - o2 + 1 ≤ (fu : Int) → (0 ≤ o2 ∧ o2 ≤ k) → (g2 = (gd && !(decide (w = 2) && anyZ o2.toNat (fun o => mgo T F (4 * c + 12 * n) k o)))) → va_P D classes [(o, .inr (5, [.int (iI 0), .int (iI z), .int (iI lv), .ref qT, .ref qC, .ref qF, .ref qY, .ref qZ, .ref qu, .ref qv, .ref qw, .ref qg, .ref qh, .ref qx, .ref qc, .ref qa, .ref qb, .ref qd, .int (iI fm), .ref qp, .ref qq])), (qT, eI t.1 1200 T), (qC, eI t.1 14400 F), (qu, eL t.2.1 4 (v4 bu0 bu1 bu2 bu3)), (qv, eL t.2.1 4 (v4 bv0 bv1 bv2 bv3)), (qc, eL t.2.1 4 (v4 bc0 bc1 bc2 bc3)), (qx, eL t.2.1 54 bW)] H → va_D A [(o, .inr (5, [.int (iI 0), .int (iI z), .int (iI lv), .ref qT, .ref qC, .ref qF, .ref qY, .ref qZ, .ref qu, .ref qv, .ref qw, .ref qg, .ref qh, .ref qx, .ref qc, .ref qa, .ref qb, .ref qd, .int (iI fm), .ref qp, .ref qq])), (qT, eI t.1 1200 T), (qC, eI t.1 14400 F), (qu, eL t.2.1 4 (v4 bu0 bu1 bu2 bu3)), (qv, eL t.2.1 4 (v4 bv0 bv1 bv2 bv3)), (qc, eL t.2.1 4 (v4 bc0 bc1 bc2 bc3)), (qx, eL t.2.1 54 bW)] → va_S A zs.heap H locs → lv_has ls 11 [(10, .int (iI o2)), (6, .int (iI (anZ T F k (4 * c + 12 * n) + sm))), (5, .int (iI (hv + 1))), (8, .int (iI k)), (7, .int (iI (zB g2))), (4, .int (iI (4 * c + 12 * n))), (0, .ref o), (1, .int (iI n)), (2, .int (iI c)), (3, .int (iI w))] → W zp l ze rm_Mo_star zs zm [.ref o, .int (iI n), .int (iI c), .int (iI w)].toArray zb zt zc H locs 0 0 zQ (F0 zm 85 ls []) := by
                  intro fu
                  induction fu with
                  | zero =>
                    intro bu0 bu1 bu2 bu3 bv0 bv1 bv2 bv3 bc0 bc1 bc2 bc3 bW g2 o2 H locs ls hm85 ho eg2 hP hD hS hl
                    exact absurd hm85 (by omega)
                  | succ fu ih85 =>
                    intro bu0 bu1 bu2 bu3 bv0 bv1 bv2 bv3 bc0 bc1 bc2 bc3 bW g2 o2 H locs ls hm85 ho eg2 hP hD hS hl
                    refine lv_iload hC.1 hC.2.1 d_Mo_star_85 (lv_at hl 0 rfl) ?_
                    refine lv_iload hC.1 hC.2.1 d_Mo_star_87 (lv_at hl 3 rfl) ?_
                    refine z_icmp_ge (tgt := 137) hC d_Mo_star_89 (by decide) (by omega) (by omega) (fun h89 => ?_) (fun h89 => ?_)
                    · have hg2 : g2 = (gd && !(decide (w = 2) && anyZ k.toNat (fun o => mgo T F (4 * c + 12 * n) k o))) := by
                        rw [eg2, show o2 = k by omega]
                      refine lv_iinc (v := iI (k + 1)) (lv' := [(8, .int (iI (k + 1))), (10, .int (iI o2)), (6, .int (iI (anZ T F k (4 * c + 12 * n) + sm))), (5, .int (iI (hv + 1))), (7, .int (iI (zB g2))), (4, .int (iI (4 * c + 12 * n))), (0, .ref o), (1, .int (iI n)), (2, .int (iI c)), (3, .int (iI w))]) hC.1 hC.2.1 d_Mo_star_137 hl (k := 3) rfl (z_inc (by omega)) (by decide) rfl (fun ls hl => ?_)
                      refine z_goto (tgt := 45) hC d_Mo_star_140 (by decide) ?_
                      exact ih45 bu0 bu1 bu2 bu3 bv0 bv1 bv2 bv3 bc0 bc1 bc2 bc3 bW (hv + 1) (anZ T F k (4 * c + 12 * n) + sm) g2 (k + 1) _ _ _ (by omega) (by omega) (by rw [cntZ_s (by omega), ehv]; simp [h66]) (by rw [sumZ_s (by omega), esm]; omega) (by rw [hg2, egd, anyZ_s (by omega), show mgk T F (4 * c + 12 * n) k = anyZ k.toNat (fun o => mgo T F (4 * c + 12 * n) k o) by unfold mgk; simp [h66]]; cases decide (w = 2) <;> simp) (hP.sub (ws' := [(o, .inr (5, [.int (iI 0), .int (iI z), .int (iI lv), .ref qT, .ref qC, .ref qF, .ref qY, .ref qZ, .ref qu, .ref qv, .ref qw, .ref qg, .ref qh, .ref qx, .ref qc, .ref qa, .ref qb, .ref qd, .int (iI fm), .ref qp, .ref qq])), (qT, eI t.1 1200 T), (qC, eI t.1 14400 F), (qu, eL t.2.1 4 (v4 bu0 bu1 bu2 bu3)), (qv, eL t.2.1 4 (v4 bv0 bv1 bv2 bv3)), (qc, eL t.2.1 4 (v4 bc0 bc1 bc2 bc3)), (qx, eL t.2.1 54 bW)]) [0, 1, 2, 3, 4, 5, 6] rfl) (hD.sub (ws' := [(o, .inr (5, [.int (iI 0), .int (iI z), .int (iI lv), .ref qT, .ref qC, .ref qF, .ref qY, .ref qZ, .ref qu, .ref qv, .ref qw, .ref qg, .ref qh, .ref qx, .ref qc, .ref qa, .ref qb, .ref qd, .int (iI fm), .ref qp, .ref qq])), (qT, eI t.1 1200 T), (qC, eI t.1 14400 F), (qu, eL t.2.1 4 (v4 bu0 bu1 bu2 bu3)), (qv, eL t.2.1 4 (v4 bv0 bv1 bv2 bv3)), (qc, eL t.2.1 4 (v4 bc0 bc1 bc2 bc3)), (qx, eL t.2.1 54 bW)]) [0, 1, 2, 3, 4, 5, 6] (by decide) rfl) hS (lv_sub hl [0, 4, 2, 3, 5, 6, 7, 8, 9] rfl)
                    · refine lv_iload hC.1 hC.2.1 d_Mo_star_92 (lv_at hl 4 rfl) ?_
                      refine z_if_eqB (tgt := 137) hC d_Mo_star_94 (by decide) (fun h94 => ?_) (fun h94 => ?_)
                      · have hg2 : g2 = (gd && !(decide (w = 2) && anyZ k.toNat (fun o => mgo T F (4 * c + 12 * n) k o))) := by
                          rw [h94] at eg2 ⊢; exact stop_lem (by omega) (by omega) eg2
                        refine lv_iinc (v := iI (k + 1)) (lv' := [(8, .int (iI (k + 1))), (10, .int (iI o2)), (6, .int (iI (anZ T F k (4 * c + 12 * n) + sm))), (5, .int (iI (hv + 1))), (7, .int (iI (zB g2))), (4, .int (iI (4 * c + 12 * n))), (0, .ref o), (1, .int (iI n)), (2, .int (iI c)), (3, .int (iI w))]) hC.1 hC.2.1 d_Mo_star_137 hl (k := 3) rfl (z_inc (by omega)) (by decide) rfl (fun ls hl => ?_)
                        refine z_goto (tgt := 45) hC d_Mo_star_140 (by decide) ?_
                        exact ih45 bu0 bu1 bu2 bu3 bv0 bv1 bv2 bv3 bc0 bc1 bc2 bc3 bW (hv + 1) (anZ T F k (4 * c + 12 * n) + sm) g2 (k + 1) _ _ _ (by omega) (by omega) (by rw [cntZ_s (by omega), ehv]; simp [h66]) (by rw [sumZ_s (by omega), esm]; omega) (by rw [hg2, egd, anyZ_s (by omega), show mgk T F (4 * c + 12 * n) k = anyZ k.toNat (fun o => mgo T F (4 * c + 12 * n) k o) by unfold mgk; simp [h66]]; cases decide (w = 2) <;> simp) (hP.sub (ws' := [(o, .inr (5, [.int (iI 0), .int (iI z), .int (iI lv), .ref qT, .ref qC, .ref qF, .ref qY, .ref qZ, .ref qu, .ref qv, .ref qw, .ref qg, .ref qh, .ref qx, .ref qc, .ref qa, .ref qb, .ref qd, .int (iI fm), .ref qp, .ref qq])), (qT, eI t.1 1200 T), (qC, eI t.1 14400 F), (qu, eL t.2.1 4 (v4 bu0 bu1 bu2 bu3)), (qv, eL t.2.1 4 (v4 bv0 bv1 bv2 bv3)), (qc, eL t.2.1 4 (v4 bc0 bc1 bc2 bc3)), (qx, eL t.2.1 54 bW)]) [0, 1, 2, 3, 4, 5, 6] rfl) (hD.sub (ws' := [(o, .inr (5, [.int (iI 0), .int (iI z), .int (iI lv), .ref qT, .ref qC, .ref qF, .ref qY, .ref qZ, .ref qu, .ref qv, .ref qw, .ref qg, .ref qh, .ref qx, .ref qc, .ref qa, .ref qb, .ref qd, .int (iI fm), .ref qp, .ref qq])), (qT, eI t.1 1200 T), (qC, eI t.1 14400 F), (qu, eL t.2.1 4 (v4 bu0 bu1 bu2 bu3)), (qv, eL t.2.1 4 (v4 bv0 bv1 bv2 bv3)), (qc, eL t.2.1 4 (v4 bc0 bc1 bc2 bc3)), (qx, eL t.2.1 54 bW)]) [0, 1, 2, 3, 4, 5, 6] (by decide) rfl) hS (lv_sub hl [0, 4, 2, 3, 5, 6, 7, 8, 9] rfl)
                      · refine lv_iload_n hC.1 hC.2.1 d_Mo_star_97 rfl (lv_at hl 9 rfl) ?_
                        refine z_iconst hC d_Mo_star_98 ?_
                        refine z_icmp_ne (tgt := 137) hC d_Mo_star_99 (by decide) (by omega) (by decide) (fun h99 => ?_) (fun h99 => ?_)
                        · have hg2 : g2 = (gd && !(decide (w = 2) && anyZ k.toNat (fun o => mgo T F (4 * c + 12 * n) k o))) := by
                            rw [eg2]; simp [h99]
                          refine lv_iinc (v := iI (k + 1)) (lv' := [(8, .int (iI (k + 1))), (10, .int (iI o2)), (6, .int (iI (anZ T F k (4 * c + 12 * n) + sm))), (5, .int (iI (hv + 1))), (7, .int (iI (zB g2))), (4, .int (iI (4 * c + 12 * n))), (0, .ref o), (1, .int (iI n)), (2, .int (iI c)), (3, .int (iI w))]) hC.1 hC.2.1 d_Mo_star_137 hl (k := 3) rfl (z_inc (by omega)) (by decide) rfl (fun ls hl => ?_)
                          refine z_goto (tgt := 45) hC d_Mo_star_140 (by decide) ?_
                          exact ih45 bu0 bu1 bu2 bu3 bv0 bv1 bv2 bv3 bc0 bc1 bc2 bc3 bW (hv + 1) (anZ T F k (4 * c + 12 * n) + sm) g2 (k + 1) _ _ _ (by omega) (by omega) (by rw [cntZ_s (by omega), ehv]; simp [h66]) (by rw [sumZ_s (by omega), esm]; omega) (by rw [hg2, egd, anyZ_s (by omega), show mgk T F (4 * c + 12 * n) k = anyZ k.toNat (fun o => mgo T F (4 * c + 12 * n) k o) by unfold mgk; simp [h66]]; cases decide (w = 2) <;> simp) (hP.sub (ws' := [(o, .inr (5, [.int (iI 0), .int (iI z), .int (iI lv), .ref qT, .ref qC, .ref qF, .ref qY, .ref qZ, .ref qu, .ref qv, .ref qw, .ref qg, .ref qh, .ref qx, .ref qc, .ref qa, .ref qb, .ref qd, .int (iI fm), .ref qp, .ref qq])), (qT, eI t.1 1200 T), (qC, eI t.1 14400 F), (qu, eL t.2.1 4 (v4 bu0 bu1 bu2 bu3)), (qv, eL t.2.1 4 (v4 bv0 bv1 bv2 bv3)), (qc, eL t.2.1 4 (v4 bc0 bc1 bc2 bc3)), (qx, eL t.2.1 54 bW)]) [0, 1, 2, 3, 4, 5, 6] rfl) (hD.sub (ws' := [(o, .inr (5, [.int (iI 0), .int (iI z), .int (iI lv), .ref qT, .ref qC, .ref qF, .ref qY, .ref qZ, .ref qu, .ref qv, .ref qw, .ref qg, .ref qh, .ref qx, .ref qc, .ref qa, .ref qb, .ref qd, .int (iI fm), .ref qp, .ref qq])), (qT, eI t.1 1200 T), (qC, eI t.1 14400 F), (qu, eL t.2.1 4 (v4 bu0 bu1 bu2 bu3)), (qv, eL t.2.1 4 (v4 bv0 bv1 bv2 bv3)), (qc, eL t.2.1 4 (v4 bc0 bc1 bc2 bc3)), (qx, eL t.2.1 54 bW)]) [0, 1, 2, 3, 4, 5, 6] (by decide) rfl) hS (lv_sub hl [0, 4, 2, 3, 5, 6, 7, 8, 9] rfl)
                        · refine lv_aload_n hC.1 hC.2.1 d_Mo_star_102 rfl (lv_at hl 6 rfl) ?_
                          refine lv_iload hC.1 hC.2.1 d_Mo_star_103 (lv_at hl 0 rfl) ?_
                          refine lv_iload hC.1 hC.2.1 d_Mo_star_105 (lv_at hl 5 rfl) ?_
                          refine z_roVi (As := [.int (iI o2), .int (iI (4 * c + 12 * n))]) (rest := []) hC (c_Mo_angle l D t ts o qT qC qF qY qZ qu qv qw qg qh qx qc qa qb qd qp qq 0 z lv fm T F o2 (4 * c + 12 * n) (by omega) (by omega) hT hF) (cw_V hC k_727 k_729 kp_61 k_6 k_730 ye_Mo_angle (by decide)) hP hK hE hS [0, 1, 2] rfl 0 (ci := 5) rfl rfl rfl rfl hl.1 rfl (Nat.le_of_ble_eq_true rfl) ⟨Nat.le_of_ble_eq_true rfl, Nat.le_of_ble_eq_true rfl⟩ d_Mo_star_107 ?_
                          refine z_if_eq (tgt := 124) hC d_Mo_star_110 (by decide) (by have := anZ_in (F := F) hT o2 (4 * c + 12 * n); omega) (fun h110 => ?_) (fun h110 => ?_)
                          · refine z_iconst hC d_Mo_star_124 ?_
                            refine z_goto (tgt := 129) hC d_Mo_star_125 (by decide) ?_
                            refine lv_istore (lv' := [(7, .int (iI 1)), (10, .int (iI o2)), (6, .int (iI (anZ T F k (4 * c + 12 * n) + sm))), (5, .int (iI (hv + 1))), (8, .int (iI k)), (4, .int (iI (4 * c + 12 * n))), (0, .ref o), (1, .int (iI n)), (2, .int (iI c)), (3, .int (iI w))]) hC.1 hC.2.1 d_Mo_star_129 hl (by decide) rfl (fun ls hl => ?_)
                            refine lv_iinc (v := iI (o2 + 1)) (lv' := [(10, .int (iI (o2 + 1))), (7, .int (iI 1)), (6, .int (iI (anZ T F k (4 * c + 12 * n) + sm))), (5, .int (iI (hv + 1))), (8, .int (iI k)), (4, .int (iI (4 * c + 12 * n))), (0, .ref o), (1, .int (iI n)), (2, .int (iI c)), (3, .int (iI w))]) hC.1 hC.2.1 d_Mo_star_131 hl (k := 1) rfl (z_inc (by omega)) (by decide) rfl (fun ls hl => ?_)
                            refine z_goto (tgt := 85) hC d_Mo_star_134 (by decide) ?_
                            exact ih85 bu0 bu1 bu2 bu3 bv0 bv1 bv2 bv3 bc0 bc1 bc2 bc3 bW true (o2 + 1) _ _ _ (by omega) (by omega) (by rw [anyZ_s (by omega)]; rw [h94] at eg2; have q : (gd && !(decide (w = 2) && anyZ o2.toNat (fun o => mgo T F (4 * c + 12 * n) k o))) = true := eg2.symm; unfold mgo at q ⊢; revert q; simp [h99, h110]; try (intros; simp [*]; done)) (hP.sub (ws' := [(o, .inr (5, [.int (iI 0), .int (iI z), .int (iI lv), .ref qT, .ref qC, .ref qF, .ref qY, .ref qZ, .ref qu, .ref qv, .ref qw, .ref qg, .ref qh, .ref qx, .ref qc, .ref qa, .ref qb, .ref qd, .int (iI fm), .ref qp, .ref qq])), (qT, eI t.1 1200 T), (qC, eI t.1 14400 F), (qu, eL t.2.1 4 (v4 bu0 bu1 bu2 bu3)), (qv, eL t.2.1 4 (v4 bv0 bv1 bv2 bv3)), (qc, eL t.2.1 4 (v4 bc0 bc1 bc2 bc3)), (qx, eL t.2.1 54 bW)]) [0, 1, 2, 3, 4, 5, 6] rfl) (hD.sub (ws' := [(o, .inr (5, [.int (iI 0), .int (iI z), .int (iI lv), .ref qT, .ref qC, .ref qF, .ref qY, .ref qZ, .ref qu, .ref qv, .ref qw, .ref qg, .ref qh, .ref qx, .ref qc, .ref qa, .ref qb, .ref qd, .int (iI fm), .ref qp, .ref qq])), (qT, eI t.1 1200 T), (qC, eI t.1 14400 F), (qu, eL t.2.1 4 (v4 bu0 bu1 bu2 bu3)), (qv, eL t.2.1 4 (v4 bv0 bv1 bv2 bv3)), (qc, eL t.2.1 4 (v4 bc0 bc1 bc2 bc3)), (qx, eL t.2.1 54 bW)]) [0, 1, 2, 3, 4, 5, 6] (by decide) rfl) hS (lv_sub hl [0, 2, 3, 4, 1, 5, 6, 7, 8, 9] rfl)
                          · refine lv_aload_n hC.1 hC.2.1 d_Mo_star_113 rfl (lv_at hl 6 rfl) ?_
                            refine lv_iload hC.1 hC.2.1 d_Mo_star_114 (lv_at hl 0 rfl) ?_
                            refine lv_iload hC.1 hC.2.1 d_Mo_star_116 (lv_at hl 3 rfl) ?_
                            refine z_mVi (As := [.int (iI o2), .int (iI k)]) (rest := []) (wr := []) hC (c_Mo_against l D t ts o qT qC qF qY qZ qu qv qw qg qh qx qc qa qb qd qp qq 0 z lv fm bW T F bu0 bu1 bu2 bu3 bv0 bv1 bv2 bv3 bc0 bc1 bc2 bc3 hT hF o2 k (by omega) (by omega) _) (cw_V hC k_556 k_558 kp_28 k_6 k_559 ye_Mo_against (by decide)) hP hD hK hE hS hA [0, 1, 2, 3, 4, 5, 6] [] (by decide) rfl rfl (by decide) (by decide) 0 (ci := 5) rfl rfl rfl rfl hl.1 rfl (Nat.le_of_ble_eq_true rfl) ⟨Nat.le_of_ble_eq_true rfl, Nat.le_of_ble_eq_true rfl⟩ d_Mo_star_118 (fun u1 H locs eu1 hP hD hS => ?_)
                            obtain ⟨u1r, u1x0, u1x1, u1x2, u1x3, u1y0, u1y1, u1y2, u1y3, u1c0, u1c1, u1c2, u1c3, u1X⟩ := u1
                            dsimp only at eu1 hP hD ⊢
                            have hP : va_P D classes [(o, .inr (5, [.int (iI 0), .int (iI z), .int (iI lv), .ref qT, .ref qC, .ref qF, .ref qY, .ref qZ, .ref qu, .ref qv, .ref qw, .ref qg, .ref qh, .ref qx, .ref qc, .ref qa, .ref qb, .ref qd, .int (iI fm), .ref qp, .ref qq])), (qT, eI t.1 1200 T), (qC, eI t.1 14400 F), (qu, eL t.2.1 4 (v4 u1x0 u1x1 u1x2 u1x3)), (qv, eL t.2.1 4 (v4 u1y0 u1y1 u1y2 u1y3)), (qc, eL t.2.1 4 (v4 u1c0 u1c1 u1c2 u1c3)), (qx, eL t.2.1 54 u1X)] H := hP
                            have hD : va_D A [(o, .inr (5, [.int (iI 0), .int (iI z), .int (iI lv), .ref qT, .ref qC, .ref qF, .ref qY, .ref qZ, .ref qu, .ref qv, .ref qw, .ref qg, .ref qh, .ref qx, .ref qc, .ref qa, .ref qb, .ref qd, .int (iI fm), .ref qp, .ref qq])), (qT, eI t.1 1200 T), (qC, eI t.1 14400 F), (qu, eL t.2.1 4 (v4 u1x0 u1x1 u1x2 u1x3)), (qv, eL t.2.1 4 (v4 u1y0 u1y1 u1y2 u1y3)), (qc, eL t.2.1 4 (v4 u1c0 u1c1 u1c2 u1c3)), (qx, eL t.2.1 54 u1X)] := hD
                            refine z_if_neB (tgt := 128) hC d_Mo_star_121 (by decide) (fun h121 => ?_) (fun h121 => ?_)
                            · refine z_iconst hC d_Mo_star_128 ?_
                              refine lv_istore (lv' := [(7, .int (iI 0)), (10, .int (iI o2)), (6, .int (iI (anZ T F k (4 * c + 12 * n) + sm))), (5, .int (iI (hv + 1))), (8, .int (iI k)), (4, .int (iI (4 * c + 12 * n))), (0, .ref o), (1, .int (iI n)), (2, .int (iI c)), (3, .int (iI w))]) hC.1 hC.2.1 d_Mo_star_129 hl (by decide) rfl (fun ls hl => ?_)
                              refine lv_iinc (v := iI (o2 + 1)) (lv' := [(10, .int (iI (o2 + 1))), (7, .int (iI 0)), (6, .int (iI (anZ T F k (4 * c + 12 * n) + sm))), (5, .int (iI (hv + 1))), (8, .int (iI k)), (4, .int (iI (4 * c + 12 * n))), (0, .ref o), (1, .int (iI n)), (2, .int (iI c)), (3, .int (iI w))]) hC.1 hC.2.1 d_Mo_star_131 hl (k := 1) rfl (z_inc (by omega)) (by decide) rfl (fun ls hl => ?_)
                              refine z_goto (tgt := 85) hC d_Mo_star_134 (by decide) ?_
                              exact ih85 u1x0 u1x1 u1x2 u1x3 u1y0 u1y1 u1y2 u1y3 u1c0 u1c1 u1c2 u1c3 u1X false (o2 + 1) _ _ _ (by omega) (by omega) (by rw [anyZ_s (by omega)]; rw [h94] at eg2; have q : (gd && !(decide (w = 2) && anyZ o2.toNat (fun o => mgo T F (4 * c + 12 * n) k o))) = true := eg2.symm; unfold mgo at q ⊢; revert q; rw [eu1] at h121; simp [h99, h110, h121]; try (intros; simp [*]; done)) (hP.sub (ws' := [(o, .inr (5, [.int (iI 0), .int (iI z), .int (iI lv), .ref qT, .ref qC, .ref qF, .ref qY, .ref qZ, .ref qu, .ref qv, .ref qw, .ref qg, .ref qh, .ref qx, .ref qc, .ref qa, .ref qb, .ref qd, .int (iI fm), .ref qp, .ref qq])), (qT, eI t.1 1200 T), (qC, eI t.1 14400 F), (qu, eL t.2.1 4 (v4 u1x0 u1x1 u1x2 u1x3)), (qv, eL t.2.1 4 (v4 u1y0 u1y1 u1y2 u1y3)), (qc, eL t.2.1 4 (v4 u1c0 u1c1 u1c2 u1c3)), (qx, eL t.2.1 54 u1X)]) [0, 1, 2, 3, 4, 5, 6] rfl) (hD.sub (ws' := [(o, .inr (5, [.int (iI 0), .int (iI z), .int (iI lv), .ref qT, .ref qC, .ref qF, .ref qY, .ref qZ, .ref qu, .ref qv, .ref qw, .ref qg, .ref qh, .ref qx, .ref qc, .ref qa, .ref qb, .ref qd, .int (iI fm), .ref qp, .ref qq])), (qT, eI t.1 1200 T), (qC, eI t.1 14400 F), (qu, eL t.2.1 4 (v4 u1x0 u1x1 u1x2 u1x3)), (qv, eL t.2.1 4 (v4 u1y0 u1y1 u1y2 u1y3)), (qc, eL t.2.1 4 (v4 u1c0 u1c1 u1c2 u1c3)), (qx, eL t.2.1 54 u1X)]) [0, 1, 2, 3, 4, 5, 6] (by decide) rfl) hS (lv_sub hl [0, 2, 3, 4, 1, 5, 6, 7, 8, 9] rfl)
                            · refine z_iconst hC d_Mo_star_124 ?_
                              refine z_goto (tgt := 129) hC d_Mo_star_125 (by decide) ?_
                              refine lv_istore (lv' := [(7, .int (iI 1)), (10, .int (iI o2)), (6, .int (iI (anZ T F k (4 * c + 12 * n) + sm))), (5, .int (iI (hv + 1))), (8, .int (iI k)), (4, .int (iI (4 * c + 12 * n))), (0, .ref o), (1, .int (iI n)), (2, .int (iI c)), (3, .int (iI w))]) hC.1 hC.2.1 d_Mo_star_129 hl (by decide) rfl (fun ls hl => ?_)
                              refine lv_iinc (v := iI (o2 + 1)) (lv' := [(10, .int (iI (o2 + 1))), (7, .int (iI 1)), (6, .int (iI (anZ T F k (4 * c + 12 * n) + sm))), (5, .int (iI (hv + 1))), (8, .int (iI k)), (4, .int (iI (4 * c + 12 * n))), (0, .ref o), (1, .int (iI n)), (2, .int (iI c)), (3, .int (iI w))]) hC.1 hC.2.1 d_Mo_star_131 hl (k := 1) rfl (z_inc (by omega)) (by decide) rfl (fun ls hl => ?_)
                              refine z_goto (tgt := 85) hC d_Mo_star_134 (by decide) ?_
                              exact ih85 u1x0 u1x1 u1x2 u1x3 u1y0 u1y1 u1y2 u1y3 u1c0 u1c1 u1c2 u1c3 u1X true (o2 + 1) _ _ _ (by omega) (by omega) (by rw [anyZ_s (by omega)]; rw [h94] at eg2; have q : (gd && !(decide (w = 2) && anyZ o2.toNat (fun o => mgo T F (4 * c + 12 * n) k o))) = true := eg2.symm; unfold mgo at q ⊢; revert q; rw [eu1] at h121; simp [h99, h110, h121]; try (intros; simp [*]; done)) (hP.sub (ws' := [(o, .inr (5, [.int (iI 0), .int (iI z), .int (iI lv), .ref qT, .ref qC, .ref qF, .ref qY, .ref qZ, .ref qu, .ref qv, .ref qw, .ref qg, .ref qh, .ref qx, .ref qc, .ref qa, .ref qb, .ref qd, .int (iI fm), .ref qp, .ref qq])), (qT, eI t.1 1200 T), (qC, eI t.1 14400 F), (qu, eL t.2.1 4 (v4 u1x0 u1x1 u1x2 u1x3)), (qv, eL t.2.1 4 (v4 u1y0 u1y1 u1y2 u1y3)), (qc, eL t.2.1 4 (v4 u1c0 u1c1 u1c2 u1c3)), (qx, eL t.2.1 54 u1X)]) [0, 1, 2, 3, 4, 5, 6] rfl) (hD.sub (ws' := [(o, .inr (5, [.int (iI 0), .int (iI z), .int (iI lv), .ref qT, .ref qC, .ref qF, .ref qY, .ref qZ, .ref qu, .ref qv, .ref qw, .ref qg, .ref qh, .ref qx, .ref qc, .ref qa, .ref qb, .ref qd, .int (iI fm), .ref qp, .ref qq])), (qT, eI t.1 1200 T), (qC, eI t.1 14400 F), (qu, eL t.2.1 4 (v4 u1x0 u1x1 u1x2 u1x3)), (qv, eL t.2.1 4 (v4 u1y0 u1y1 u1y2 u1y3)), (qc, eL t.2.1 4 (v4 u1c0 u1c1 u1c2 u1c3)), (qx, eL t.2.1 54 u1X)]) [0, 1, 2, 3, 4, 5, 6] (by decide) rfl) hS (lv_sub hl [0, 2, 3, 4, 1, 5, 6, 7, 8, 9] rfl)
                exact L85 (k - 0 + 1 : Int).toNat au0 au1 au2 au3 av0 av1 av2 av3 ac0 ac1 ac2 ac3 aW gd 0 _ _ _ (by omega) (by omega) (by simp [anyZ]) hP hD hS (lv_sub hl [0, 1, 2, 4, 5, 6, 7, 8, 9, 10] rfl)
              · refine z_goto (tgt := 137) hC d_Mo_star_69 (by decide) ?_
                refine lv_iinc (v := iI (k + 1)) (lv' := [(8, .int (iI (k + 1))), (9, .int (iI (anZ T F k (4 * c + 12 * n)))), (7, .int (iI (zB gd))), (6, .int (iI sm)), (5, .int (iI hv)), (4, .int (iI (4 * c + 12 * n))), (0, .ref o), (1, .int (iI n)), (2, .int (iI c)), (3, .int (iI w))]) hC.1 hC.2.1 d_Mo_star_137 hl (k := 1) rfl (z_inc (by omega)) (by decide) rfl (fun ls hl => ?_)
                refine z_goto (tgt := 45) hC d_Mo_star_140 (by decide) ?_
                exact ih45 au0 au1 au2 au3 av0 av1 av2 av3 ac0 ac1 ac2 ac3 aW hv sm gd (k + 1) _ _ _ (by omega) (by omega) (by rw [cntZ_s (by omega), ehv]; simp [h66]) (by rw [sumZ_s (by omega), esm]; rw [h66]; omega) (by rw [anyZ_s (by omega), show mgk T F (4 * c + 12 * n) k = false by unfold mgk; simp [h66]]; simp [egd]) (hP.sub (ws' := [(o, .inr (5, [.int (iI 0), .int (iI z), .int (iI lv), .ref qT, .ref qC, .ref qF, .ref qY, .ref qZ, .ref qu, .ref qv, .ref qw, .ref qg, .ref qh, .ref qx, .ref qc, .ref qa, .ref qb, .ref qd, .int (iI fm), .ref qp, .ref qq])), (qT, eI t.1 1200 T), (qC, eI t.1 14400 F), (qu, eL t.2.1 4 (v4 au0 au1 au2 au3)), (qv, eL t.2.1 4 (v4 av0 av1 av2 av3)), (qc, eL t.2.1 4 (v4 ac0 ac1 ac2 ac3)), (qx, eL t.2.1 54 aW)]) [0, 1, 2, 3, 4, 5, 6] rfl) (hD.sub (ws' := [(o, .inr (5, [.int (iI 0), .int (iI z), .int (iI lv), .ref qT, .ref qC, .ref qF, .ref qY, .ref qZ, .ref qu, .ref qv, .ref qw, .ref qg, .ref qh, .ref qx, .ref qc, .ref qa, .ref qb, .ref qd, .int (iI fm), .ref qp, .ref qq])), (qT, eI t.1 1200 T), (qC, eI t.1 14400 F), (qu, eL t.2.1 4 (v4 au0 au1 au2 au3)), (qv, eL t.2.1 4 (v4 av0 av1 av2 av3)), (qc, eL t.2.1 4 (v4 ac0 ac1 ac2 ac3)), (qx, eL t.2.1 54 aW)]) [0, 1, 2, 3, 4, 5, 6] (by decide) rfl) hS (lv_sub hl [0, 2, 3, 4, 5, 6, 7, 8, 9] rfl)
        exact L45 (z - 0 + 1 : Int).toNat x0 x1 x2 x3 y0 y1 y2 y3 c0 c1 c2 c3 Wd 0 0 true 0 _ _ _ (by omega) (by omega) (by rfl) (by rfl) (by simp [anyZ]) hP hD hS (lv_sub hl [0, 1, 2, 3, 4, 5, 6, 7, 8] rfl)
      · refine z_iconst hC d_Mo_star_23 ?_
        have hP9 := hP.sub (ws' := [(o, .inr (5, [.int (iI 0), .int (iI z), .int (iI lv), .ref qT, .ref qC, .ref qF, .ref qY, .ref qZ, .ref qu, .ref qv, .ref qw, .ref qg, .ref qh, .ref qx, .ref qc, .ref qa, .ref qb, .ref qd, .int (iI fm), .ref qp, .ref qq])), (qT, eI t.1 1200 T), (qC, eI t.1 14400 F), (qu, eL t.2.1 4 (v4 x0 x1 x2 x3)), (qv, eL t.2.1 4 (v4 y0 y1 y2 y3)), (qc, eL t.2.1 4 (v4 c0 c1 c2 c3)), (qx, eL t.2.1 54 Wd)]) [0, 1, 2, 3, 4, 5, 6] rfl
        have hD9 := hD.sub (ws' := [(o, .inr (5, [.int (iI 0), .int (iI z), .int (iI lv), .ref qT, .ref qC, .ref qF, .ref qY, .ref qZ, .ref qu, .ref qv, .ref qw, .ref qg, .ref qh, .ref qx, .ref qc, .ref qa, .ref qb, .ref qd, .int (iI fm), .ref qp, .ref qq])), (qT, eI t.1 1200 T), (qC, eI t.1 14400 F), (qu, eL t.2.1 4 (v4 x0 x1 x2 x3)), (qv, eL t.2.1 4 (v4 y0 y1 y2 y3)), (qc, eL t.2.1 4 (v4 c0 c1 c2 c3)), (qx, eL t.2.1 54 Wd)]) [0, 1, 2, 3, 4, 5, 6] (by decide) rfl
        exact retv (-1, (v4 x0 x1 x2 x3), (v4 y0 y1 y2 y3), (v4 c0 c1 c2 c3), Wd) _ _ 24 _ _ d_Mo_star_24 ⟨rfl, (by show -1 = _; unfold mstZ; simp [h11]; try (intros; omega))⟩ hP9 hD9 hS
