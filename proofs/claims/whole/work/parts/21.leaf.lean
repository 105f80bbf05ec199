theorem ye_Ha_at : ye y_Ha_at R_Ha 2 := by unfold ye; decide +kernel
abbrev rm_Ha_at : Room := { frames := 0, cells := 0, slots := 0, locals := 0 }
set_option maxHeartbeats 4000000 in
set_option maxRecDepth 100000 in
theorem c_Ha_at (l : Launch) (D : va_G) (t : vt) (ts : Nat → Nat) (n c r : Int) (hr : r = 4 * c + 12 * n) : Met l y_Ha_at (.code y_Ha_at b_Ha_at 2 (some .int) :: tb_ws) rm_Ha_at (RoP D t ts [.int (iI n), .int (iI c)] []) (vp_Si (fun zr => zr = iI r)) 0 0 (fun _ => False) := by
  refine ro_i (by decide +kernel) (Nat.le_of_ble_eq_true rfl) ?_
  intro zp ze zs zm zb zt zc zQ ls hC hP hK hE hl ret
  have hS : va_S (fun _ => False) zs.heap zs.heap [] := va_S.rf
  have hl : lv_has ls 2 [(0, .int (iI n)), (1, .int (iI c))] := hl
  have retv : ∀ (pc : Nat) (ls : Array Slot) (zv : Int), decode b_Ha_at pc = .ok (.ireturn, 1) → zv = r → W zp l ze rm_Ha_at zs zm [.int (iI n), .int (iI c)].toArray zb zt zc zs.heap [] 0 0 zQ (F0 zm pc ls [.int (iI zv)]) := fun pc ls v d h => by rw [h]; exact ret pc ls d
  refine lv_iload_n hC.1 hC.2.1 d_Ha_at_0 rfl (lv_at hl 0 rfl) ?_
  refine z_bipush hC d_Ha_at_1 (by decide) ?_
  refine z_imul hC d_Ha_at_3 ?_
  refine z_topi (z := 12 * n) (by omega) ?_
  refine lv_iload_n hC.1 hC.2.1 d_Ha_at_4 rfl (lv_at hl 1 rfl) ?_
  refine z_iconst hC d_Ha_at_5 ?_
  refine z_imul hC d_Ha_at_6 ?_
  refine z_topi (z := 4 * c) (by omega) ?_
  refine z_iadd hC d_Ha_at_7 ?_
  refine z_topi (z := 4 * c + 12 * n) (by omega) ?_
  exact retv 8 _ _ d_Ha_at_8 (by omega)
theorem ye_Po_near : ye y_Po_near R_Po 1 := by unfold ye; decide +kernel
abbrev rm_Po_near : Room := { frames := 0, cells := 0, slots := 0, locals := 0 }
set_option maxHeartbeats 4000000 in
set_option maxRecDepth 100000 in
theorem c_Po_near (l : Launch) (D : va_G) (t : vt) (ts : Nat → Nat) (x : Int) (hx : inI x) : Met l y_Po_near (.code y_Po_near b_Po_near 1 (some .boolean) :: tb_ws) rm_Po_near (RoP D t ts [.int (iI x)] []) (vp_Si (fun zr => zr = iI (zB (nearZ x)))) 0 0 (fun _ => False) := by
  refine ro_z (by decide +kernel) (Nat.le_of_ble_eq_true rfl) ?_
  intro zp ze zs zm zb zt zc zQ ls hC hP hK hE hl ret
  have hS : va_S (fun _ => False) zs.heap zs.heap [] := va_S.rf
  have hl : lv_has ls 1 [(0, .int (iI x))] := hl
  have ret1 : ∀ (pc : Nat) (ls : Array Slot), decode b_Po_near pc = .ok (.ireturn, 1) → (nearZ x) = true → W zp l ze rm_Po_near zs zm [.int (iI x)].toArray zb zt zc zs.heap [] 0 0 zQ (F0 zm pc ls [.int (iI 1)]) := fun pc ls d h => by have r := ret pc ls d; rw [h] at r; exact r
  have ret0 : ∀ (pc : Nat) (ls : Array Slot), decode b_Po_near pc = .ok (.ireturn, 1) → (nearZ x) = false → W zp l ze rm_Po_near zs zm [.int (iI x)].toArray zb zt zc zs.heap [] 0 0 zQ (F0 zm pc ls [.int (iI 0)]) := fun pc ls d h => by have r := ret pc ls d; rw [h] at r; exact r
  have retb : ∀ (pc : Nat) (ls : Array Slot), decode b_Po_near pc = .ok (.ireturn, 1) → ∀ zv : Bool, zv = (nearZ x) → W zp l ze rm_Po_near zs zm [.int (iI x)].toArray zb zt zc zs.heap [] 0 0 zQ (F0 zm pc ls [.int (iI (zB zv))]) := fun pc ls d b h => by rw [h]; exact ret pc ls d
  refine lv_iload_n hC.1 hC.2.1 d_Po_near_0 rfl (lv_at hl 0 rfl) ?_
  refine z_ldc hC k_177 d_Po_near_1 ?_
  refine z_icmp_lt (tgt := 16) hC d_Po_near_3 (by decide) (by omega) (by decide) (fun h3 => ?_) (fun h3 => ?_)
  · refine z_iconst hC d_Po_near_16 ?_
    exact ret0 17 _ d_Po_near_17 (by unfold nearZ; simp; omega)
  · refine lv_iload_n hC.1 hC.2.1 d_Po_near_6 rfl (lv_at hl 0 rfl) ?_
    refine z_ldc hC k_178 d_Po_near_7 ?_
    refine z_icmp_gt (tgt := 16) hC d_Po_near_9 (by decide) (by omega) (by decide) (fun h9 => ?_) (fun h9 => ?_)
    · refine z_iconst hC d_Po_near_16 ?_
      exact ret0 17 _ d_Po_near_17 (by unfold nearZ; simp; omega)
    · refine z_iconst hC d_Po_near_12 ?_
      refine z_goto (tgt := 17) hC d_Po_near_13 (by decide) ?_
      exact ret1 17 _ d_Po_near_17 (by unfold nearZ; simp; omega)
theorem ye_Po_within : ye y_Po_within R_Po 4 := by unfold ye; decide +kernel
abbrev rm_Po_within : Room := { frames := 1, cells := 0, slots := 0, locals := 20 }
set_option maxHeartbeats 4000000 in
set_option maxRecDepth 100000 in
theorem c_Po_within (l : Launch) (D : va_G) (t : vt) (ts : Nat → Nat) (a b c d : Int) (ha : inI a) (hb : inI b) (hc : inI c) (hd : inI d) : Met l y_Po_within (.code y_Po_within b_Po_within 4 (some .boolean) :: tb_ws) rm_Po_within (RoP D t ts [.int (iI a), .int (iI b), .int (iI c), .int (iI d)] []) (vp_Si (fun zr => zr = iI (zB (nearZ a && nearZ b && nearZ c && nearZ d)))) 0 0 (fun _ => False) := by
  refine ro_z (by decide +kernel) (Nat.le_of_ble_eq_true rfl) ?_
  intro zp ze zs zm zb zt zc zQ ls hC hP hK hE hl ret
  have hS : va_S (fun _ => False) zs.heap zs.heap [] := va_S.rf
  have hl : lv_has ls 4 [(0, .int (iI a)), (1, .int (iI b)), (2, .int (iI c)), (3, .int (iI d))] := hl
  have ret1 : ∀ (pc : Nat) (ls : Array Slot), decode b_Po_within pc = .ok (.ireturn, 1) → (nearZ a && nearZ b && nearZ c && nearZ d) = true → W zp l ze rm_Po_within zs zm [.int (iI a), .int (iI b), .int (iI c), .int (iI d)].toArray zb zt zc zs.heap [] 0 0 zQ (F0 zm pc ls [.int (iI 1)]) := fun pc ls d h => by have r := ret pc ls d; rw [h] at r; exact r
  have ret0 : ∀ (pc : Nat) (ls : Array Slot), decode b_Po_within pc = .ok (.ireturn, 1) → (nearZ a && nearZ b && nearZ c && nearZ d) = false → W zp l ze rm_Po_within zs zm [.int (iI a), .int (iI b), .int (iI c), .int (iI d)].toArray zb zt zc zs.heap [] 0 0 zQ (F0 zm pc ls [.int (iI 0)]) := fun pc ls d h => by have r := ret pc ls d; rw [h] at r; exact r
  have retb : ∀ (pc : Nat) (ls : Array Slot), decode b_Po_within pc = .ok (.ireturn, 1) → ∀ zv : Bool, zv = (nearZ a && nearZ b && nearZ c && nearZ d) → W zp l ze rm_Po_within zs zm [.int (iI a), .int (iI b), .int (iI c), .int (iI d)].toArray zb zt zc zs.heap [] 0 0 zQ (F0 zm pc ls [.int (iI (zB zv))]) := fun pc ls d b h => by rw [h]; exact ret pc ls d
  refine lv_iload_n hC.1 hC.2.1 d_Po_within_0 rfl (lv_at hl 0 rfl) ?_
  refine z_roSi (As := [.int (iI a)]) (rest := []) hC (c_Po_near l D t ts a (by omega)) (cw_S hC k_174 k_175 k_8 k_176 ye_Po_near (by decide)) hP hK hE hS [] rfl rfl hl.1 rfl (Nat.le_of_ble_eq_true rfl) ⟨Nat.le_of_ble_eq_true rfl, Nat.le_of_ble_eq_true rfl⟩ d_Po_within_1 ?_
  refine z_if_eqB (tgt := 32) hC d_Po_within_4 (by decide) (fun h4 => ?_) (fun h4 => ?_)
  · refine z_iconst hC d_Po_within_32 ?_
    exact ret0 33 _ d_Po_within_33 (by simp [h4])
  · refine lv_iload_n hC.1 hC.2.1 d_Po_within_7 rfl (lv_at hl 1 rfl) ?_
    refine z_roSi (As := [.int (iI b)]) (rest := []) hC (c_Po_near l D t ts b (by omega)) (cw_S hC k_174 k_175 k_8 k_176 ye_Po_near (by decide)) hP hK hE hS [] rfl rfl hl.1 rfl (Nat.le_of_ble_eq_true rfl) ⟨Nat.le_of_ble_eq_true rfl, Nat.le_of_ble_eq_true rfl⟩ d_Po_within_8 ?_
    refine z_if_eqB (tgt := 32) hC d_Po_within_11 (by decide) (fun h11 => ?_) (fun h11 => ?_)
    · refine z_iconst hC d_Po_within_32 ?_
      exact ret0 33 _ d_Po_within_33 (by simp [h4, h11])
    · refine lv_iload_n hC.1 hC.2.1 d_Po_within_14 rfl (lv_at hl 2 rfl) ?_
      refine z_roSi (As := [.int (iI c)]) (rest := []) hC (c_Po_near l D t ts c (by omega)) (cw_S hC k_174 k_175 k_8 k_176 ye_Po_near (by decide)) hP hK hE hS [] rfl rfl hl.1 rfl (Nat.le_of_ble_eq_true rfl) ⟨Nat.le_of_ble_eq_true rfl, Nat.le_of_ble_eq_true rfl⟩ d_Po_within_15 ?_
      refine z_if_eqB (tgt := 32) hC d_Po_within_18 (by decide) (fun h18 => ?_) (fun h18 => ?_)
      · refine z_iconst hC d_Po_within_32 ?_
        exact ret0 33 _ d_Po_within_33 (by simp [h4, h11, h18])
      · refine lv_iload_n hC.1 hC.2.1 d_Po_within_21 rfl (lv_at hl 3 rfl) ?_
        refine z_roSi (As := [.int (iI d)]) (rest := []) hC (c_Po_near l D t ts d (by omega)) (cw_S hC k_174 k_175 k_8 k_176 ye_Po_near (by decide)) hP hK hE hS [] rfl rfl hl.1 rfl (Nat.le_of_ble_eq_true rfl) ⟨Nat.le_of_ble_eq_true rfl, Nat.le_of_ble_eq_true rfl⟩ d_Po_within_22 ?_
        refine z_if_eqB (tgt := 32) hC d_Po_within_25 (by decide) (fun h25 => ?_) (fun h25 => ?_)
        · refine z_iconst hC d_Po_within_32 ?_
          exact ret0 33 _ d_Po_within_33 (by simp [h4, h11, h18, h25])
        · refine z_iconst hC d_Po_within_28 ?_
          refine z_goto (tgt := 33) hC d_Po_within_29 (by decide) ?_
          exact ret1 33 _ d_Po_within_33 (by simp [h4, h11, h18, h25])
theorem ye_Po_same : ye y_Po_same R_Po 3 := by unfold ye; decide +kernel
abbrev rm_Po_same : Room := { frames := 0, cells := 0, slots := 0, locals := 0 }
set_option maxHeartbeats 4000000 in
set_option maxRecDepth 100000 in
theorem c_Po_same (l : Launch) (D : va_G) (t : vt) (ts : Nat → Nat) (a n : Nat) (F : Int → Int) (p q : Int) (hn : (n : Int) ≤ 2147483647) (hp : 0 ≤ p ∧ p + 3 < n) (hq : 0 ≤ q ∧ q + 3 < n) (hF : bF F) : Met l y_Po_same (.code y_Po_same b_Po_same 3 (some .boolean) :: tb_ws) rm_Po_same (RoP D t ts [.ref a, .int (iI p), .int (iI q)] [(a, eI t.1 n F)]) (vp_Si (fun zr => zr = iI (zB (pS F p q)))) 0 0 (fun _ => False) := by
  refine ro_z (by decide +kernel) (Nat.le_of_ble_eq_true rfl) ?_
  intro zp ze zs zm zb zt zc zQ ls hC hP hK hE hl ret
  have hS : va_S (fun _ => False) zs.heap zs.heap [] := va_S.rf
  have hl : lv_has ls 3 [(0, .ref a), (1, .int (iI p)), (2, .int (iI q))] := hl
  have ret1 : ∀ (pc : Nat) (ls : Array Slot), decode b_Po_same pc = .ok (.ireturn, 1) → (pS F p q) = true → W zp l ze rm_Po_same zs zm [.ref a, .int (iI p), .int (iI q)].toArray zb zt zc zs.heap [] 0 0 zQ (F0 zm pc ls [.int (iI 1)]) := fun pc ls d h => by have r := ret pc ls d; rw [h] at r; exact r
  have ret0 : ∀ (pc : Nat) (ls : Array Slot), decode b_Po_same pc = .ok (.ireturn, 1) → (pS F p q) = false → W zp l ze rm_Po_same zs zm [.ref a, .int (iI p), .int (iI q)].toArray zb zt zc zs.heap [] 0 0 zQ (F0 zm pc ls [.int (iI 0)]) := fun pc ls d h => by have r := ret pc ls d; rw [h] at r; exact r
  have retb : ∀ (pc : Nat) (ls : Array Slot), decode b_Po_same pc = .ok (.ireturn, 1) → ∀ zv : Bool, zv = (pS F p q) → W zp l ze rm_Po_same zs zm [.ref a, .int (iI p), .int (iI q)].toArray zb zt zc zs.heap [] 0 0 zQ (F0 zm pc ls [.int (iI (zB zv))]) := fun pc ls d b h => by rw [h]; exact ret pc ls d
  refine lv_aload_n hC.1 hC.2.1 d_Po_same_0 rfl (lv_at hl 0 rfl) ?_
  refine lv_iload_n hC.1 hC.2.1 d_Po_same_1 rfl (lv_at hl 1 rfl) ?_
  refine z_iald hC hK hP 0 rfl (by omega) d_Po_same_2 ?_
  refine lv_aload_n hC.1 hC.2.1 d_Po_same_3 rfl (lv_at hl 0 rfl) ?_
  refine lv_iload_n hC.1 hC.2.1 d_Po_same_4 rfl (lv_at hl 2 rfl) ?_
  refine z_iald hC hK hP 0 rfl (by omega) d_Po_same_5 ?_
  refine z_icmp_ne (tgt := 52) hC d_Po_same_6 (by decide) (by have := hF p; omega) (by have := hF q; omega) (fun h6 => ?_) (fun h6 => ?_)
  · refine z_iconst hC d_Po_same_52 ?_
    exact ret0 53 _ d_Po_same_53 (by unfold pS; simp; omega)
  · refine lv_aload_n hC.1 hC.2.1 d_Po_same_9 rfl (lv_at hl 0 rfl) ?_
    refine lv_iload_n hC.1 hC.2.1 d_Po_same_10 rfl (lv_at hl 1 rfl) ?_
    refine z_iconst hC d_Po_same_11 ?_
    refine z_iadd hC d_Po_same_12 ?_
    refine z_iald hC hK hP 0 rfl (by omega) d_Po_same_13 ?_
    refine lv_aload_n hC.1 hC.2.1 d_Po_same_14 rfl (lv_at hl 0 rfl) ?_
    refine lv_iload_n hC.1 hC.2.1 d_Po_same_15 rfl (lv_at hl 2 rfl) ?_
    refine z_iconst hC d_Po_same_16 ?_
    refine z_iadd hC d_Po_same_17 ?_
    refine z_iald hC hK hP 0 rfl (by omega) d_Po_same_18 ?_
    refine z_icmp_ne (tgt := 52) hC d_Po_same_19 (by decide) (by have := hF (p + 1); omega) (by have := hF (q + 1); omega) (fun h19 => ?_) (fun h19 => ?_)
    · refine z_iconst hC d_Po_same_52 ?_
      exact ret0 53 _ d_Po_same_53 (by unfold pS; simp; omega)
    · refine lv_aload_n hC.1 hC.2.1 d_Po_same_22 rfl (lv_at hl 0 rfl) ?_
      refine lv_iload_n hC.1 hC.2.1 d_Po_same_23 rfl (lv_at hl 1 rfl) ?_
      refine z_iconst hC d_Po_same_24 ?_
      refine z_iadd hC d_Po_same_25 ?_
      refine z_iald hC hK hP 0 rfl (by omega) d_Po_same_26 ?_
      refine lv_aload_n hC.1 hC.2.1 d_Po_same_27 rfl (lv_at hl 0 rfl) ?_
      refine lv_iload_n hC.1 hC.2.1 d_Po_same_28 rfl (lv_at hl 2 rfl) ?_
      refine z_iconst hC d_Po_same_29 ?_
      refine z_iadd hC d_Po_same_30 ?_
      refine z_iald hC hK hP 0 rfl (by omega) d_Po_same_31 ?_
      refine z_icmp_ne (tgt := 52) hC d_Po_same_32 (by decide) (by have := hF (p + 2); omega) (by have := hF (q + 2); omega) (fun h32 => ?_) (fun h32 => ?_)
      · refine z_iconst hC d_Po_same_52 ?_
        exact ret0 53 _ d_Po_same_53 (by unfold pS; simp; omega)
      · refine lv_aload_n hC.1 hC.2.1 d_Po_same_35 rfl (lv_at hl 0 rfl) ?_
        refine lv_iload_n hC.1 hC.2.1 d_Po_same_36 rfl (lv_at hl 1 rfl) ?_
        refine z_iconst hC d_Po_same_37 ?_
        refine z_iadd hC d_Po_same_38 ?_
        refine z_iald hC hK hP 0 rfl (by omega) d_Po_same_39 ?_
        refine lv_aload_n hC.1 hC.2.1 d_Po_same_40 rfl (lv_at hl 0 rfl) ?_
        refine lv_iload_n hC.1 hC.2.1 d_Po_same_41 rfl (lv_at hl 2 rfl) ?_
        refine z_iconst hC d_Po_same_42 ?_
        refine z_iadd hC d_Po_same_43 ?_
        refine z_iald hC hK hP 0 rfl (by omega) d_Po_same_44 ?_
        refine z_icmp_ne (tgt := 52) hC d_Po_same_45 (by decide) (by have := hF (p + 3); omega) (by have := hF (q + 3); omega) (fun h45 => ?_) (fun h45 => ?_)
        · refine z_iconst hC d_Po_same_52 ?_
          exact ret0 53 _ d_Po_same_53 (by unfold pS; simp; omega)
        · refine z_iconst hC d_Po_same_48 ?_
          refine z_goto (tgt := 53) hC d_Po_same_49 (by decide) ?_
          exact ret1 53 _ d_Po_same_53 (by unfold pS; simp; omega)
theorem ye_Po_height : ye y_Po_height R_Po 3 := by unfold ye; decide +kernel
abbrev rm_Po_height : Room := { frames := 0, cells := 0, slots := 0, locals := 0 }
set_option maxHeartbeats 4000000 in
set_option maxRecDepth 100000 in
theorem c_Po_height (l : Launch) (D : va_G) (t : vt) (ts : Nat → Nat) (x : Int) (a n : Nat) (F : Int → Int) (p : Int) (hx : 0 ≤ x ∧ x < 5) (hn : (n : Int) ≤ 2147483647) (hp : 0 ≤ p ∧ p + 3 < n) (hF : bF F) : Met l y_Po_height (.code y_Po_height b_Po_height 4 (some .long) :: tb_ws) rm_Po_height (RoP D t ts [.int (iI x), .ref a, .int (iI p)] [(a, eI t.1 n F)]) (vp_Sl (fun zr => zr = lI (hZ x F p))) 0 0 (fun _ => False) := by
  refine ro_l (by decide +kernel) (Nat.le_of_ble_eq_true rfl) ?_
  intro zp ze zs zm zb zt zc zQ ls hC hP hK hE hl ret
  have hS : va_S (fun _ => False) zs.heap zs.heap [] := va_S.rf
  have hl : lv_has ls 4 [(0, .int (iI x)), (1, .ref a), (2, .int (iI p))] := hl
  have retv : ∀ (pc : Nat) (ls : Array Slot) (zv : Int), decode b_Po_height pc = .ok (.lreturn, 1) → zv = (hZ x F p) → W zp l ze rm_Po_height zs zm [.int (iI x), .ref a, .int (iI p)].toArray zb zt zc zs.heap [] 0 0 zQ (F0 zm pc ls [.long (lI zv)]) := fun pc ls v d h => by rw [h]; exact ret pc ls d
  refine lv_iload_n hC.1 hC.2.1 d_Po_height_0 rfl (lv_at hl 0 rfl) ?_
  refine z_iconst hC d_Po_height_1 ?_
  refine z_imul hC d_Po_height_2 ?_
  refine z_topi (z := 4 * x) (by omega) ?_
  refine lv_istore_n (lv' := [(3, .int (iI (4 * x))), (0, .int (iI x)), (1, .ref a), (2, .int (iI p))]) hC.1 hC.2.1 d_Po_height_3 rfl hl (by decide) rfl (fun ls hl => ?_)
  refine z_gets hC hE.2.2.2.2.2.2.2.2.2.2.2.1 hS k_159 d_Po_height_4 ?_
  refine lv_iload_n hC.1 hC.2.1 d_Po_height_7 rfl (lv_at hl 0 rfl) ?_
  refine z_tl hC hE.2.2.2.2.2.2.2.2.2.2.2.2 hS (by omega) d_Po_height_8 ?_
  refine lv_aload_n hC.1 hC.2.1 d_Po_height_9 rfl (lv_at hl 2 rfl) ?_
  refine lv_iload_n hC.1 hC.2.1 d_Po_height_10 rfl (lv_at hl 3 rfl) ?_
  refine z_iald hC hK hP 0 rfl (by omega) d_Po_height_11 ?_
  refine z_i2l hC d_Po_height_12 (by have := hF p; omega) ?_
  refine z_lmul hC d_Po_height_13 ?_
  refine z_gets hC hE.2.2.2.2.2.2.2.2.2.2.2.1 hS k_159 d_Po_height_14 ?_
  refine lv_iload_n hC.1 hC.2.1 d_Po_height_17 rfl (lv_at hl 0 rfl) ?_
  refine z_iconst hC d_Po_height_18 ?_
  refine z_iadd hC d_Po_height_19 ?_
  refine z_topi (z := 4 * x + 1) (by omega) ?_
  refine z_tl hC hE.2.2.2.2.2.2.2.2.2.2.2.2 hS (by omega) d_Po_height_20 ?_
  refine lv_aload_n hC.1 hC.2.1 d_Po_height_21 rfl (lv_at hl 2 rfl) ?_
  refine lv_iload_n hC.1 hC.2.1 d_Po_height_22 rfl (lv_at hl 3 rfl) ?_
  refine z_iconst hC d_Po_height_23 ?_
  refine z_iadd hC d_Po_height_24 ?_
  refine z_iald hC hK hP 0 rfl (by omega) d_Po_height_25 ?_
  refine z_i2l hC d_Po_height_26 (by have := hF (p + 1); omega) ?_
  refine z_lmul hC d_Po_height_27 ?_
  refine z_ladd hC d_Po_height_28 ?_
  refine z_topl (z := ((z_RISES (4 * x + 1)) * (F (p + 1))) + ((z_RISES (4 * x)) * (F p))) (by omega) ?_
  refine z_gets hC hE.2.2.2.2.2.2.2.2.2.2.2.1 hS k_159 d_Po_height_29 ?_
  refine lv_iload_n hC.1 hC.2.1 d_Po_height_32 rfl (lv_at hl 0 rfl) ?_
  refine z_iconst hC d_Po_height_33 ?_
  refine z_iadd hC d_Po_height_34 ?_
  refine z_topi (z := 4 * x + 2) (by omega) ?_
  refine z_tl hC hE.2.2.2.2.2.2.2.2.2.2.2.2 hS (by omega) d_Po_height_35 ?_
  refine lv_aload_n hC.1 hC.2.1 d_Po_height_36 rfl (lv_at hl 2 rfl) ?_
  refine lv_iload_n hC.1 hC.2.1 d_Po_height_37 rfl (lv_at hl 3 rfl) ?_
  refine z_iconst hC d_Po_height_38 ?_
  refine z_iadd hC d_Po_height_39 ?_
  refine z_iald hC hK hP 0 rfl (by omega) d_Po_height_40 ?_
  refine z_i2l hC d_Po_height_41 (by have := hF (p + 2); omega) ?_
  refine z_lmul hC d_Po_height_42 ?_
  refine z_ladd hC d_Po_height_43 ?_
  refine z_topl (z := ((z_RISES (4 * x + 1)) * (F (p + 1))) + ((z_RISES (4 * x + 2)) * (F (p + 2))) + ((z_RISES (4 * x)) * (F p))) (by omega) ?_
  refine z_gets hC hE.2.2.2.2.2.2.2.2.2.2.2.1 hS k_159 d_Po_height_44 ?_
  refine lv_iload_n hC.1 hC.2.1 d_Po_height_47 rfl (lv_at hl 0 rfl) ?_
  refine z_iconst hC d_Po_height_48 ?_
  refine z_iadd hC d_Po_height_49 ?_
  refine z_topi (z := 4 * x + 3) (by omega) ?_
  refine z_tl hC hE.2.2.2.2.2.2.2.2.2.2.2.2 hS (by omega) d_Po_height_50 ?_
  refine lv_aload_n hC.1 hC.2.1 d_Po_height_51 rfl (lv_at hl 2 rfl) ?_
  refine lv_iload_n hC.1 hC.2.1 d_Po_height_52 rfl (lv_at hl 3 rfl) ?_
  refine z_iconst hC d_Po_height_53 ?_
  refine z_iadd hC d_Po_height_54 ?_
  refine z_iald hC hK hP 0 rfl (by omega) d_Po_height_55 ?_
  refine z_i2l hC d_Po_height_56 (by have := hF (p + 3); omega) ?_
  refine z_lmul hC d_Po_height_57 ?_
  refine z_ladd hC d_Po_height_58 ?_
  refine z_topl (z := ((z_RISES (4 * x + 1)) * (F (p + 1))) + ((z_RISES (4 * x + 2)) * (F (p + 2))) + ((z_RISES (4 * x + 3)) * (F (p + 3))) + ((z_RISES (4 * x)) * (F p))) (by omega) ?_
  exact retv 59 _ _ d_Po_height_59 (by unfold hZ; omega)
theorem ye_St_apart : ye y_St_apart R_St 2 := by unfold ye; decide +kernel
abbrev rm_St_apart : Room := { frames := 0, cells := 0, slots := 0, locals := 0 }
set_option maxHeartbeats 4000000 in
set_option maxRecDepth 100000 in
theorem c_St_apart (l : Launch) (D : va_G) (t : vt) (ts : Nat → Nat) (o ql qh : Nat) (Lo Hi : Int → Int) (m n : Int) (hm : 0 ≤ m ∧ m < 400) (hn : 0 ≤ n ∧ n < 400) (hLo : bL Lo) (hHi : bL Hi) : Met l y_St_apart (.code y_St_apart b_St_apart 6 (some .boolean) :: tb_ws) rm_St_apart (RoP D t ts [.ref o, .int (iI m), .int (iI n)] [(o, .inr (2, [.ref ql, .ref qh])), (ql, eL t.2.1 2000 Lo), (qh, eL t.2.1 2000 Hi)]) (vp_Si (fun zr => zr = iI (zB (apZ Lo Hi m n)))) 0 0 (fun _ => False) := by
  refine ro_z (by decide +kernel) (Nat.le_of_ble_eq_true rfl) ?_
  intro zp ze zs zm zb zt zc zQ ls hC hP hK hE hl ret
  have hS : va_S (fun _ => False) zs.heap zs.heap [] := va_S.rf
  have hl : lv_has ls 6 [(0, .ref o), (1, .int (iI m)), (2, .int (iI n))] := hl
  have ret1 : ∀ (pc : Nat) (ls : Array Slot), decode b_St_apart pc = .ok (.ireturn, 1) → (apZ Lo Hi m n) = true → W zp l ze rm_St_apart zs zm [.ref o, .int (iI m), .int (iI n)].toArray zb zt zc zs.heap [] 0 0 zQ (F0 zm pc ls [.int (iI 1)]) := fun pc ls d h => by have r := ret pc ls d; rw [h] at r; exact r
  have ret0 : ∀ (pc : Nat) (ls : Array Slot), decode b_St_apart pc = .ok (.ireturn, 1) → (apZ Lo Hi m n) = false → W zp l ze rm_St_apart zs zm [.ref o, .int (iI m), .int (iI n)].toArray zb zt zc zs.heap [] 0 0 zQ (F0 zm pc ls [.int (iI 0)]) := fun pc ls d h => by have r := ret pc ls d; rw [h] at r; exact r
  have retb : ∀ (pc : Nat) (ls : Array Slot), decode b_St_apart pc = .ok (.ireturn, 1) → ∀ zv : Bool, zv = (apZ Lo Hi m n) → W zp l ze rm_St_apart zs zm [.ref o, .int (iI m), .int (iI n)].toArray zb zt zc zs.heap [] 0 0 zQ (F0 zm pc ls [.int (iI (zB zv))]) := fun pc ls d b h => by rw [h]; exact ret pc ls d
  refine lv_iload_n hC.1 hC.2.1 d_St_apart_0 rfl (lv_at hl 1 rfl) ?_
  refine z_iconst hC d_St_apart_1 ?_
  refine z_imul hC d_St_apart_2 ?_
  refine z_topi (z := 5 * m) (by omega) ?_
  refine lv_istore_n (lv' := [(3, .int (iI (5 * m))), (0, .ref o), (1, .int (iI m)), (2, .int (iI n))]) hC.1 hC.2.1 d_St_apart_3 rfl hl (by decide) rfl (fun ls hl => ?_)
  refine lv_iload_n hC.1 hC.2.1 d_St_apart_4 rfl (lv_at hl 3 rfl) ?_
  refine z_iconst hC d_St_apart_5 ?_
  refine z_imul hC d_St_apart_6 ?_
  refine z_topi (z := 5 * n) (by omega) ?_
  refine lv_istore (lv' := [(4, .int (iI (5 * n))), (3, .int (iI (5 * m))), (0, .ref o), (1, .int (iI m)), (2, .int (iI n))]) hC.1 hC.2.1 d_St_apart_7 hl (by decide) rfl (fun ls hl => ?_)
  refine z_iconst hC d_St_apart_9 ?_
  refine lv_istore (lv' := [(5, .int (iI 0)), (4, .int (iI (5 * n))), (3, .int (iI (5 * m))), (0, .ref o), (1, .int (iI m)), (2, .int (iI n))]) hC.1 hC.2.1 d_St_apart_10 hl (by decide) rfl (fun ls hl => ?_)
  have L12 : ∀ (fu : Nat) (k : Int) (ls : Array Slot), 5 - k + 1 ≤ (fu : Int) → (0 ≤ k ∧ k ≤ 5) → (∀ j, 0 ≤ j → j < k → apf Lo Hi m n j = false) → lv_has ls 6 [(5, .int (iI k)), (4, .int (iI (5 * n))), (3, .int (iI (5 * m))), (0, .ref o), (1, .int (iI m)), (2, .int (iI n))] → W zp l ze rm_St_apart zs zm [.ref o, .int (iI m), .int (iI n)].toArray zb zt zc zs.heap [] 0 0 zQ (F0 zm 12 ls []) := by
    intro fu
    induction fu with
    | zero =>
      intro k ls hm12 hk hi hl
      exact absurd hm12 (by omega)
    | succ fu ih12 =>
      intro k ls hm12 hk hi hl
      refine lv_iload hC.1 hC.2.1 d_St_apart_12 (lv_at hl 0 rfl) ?_
      refine z_iconst hC d_St_apart_14 ?_
      refine z_icmp_ge (tgt := 72) hC d_St_apart_15 (by decide) (by omega) (by decide) (fun h15 => ?_) (fun h15 => ?_)
      · refine z_iconst hC d_St_apart_72 ?_
        exact ret0 73 _ d_St_apart_73 (anyZ_f.mpr (fun j h1 h2 => hi j h1 (by omega)))
      · refine lv_aload_n hC.1 hC.2.1 d_St_apart_18 rfl (lv_at hl 3 rfl) ?_
        refine z_get (ci := 2) (C := R_St) (T := F_St) (N := 2) (v := .ref ql) hC in_St hK hP 0 rfl rfl 0 (by decide) k_27 rfl d_St_apart_19 ?_
        refine lv_iload_n hC.1 hC.2.1 d_St_apart_22 rfl (lv_at hl 2 rfl) ?_
        refine lv_iload hC.1 hC.2.1 d_St_apart_23 (lv_at hl 0 rfl) ?_
        refine z_iadd hC d_St_apart_25 ?_
        refine z_topi (z := k + 5 * m) (by omega) ?_
        refine z_lald hC hK hP 1 rfl (by omega) d_St_apart_26 ?_
        refine lv_aload_n hC.1 hC.2.1 d_St_apart_27 rfl (lv_at hl 3 rfl) ?_
        refine z_get (ci := 2) (C := R_St) (T := F_St) (N := 2) (v := .ref qh) hC in_St hK hP 0 rfl rfl 1 (by decide) k_28 rfl d_St_apart_28 ?_
        refine lv_iload hC.1 hC.2.1 d_St_apart_31 (lv_at hl 1 rfl) ?_
        refine lv_iload hC.1 hC.2.1 d_St_apart_33 (lv_at hl 0 rfl) ?_
        refine z_iadd hC d_St_apart_35 ?_
        refine z_topi (z := k + 5 * n) (by omega) ?_
        refine z_lald hC hK hP 2 rfl (by omega) d_St_apart_36 ?_
        refine z_lcmp_gt (tgt := 64) hC d_St_apart_37 d_St_apart_38 (by decide) (by have := hLo (k + 5 * m); omega) (by have := hHi (k + 5 * n); omega) (fun h37 => ?_) (fun h37 => ?_)
        · refine z_iconst hC d_St_apart_64 ?_
          exact ret1 65 _ d_St_apart_65 (anyZ_t (k := k) (by omega) (by omega) (by unfold apf; simp; omega))
        · refine lv_aload_n hC.1 hC.2.1 d_St_apart_41 rfl (lv_at hl 3 rfl) ?_
          refine z_get (ci := 2) (C := R_St) (T := F_St) (N := 2) (v := .ref ql) hC in_St hK hP 0 rfl rfl 0 (by decide) k_27 rfl d_St_apart_42 ?_
          refine lv_iload hC.1 hC.2.1 d_St_apart_45 (lv_at hl 1 rfl) ?_
          refine lv_iload hC.1 hC.2.1 d_St_apart_47 (lv_at hl 0 rfl) ?_
          refine z_iadd hC d_St_apart_49 ?_
          refine z_topi (z := k + 5 * n) (by omega) ?_
          refine z_lald hC hK hP 1 rfl (by omega) d_St_apart_50 ?_
          refine lv_aload_n hC.1 hC.2.1 d_St_apart_51 rfl (lv_at hl 3 rfl) ?_
          refine z_get (ci := 2) (C := R_St) (T := F_St) (N := 2) (v := .ref qh) hC in_St hK hP 0 rfl rfl 1 (by decide) k_28 rfl d_St_apart_52 ?_
          refine lv_iload_n hC.1 hC.2.1 d_St_apart_55 rfl (lv_at hl 2 rfl) ?_
          refine lv_iload hC.1 hC.2.1 d_St_apart_56 (lv_at hl 0 rfl) ?_
          refine z_iadd hC d_St_apart_58 ?_
          refine z_topi (z := k + 5 * m) (by omega) ?_
          refine z_lald hC hK hP 2 rfl (by omega) d_St_apart_59 ?_
          refine z_lcmp_le (tgt := 66) hC d_St_apart_60 d_St_apart_61 (by decide) (by have := hLo (k + 5 * n); omega) (by have := hHi (k + 5 * m); omega) (fun h60 => ?_) (fun h60 => ?_)
          · refine lv_iinc (v := iI (k + 1)) (lv' := [(5, .int (iI (k + 1))), (4, .int (iI (5 * n))), (3, .int (iI (5 * m))), (0, .ref o), (1, .int (iI m)), (2, .int (iI n))]) hC.1 hC.2.1 d_St_apart_66 hl (k := 0) rfl (z_inc (by omega)) (by decide) rfl (fun ls hl => ?_)
            refine z_goto (tgt := 12) hC d_St_apart_69 (by decide) ?_
            exact ih12 (k + 1) _ (by omega) (by omega) (stepF hi (by unfold apf; simp; omega)) (lv_sub hl [0, 1, 2, 3, 4, 5] rfl)
          · refine z_iconst hC d_St_apart_64 ?_
            exact ret1 65 _ d_St_apart_65 (anyZ_t (k := k) (by omega) (by omega) (by unfold apf; simp; omega))
  exact L12 (5 - 0 + 1 : Int).toNat 0 _ (by omega) (by omega) (by intro j _ _; omega) (lv_sub hl [0, 1, 2, 3, 4, 5] rfl)
theorem ye_St_overlap : ye y_St_overlap R_St 2 := by unfold ye; decide +kernel
abbrev rm_St_overlap : Room := { frames := 0, cells := 0, slots := 0, locals := 0 }
set_option maxHeartbeats 4000000 in
set_option maxRecDepth 100000 in
theorem c_St_overlap (l : Launch) (D : va_G) (t : vt) (ts : Nat → Nat) (o ql qh : Nat) (Lo Hi : Int → Int) (m n : Int) (hm : 0 ≤ m ∧ m < 400) (hn : 0 ≤ n ∧ n < 400) (hLo : bL Lo) (hHi : bL Hi) : Met l y_St_overlap (.code y_St_overlap b_St_overlap 6 (some .boolean) :: tb_ws) rm_St_overlap (RoP D t ts [.ref o, .int (iI m), .int (iI n)] [(o, .inr (2, [.ref ql, .ref qh])), (ql, eL t.2.1 2000 Lo), (qh, eL t.2.1 2000 Hi)]) (vp_Si (fun zr => zr = iI (zB (ovZ Lo Hi m n)))) 0 0 (fun _ => False) := by
  refine ro_z (by decide +kernel) (Nat.le_of_ble_eq_true rfl) ?_
  intro zp ze zs zm zb zt zc zQ ls hC hP hK hE hl ret
  have hS : va_S (fun _ => False) zs.heap zs.heap [] := va_S.rf
  have hl : lv_has ls 6 [(0, .ref o), (1, .int (iI m)), (2, .int (iI n))] := hl
  have ret1 : ∀ (pc : Nat) (ls : Array Slot), decode b_St_overlap pc = .ok (.ireturn, 1) → (ovZ Lo Hi m n) = true → W zp l ze rm_St_overlap zs zm [.ref o, .int (iI m), .int (iI n)].toArray zb zt zc zs.heap [] 0 0 zQ (F0 zm pc ls [.int (iI 1)]) := fun pc ls d h => by have r := ret pc ls d; rw [h] at r; exact r
  have ret0 : ∀ (pc : Nat) (ls : Array Slot), decode b_St_overlap pc = .ok (.ireturn, 1) → (ovZ Lo Hi m n) = false → W zp l ze rm_St_overlap zs zm [.ref o, .int (iI m), .int (iI n)].toArray zb zt zc zs.heap [] 0 0 zQ (F0 zm pc ls [.int (iI 0)]) := fun pc ls d h => by have r := ret pc ls d; rw [h] at r; exact r
  have retb : ∀ (pc : Nat) (ls : Array Slot), decode b_St_overlap pc = .ok (.ireturn, 1) → ∀ zv : Bool, zv = (ovZ Lo Hi m n) → W zp l ze rm_St_overlap zs zm [.ref o, .int (iI m), .int (iI n)].toArray zb zt zc zs.heap [] 0 0 zQ (F0 zm pc ls [.int (iI (zB zv))]) := fun pc ls d b h => by rw [h]; exact ret pc ls d
  refine lv_iload_n hC.1 hC.2.1 d_St_overlap_0 rfl (lv_at hl 1 rfl) ?_
  refine z_iconst hC d_St_overlap_1 ?_
  refine z_imul hC d_St_overlap_2 ?_
  refine z_topi (z := 5 * m) (by omega) ?_
  refine lv_istore_n (lv' := [(3, .int (iI (5 * m))), (0, .ref o), (1, .int (iI m)), (2, .int (iI n))]) hC.1 hC.2.1 d_St_overlap_3 rfl hl (by decide) rfl (fun ls hl => ?_)
  refine lv_iload_n hC.1 hC.2.1 d_St_overlap_4 rfl (lv_at hl 3 rfl) ?_
  refine z_iconst hC d_St_overlap_5 ?_
  refine z_imul hC d_St_overlap_6 ?_
  refine z_topi (z := 5 * n) (by omega) ?_
  refine lv_istore (lv' := [(4, .int (iI (5 * n))), (3, .int (iI (5 * m))), (0, .ref o), (1, .int (iI m)), (2, .int (iI n))]) hC.1 hC.2.1 d_St_overlap_7 hl (by decide) rfl (fun ls hl => ?_)
  refine z_iconst hC d_St_overlap_9 ?_
  refine lv_istore (lv' := [(5, .int (iI 0)), (4, .int (iI (5 * n))), (3, .int (iI (5 * m))), (0, .ref o), (1, .int (iI m)), (2, .int (iI n))]) hC.1 hC.2.1 d_St_overlap_10 hl (by decide) rfl (fun ls hl => ?_)
  have L12 : ∀ (fu : Nat) (k : Int) (ls : Array Slot), 5 - k + 1 ≤ (fu : Int) → (0 ≤ k ∧ k ≤ 5) → (∀ j, 0 ≤ j → j < k → ovf Lo Hi m n j = false) → lv_has ls 6 [(5, .int (iI k)), (4, .int (iI (5 * n))), (3, .int (iI (5 * m))), (0, .ref o), (1, .int (iI m)), (2, .int (iI n))] → W zp l ze rm_St_overlap zs zm [.ref o, .int (iI m), .int (iI n)].toArray zb zt zc zs.heap [] 0 0 zQ (F0 zm 12 ls []) := by
    intro fu
    induction fu with
    | zero =>
      intro k ls hm12 hk hi hl
      exact absurd hm12 (by omega)
    | succ fu ih12 =>
      intro k ls hm12 hk hi hl
      refine lv_iload hC.1 hC.2.1 d_St_overlap_12 (lv_at hl 0 rfl) ?_
      refine z_iconst hC d_St_overlap_14 ?_
      refine z_icmp_ge (tgt := 72) hC d_St_overlap_15 (by decide) (by omega) (by decide) (fun h15 => ?_) (fun h15 => ?_)
      · refine z_iconst hC d_St_overlap_72 ?_
        exact ret1 73 _ d_St_overlap_73 (by unfold ovZ; rw [anyZ_f.mpr (fun j h1 h2 => hi j h1 (by omega))]; rfl)
      · refine lv_aload_n hC.1 hC.2.1 d_St_overlap_18 rfl (lv_at hl 3 rfl) ?_
        refine z_get (ci := 2) (C := R_St) (T := F_St) (N := 2) (v := .ref ql) hC in_St hK hP 0 rfl rfl 0 (by decide) k_27 rfl d_St_overlap_19 ?_
        refine lv_iload_n hC.1 hC.2.1 d_St_overlap_22 rfl (lv_at hl 2 rfl) ?_
        refine lv_iload hC.1 hC.2.1 d_St_overlap_23 (lv_at hl 0 rfl) ?_
        refine z_iadd hC d_St_overlap_25 ?_
        refine z_topi (z := k + 5 * m) (by omega) ?_
        refine z_lald hC hK hP 1 rfl (by omega) d_St_overlap_26 ?_
        refine lv_aload_n hC.1 hC.2.1 d_St_overlap_27 rfl (lv_at hl 3 rfl) ?_
        refine z_get (ci := 2) (C := R_St) (T := F_St) (N := 2) (v := .ref qh) hC in_St hK hP 0 rfl rfl 1 (by decide) k_28 rfl d_St_overlap_28 ?_
        refine lv_iload hC.1 hC.2.1 d_St_overlap_31 (lv_at hl 1 rfl) ?_
        refine lv_iload hC.1 hC.2.1 d_St_overlap_33 (lv_at hl 0 rfl) ?_
        refine z_iadd hC d_St_overlap_35 ?_
        refine z_topi (z := k + 5 * n) (by omega) ?_
        refine z_lald hC hK hP 2 rfl (by omega) d_St_overlap_36 ?_
        refine z_lcmp_ge (tgt := 64) hC d_St_overlap_37 d_St_overlap_38 (by decide) (by have := hLo (k + 5 * m); omega) (by have := hHi (k + 5 * n); omega) (fun h37 => ?_) (fun h37 => ?_)
        · refine z_iconst hC d_St_overlap_64 ?_
          exact ret0 65 _ d_St_overlap_65 (by unfold ovZ; rw [anyZ_t (k := k) (by omega) (by omega) (by unfold ovf; simp; omega)]; rfl)
        · refine lv_aload_n hC.1 hC.2.1 d_St_overlap_41 rfl (lv_at hl 3 rfl) ?_
          refine z_get (ci := 2) (C := R_St) (T := F_St) (N := 2) (v := .ref ql) hC in_St hK hP 0 rfl rfl 0 (by decide) k_27 rfl d_St_overlap_42 ?_
          refine lv_iload hC.1 hC.2.1 d_St_overlap_45 (lv_at hl 1 rfl) ?_
          refine lv_iload hC.1 hC.2.1 d_St_overlap_47 (lv_at hl 0 rfl) ?_
          refine z_iadd hC d_St_overlap_49 ?_
          refine z_topi (z := k + 5 * n) (by omega) ?_
          refine z_lald hC hK hP 1 rfl (by omega) d_St_overlap_50 ?_
          refine lv_aload_n hC.1 hC.2.1 d_St_overlap_51 rfl (lv_at hl 3 rfl) ?_
          refine z_get (ci := 2) (C := R_St) (T := F_St) (N := 2) (v := .ref qh) hC in_St hK hP 0 rfl rfl 1 (by decide) k_28 rfl d_St_overlap_52 ?_
          refine lv_iload_n hC.1 hC.2.1 d_St_overlap_55 rfl (lv_at hl 2 rfl) ?_
          refine lv_iload hC.1 hC.2.1 d_St_overlap_56 (lv_at hl 0 rfl) ?_
          refine z_iadd hC d_St_overlap_58 ?_
          refine z_topi (z := k + 5 * m) (by omega) ?_
          refine z_lald hC hK hP 2 rfl (by omega) d_St_overlap_59 ?_
          refine z_lcmp_lt (tgt := 66) hC d_St_overlap_60 d_St_overlap_61 (by decide) (by have := hLo (k + 5 * n); omega) (by have := hHi (k + 5 * m); omega) (fun h60 => ?_) (fun h60 => ?_)
          · refine lv_iinc (v := iI (k + 1)) (lv' := [(5, .int (iI (k + 1))), (4, .int (iI (5 * n))), (3, .int (iI (5 * m))), (0, .ref o), (1, .int (iI m)), (2, .int (iI n))]) hC.1 hC.2.1 d_St_overlap_66 hl (k := 0) rfl (z_inc (by omega)) (by decide) rfl (fun ls hl => ?_)
            refine z_goto (tgt := 12) hC d_St_overlap_69 (by decide) ?_
            exact ih12 (k + 1) _ (by omega) (by omega) (stepF hi (by unfold ovf; simp; omega)) (lv_sub hl [0, 1, 2, 3, 4, 5] rfl)
          · refine z_iconst hC d_St_overlap_64 ?_
            exact ret0 65 _ d_St_overlap_65 (by unfold ovZ; rw [anyZ_t (k := k) (by omega) (by omega) (by unfold ovf; simp; omega)]; rfl)
  exact L12 (5 - 0 + 1 : Int).toNat 0 _ (by omega) (by omega) (by intro j _ _; omega) (lv_sub hl [0, 1, 2, 3, 4, 5] rfl)
theorem ye_St_hold : ye y_St_hold R_St 2 := by unfold ye; decide +kernel
abbrev rm_St_hold : Room := { frames := 0, cells := 0, slots := 0, locals := 0 }
set_option maxHeartbeats 4000000 in
set_option maxRecDepth 100000 in
theorem c_St_hold (l : Launch) (D : va_G) (t : vt) (ts : Nat → Nat) (o ql qh : Nat) (Lo Hi : Int → Int) (b : Nat) (hs : Int → Int) (n : Int) (hn : 0 ≤ n ∧ n < 400) (hLo : bL Lo) (hHi : bL Hi) (hhs : bL hs) : Met l y_St_hold (.code y_St_hold b_St_hold 6 (some .boolean) :: tb_ws) rm_St_hold (RoP D t ts [.ref o, .int (iI n), .ref b] [(o, .inr (2, [.ref ql, .ref qh])), (ql, eL t.2.1 2000 Lo), (qh, eL t.2.1 2000 Hi), (b, eL t.2.1 5 hs)]) (vp_Si (fun zr => zr = iI (zB (hoZ Lo Hi hs n)))) 0 0 (fun _ => False) := by
  refine ro_z (by decide +kernel) (Nat.le_of_ble_eq_true rfl) ?_
  intro zp ze zs zm zb zt zc zQ ls hC hP hK hE hl ret
  have hS : va_S (fun _ => False) zs.heap zs.heap [] := va_S.rf
  have hl : lv_has ls 6 [(0, .ref o), (1, .int (iI n)), (2, .ref b)] := hl
  have ret1 : ∀ (pc : Nat) (ls : Array Slot), decode b_St_hold pc = .ok (.ireturn, 1) → (hoZ Lo Hi hs n) = true → W zp l ze rm_St_hold zs zm [.ref o, .int (iI n), .ref b].toArray zb zt zc zs.heap [] 0 0 zQ (F0 zm pc ls [.int (iI 1)]) := fun pc ls d h => by have r := ret pc ls d; rw [h] at r; exact r
  have ret0 : ∀ (pc : Nat) (ls : Array Slot), decode b_St_hold pc = .ok (.ireturn, 1) → (hoZ Lo Hi hs n) = false → W zp l ze rm_St_hold zs zm [.ref o, .int (iI n), .ref b].toArray zb zt zc zs.heap [] 0 0 zQ (F0 zm pc ls [.int (iI 0)]) := fun pc ls d h => by have r := ret pc ls d; rw [h] at r; exact r
  have retb : ∀ (pc : Nat) (ls : Array Slot), decode b_St_hold pc = .ok (.ireturn, 1) → ∀ zv : Bool, zv = (hoZ Lo Hi hs n) → W zp l ze rm_St_hold zs zm [.ref o, .int (iI n), .ref b].toArray zb zt zc zs.heap [] 0 0 zQ (F0 zm pc ls [.int (iI (zB zv))]) := fun pc ls d b h => by rw [h]; exact ret pc ls d
  refine z_iconst hC d_St_hold_0 ?_
  refine lv_istore_n (lv' := [(3, .int (iI 0)), (0, .ref o), (1, .int (iI n)), (2, .ref b)]) hC.1 hC.2.1 d_St_hold_1 rfl hl (by decide) rfl (fun ls hl => ?_)
  have L2 : ∀ (fu : Nat) (k : Int) (ls : Array Slot), 5 - k + 1 ≤ (fu : Int) → (0 ≤ k ∧ k ≤ 5) → (∀ j, 0 ≤ j → j < k → hof Lo Hi hs n j = false) → lv_has ls 6 [(3, .int (iI k)), (0, .ref o), (1, .int (iI n)), (2, .ref b)] → W zp l ze rm_St_hold zs zm [.ref o, .int (iI n), .ref b].toArray zb zt zc zs.heap [] 0 0 zQ (F0 zm 2 ls []) := by
    intro fu
    induction fu with
    | zero =>
      intro k ls hm2 hk hi hl
      exact absurd hm2 (by omega)
    | succ fu ih2 =>
      intro k ls hm2 hk hi hl
      refine lv_iload_n hC.1 hC.2.1 d_St_hold_2 rfl (lv_at hl 0 rfl) ?_
      refine z_iconst hC d_St_hold_3 ?_
      refine z_icmp_ge (tgt := 52) hC d_St_hold_4 (by decide) (by omega) (by decide) (fun h4 => ?_) (fun h4 => ?_)
      · refine z_iconst hC d_St_hold_52 ?_
        exact ret1 53 _ d_St_hold_53 (by unfold hoZ; rw [anyZ_f.mpr (fun j h1 h2 => hi j h1 (by omega))]; rfl)
      · refine lv_aload_n hC.1 hC.2.1 d_St_hold_7 rfl (lv_at hl 3 rfl) ?_
        refine lv_iload_n hC.1 hC.2.1 d_St_hold_8 rfl (lv_at hl 0 rfl) ?_
        refine z_lald hC hK hP 3 rfl (by omega) d_St_hold_9 ?_
        refine lv_lstore (lv' := [(4, .long (lI (hs k))), (3, .int (iI k)), (0, .ref o), (1, .int (iI n)), (2, .ref b)]) hC.1 hC.2.1 d_St_hold_10 hl (by decide) rfl (fun ls hl => ?_)
        refine lv_lload hC.1 hC.2.1 d_St_hold_12 (lv_at hl 0 rfl) ?_
        refine lv_aload_n hC.1 hC.2.1 d_St_hold_14 rfl (lv_at hl 2 rfl) ?_
        refine z_get (ci := 2) (C := R_St) (T := F_St) (N := 2) (v := .ref ql) hC in_St hK hP 0 rfl rfl 0 (by decide) k_27 rfl d_St_hold_15 ?_
        refine lv_iload_n hC.1 hC.2.1 d_St_hold_18 rfl (lv_at hl 3 rfl) ?_
        refine z_iconst hC d_St_hold_19 ?_
        refine z_imul hC d_St_hold_20 ?_
        refine z_topi (z := 5 * n) (by omega) ?_
        refine lv_iload_n hC.1 hC.2.1 d_St_hold_21 rfl (lv_at hl 1 rfl) ?_
        refine z_iadd hC d_St_hold_22 ?_
        refine z_topi (z := k + 5 * n) (by omega) ?_
        refine z_lald hC hK hP 1 rfl (by omega) d_St_hold_23 ?_
        refine z_lcmp_lt (tgt := 44) hC d_St_hold_24 d_St_hold_25 (by decide) (by have := hhs k; omega) (by have := hLo (k + 5 * n); omega) (fun h24 => ?_) (fun h24 => ?_)
        · refine z_iconst hC d_St_hold_44 ?_
          exact ret0 45 _ d_St_hold_45 (by unfold hoZ; rw [anyZ_t (k := k) (by omega) (by omega) (by unfold hof; simp; omega)]; rfl)
        · refine lv_lload hC.1 hC.2.1 d_St_hold_28 (lv_at hl 0 rfl) ?_
          refine lv_aload_n hC.1 hC.2.1 d_St_hold_30 rfl (lv_at hl 2 rfl) ?_
          refine z_get (ci := 2) (C := R_St) (T := F_St) (N := 2) (v := .ref qh) hC in_St hK hP 0 rfl rfl 1 (by decide) k_28 rfl d_St_hold_31 ?_
          refine lv_iload_n hC.1 hC.2.1 d_St_hold_34 rfl (lv_at hl 3 rfl) ?_
          refine z_iconst hC d_St_hold_35 ?_
          refine z_imul hC d_St_hold_36 ?_
          refine z_topi (z := 5 * n) (by omega) ?_
          refine lv_iload_n hC.1 hC.2.1 d_St_hold_37 rfl (lv_at hl 1 rfl) ?_
          refine z_iadd hC d_St_hold_38 ?_
          refine z_topi (z := k + 5 * n) (by omega) ?_
          refine z_lald hC hK hP 2 rfl (by omega) d_St_hold_39 ?_
          refine z_lcmp_le (tgt := 46) hC d_St_hold_40 d_St_hold_41 (by decide) (by have := hhs k; omega) (by have := hHi (k + 5 * n); omega) (fun h40 => ?_) (fun h40 => ?_)
          · refine lv_iinc (v := iI (k + 1)) (lv' := [(3, .int (iI (k + 1))), (4, .long (lI (hs k))), (0, .ref o), (1, .int (iI n)), (2, .ref b)]) hC.1 hC.2.1 d_St_hold_46 hl (k := 1) rfl (z_inc (by omega)) (by decide) rfl (fun ls hl => ?_)
            refine z_goto (tgt := 2) hC d_St_hold_49 (by decide) ?_
            exact ih2 (k + 1) _ (by omega) (by omega) (stepF hi (by unfold hof; simp; omega)) (lv_sub hl [0, 2, 3, 4] rfl)
          · refine z_iconst hC d_St_hold_44 ?_
            exact ret0 45 _ d_St_hold_45 (by unfold hoZ; rw [anyZ_t (k := k) (by omega) (by omega) (by unfold hof; simp; omega)]; rfl)
  exact L2 (5 - 0 + 1 : Int).toNat 0 _ (by omega) (by omega) (by intro j _ _; omega) (lv_sub hl [0, 1, 2, 3] rfl)
theorem ye_Ha_has : ye y_Ha_has R_Ha 2 := by unfold ye; decide +kernel
abbrev rm_Ha_has : Room := { frames := 0, cells := 0, slots := 0, locals := 0 }
set_option maxHeartbeats 4000000 in
set_option maxRecDepth 100000 in
theorem c_Ha_has (l : Launch) (D : va_G) (t : vt) (ts : Nat → Nat) (o qt qn : Nat) (z n c : Int) (hz : 0 ≤ z ∧ z ≤ 400) (hn : inI n) (hc : inI c) : Met l y_Ha_has (.code y_Ha_has b_Ha_has 3 (some .boolean) :: tb_ws) rm_Ha_has (RoP D t ts [.ref o, .int (iI n), .int (iI c)] [(o, .inr (0, [.ref qt, .ref qn, .int (iI z)]))]) (vp_Si (fun zr => zr = iI (zB (hasZ z n c)))) 0 0 (fun _ => False) := by
  refine ro_z (by decide +kernel) (Nat.le_of_ble_eq_true rfl) ?_
  intro zp ze zs zm zb zt zc zQ ls hC hP hK hE hl ret
  have hS : va_S (fun _ => False) zs.heap zs.heap [] := va_S.rf
  have hl : lv_has ls 3 [(0, .ref o), (1, .int (iI n)), (2, .int (iI c))] := hl
  have ret1 : ∀ (pc : Nat) (ls : Array Slot), decode b_Ha_has pc = .ok (.ireturn, 1) → (hasZ z n c) = true → W zp l ze rm_Ha_has zs zm [.ref o, .int (iI n), .int (iI c)].toArray zb zt zc zs.heap [] 0 0 zQ (F0 zm pc ls [.int (iI 1)]) := fun pc ls d h => by have r := ret pc ls d; rw [h] at r; exact r
  have ret0 : ∀ (pc : Nat) (ls : Array Slot), decode b_Ha_has pc = .ok (.ireturn, 1) → (hasZ z n c) = false → W zp l ze rm_Ha_has zs zm [.ref o, .int (iI n), .int (iI c)].toArray zb zt zc zs.heap [] 0 0 zQ (F0 zm pc ls [.int (iI 0)]) := fun pc ls d h => by have r := ret pc ls d; rw [h] at r; exact r
  have retb : ∀ (pc : Nat) (ls : Array Slot), decode b_Ha_has pc = .ok (.ireturn, 1) → ∀ zv : Bool, zv = (hasZ z n c) → W zp l ze rm_Ha_has zs zm [.ref o, .int (iI n), .int (iI c)].toArray zb zt zc zs.heap [] 0 0 zQ (F0 zm pc ls [.int (iI (zB zv))]) := fun pc ls d b h => by rw [h]; exact ret pc ls d
  refine lv_iload_n hC.1 hC.2.1 d_Ha_has_0 rfl (lv_at hl 1 rfl) ?_
  refine z_if_lt (tgt := 25) hC d_Ha_has_1 (by decide) (by omega) (fun h1 => ?_) (fun h1 => ?_)
  · refine z_iconst hC d_Ha_has_25 ?_
    exact ret0 26 _ d_Ha_has_26 (by unfold hasZ; simp; omega)
  · refine lv_iload_n hC.1 hC.2.1 d_Ha_has_4 rfl (lv_at hl 1 rfl) ?_
    refine lv_aload_n hC.1 hC.2.1 d_Ha_has_5 rfl (lv_at hl 0 rfl) ?_
    refine z_get (ci := 0) (C := R_Ha) (T := F_Ha) (N := 3) (v := .int (iI z)) hC in_Ha hK hP 0 rfl rfl 2 (by decide) k_87 rfl d_Ha_has_6 ?_
    refine z_icmp_ge (tgt := 25) hC d_Ha_has_9 (by decide) (by omega) (by omega) (fun h9 => ?_) (fun h9 => ?_)
    · refine z_iconst hC d_Ha_has_25 ?_
      exact ret0 26 _ d_Ha_has_26 (by unfold hasZ; simp; omega)
    · refine lv_iload_n hC.1 hC.2.1 d_Ha_has_12 rfl (lv_at hl 2 rfl) ?_
      refine z_if_lt (tgt := 25) hC d_Ha_has_13 (by decide) (by omega) (fun h13 => ?_) (fun h13 => ?_)
      · refine z_iconst hC d_Ha_has_25 ?_
        exact ret0 26 _ d_Ha_has_26 (by unfold hasZ; simp; omega)
      · refine lv_iload_n hC.1 hC.2.1 d_Ha_has_16 rfl (lv_at hl 2 rfl) ?_
        refine z_iconst hC d_Ha_has_17 ?_
        refine z_icmp_gt (tgt := 25) hC d_Ha_has_18 (by decide) (by omega) (by decide) (fun h18 => ?_) (fun h18 => ?_)
        · refine z_iconst hC d_Ha_has_25 ?_
          exact ret0 26 _ d_Ha_has_26 (by unfold hasZ; simp; omega)
        · refine z_iconst hC d_Ha_has_21 ?_
          refine z_goto (tgt := 26) hC d_Ha_has_22 (by decide) ?_
          exact ret1 26 _ d_Ha_has_26 (by unfold hasZ; simp; omega)
theorem ye_Ha_samePoint : ye y_Ha_samePoint R_Ha 4 := by unfold ye; decide +kernel
abbrev rm_Ha_samePoint : Room := { frames := 1, cells := 0, slots := 0, locals := 22 }
set_option maxHeartbeats 4000000 in
set_option maxRecDepth 100000 in
theorem c_Ha_samePoint (l : Launch) (D : va_G) (t : vt) (ts : Nat → Nat) (o qt qn : Nat) (z : Int) (F : Int → Int) (n c m d i j : Int) (hn : 0 ≤ n ∧ n < 400) (hc : 0 ≤ c ∧ c ≤ 2) (hm : 0 ≤ m ∧ m < 400) (hd : 0 ≤ d ∧ d ≤ 2) (ei : i = 4 * c + 12 * n) (ej : j = 4 * d + 12 * m) (hF : bF F) : Met l y_Ha_samePoint (.code y_Ha_samePoint b_Ha_samePoint 5 (some .boolean) :: tb_ws) rm_Ha_samePoint (RoP D t ts [.ref o, .int (iI n), .int (iI c), .int (iI m), .int (iI d)] [(o, .inr (0, [.ref qt, .ref qn, .int (iI z)])), (qn, eI t.1 4800 F)]) (vp_Si (fun zr => zr = iI (zB (pS F i j)))) 0 0 (fun _ => False) := by
  refine ro_z (by decide +kernel) (Nat.le_of_ble_eq_true rfl) ?_
  intro zp ze zs zm zb zt zc zQ ls hC hP hK hE hl ret
  have hS : va_S (fun _ => False) zs.heap zs.heap [] := va_S.rf
  have hl : lv_has ls 5 [(0, .ref o), (1, .int (iI n)), (2, .int (iI c)), (3, .int (iI m)), (4, .int (iI d))] := hl
  have ret1 : ∀ (pc : Nat) (ls : Array Slot), decode b_Ha_samePoint pc = .ok (.ireturn, 1) → (pS F i j) = true → W zp l ze rm_Ha_samePoint zs zm [.ref o, .int (iI n), .int (iI c), .int (iI m), .int (iI d)].toArray zb zt zc zs.heap [] 0 0 zQ (F0 zm pc ls [.int (iI 1)]) := fun pc ls d h => by have r := ret pc ls d; rw [h] at r; exact r
  have ret0 : ∀ (pc : Nat) (ls : Array Slot), decode b_Ha_samePoint pc = .ok (.ireturn, 1) → (pS F i j) = false → W zp l ze rm_Ha_samePoint zs zm [.ref o, .int (iI n), .int (iI c), .int (iI m), .int (iI d)].toArray zb zt zc zs.heap [] 0 0 zQ (F0 zm pc ls [.int (iI 0)]) := fun pc ls d h => by have r := ret pc ls d; rw [h] at r; exact r
  have retb : ∀ (pc : Nat) (ls : Array Slot), decode b_Ha_samePoint pc = .ok (.ireturn, 1) → ∀ zv : Bool, zv = (pS F i j) → W zp l ze rm_Ha_samePoint zs zm [.ref o, .int (iI n), .int (iI c), .int (iI m), .int (iI d)].toArray zb zt zc zs.heap [] 0 0 zQ (F0 zm pc ls [.int (iI (zB zv))]) := fun pc ls d b h => by rw [h]; exact ret pc ls d
  refine lv_aload_n hC.1 hC.2.1 d_Ha_samePoint_0 rfl (lv_at hl 0 rfl) ?_
  refine z_get (ci := 0) (C := R_Ha) (T := F_Ha) (N := 3) (v := .ref qn) hC in_Ha hK hP 0 rfl rfl 1 (by decide) k_84 rfl d_Ha_samePoint_1 ?_
  refine lv_iload_n hC.1 hC.2.1 d_Ha_samePoint_4 rfl (lv_at hl 1 rfl) ?_
  refine lv_iload_n hC.1 hC.2.1 d_Ha_samePoint_5 rfl (lv_at hl 2 rfl) ?_
  refine z_roSi (As := [.int (iI n), .int (iI c)]) (rest := [.ref qn]) hC (c_Ha_at l D t ts n c (4 * c + 12 * n) (by omega)) (cw_S hC k_141 k_142 k_5 k_143 ye_Ha_at (by decide)) hP hK hE hS [] rfl rfl hl.1 rfl (Nat.le_of_ble_eq_true rfl) ⟨Nat.le_of_ble_eq_true rfl, Nat.le_of_ble_eq_true rfl⟩ d_Ha_samePoint_6 ?_
  refine lv_iload_n hC.1 hC.2.1 d_Ha_samePoint_9 rfl (lv_at hl 3 rfl) ?_
  refine lv_iload hC.1 hC.2.1 d_Ha_samePoint_10 (lv_at hl 4 rfl) ?_
  refine z_roSi (As := [.int (iI m), .int (iI d)]) (rest := [.int (iI (4 * c + 12 * n)), .ref qn]) hC (c_Ha_at l D t ts m d (4 * d + 12 * m) (by omega)) (cw_S hC k_141 k_142 k_5 k_143 ye_Ha_at (by decide)) hP hK hE hS [] rfl rfl hl.1 rfl (Nat.le_of_ble_eq_true rfl) ⟨Nat.le_of_ble_eq_true rfl, Nat.le_of_ble_eq_true rfl⟩ d_Ha_samePoint_12 ?_
  refine z_roSi (As := [.ref qn, .int (iI (4 * c + 12 * n)), .int (iI (4 * d + 12 * m))]) (rest := []) hC (c_Po_same l D t ts qn 4800 F (4 * c + 12 * n) (4 * d + 12 * m) (by decide) (by omega) (by omega) hF) (cw_S hC k_295 k_221 k_8 k_222 ye_Po_same (by decide)) hP hK hE hS [1] rfl rfl hl.1 rfl (Nat.le_of_ble_eq_true rfl) ⟨Nat.le_of_ble_eq_true rfl, Nat.le_of_ble_eq_true rfl⟩ d_Ha_samePoint_15 ?_
  exact retb 18 _ d_Ha_samePoint_18 _ (by rw [ei, ej])
theorem ye_Ha_cornerAt : ye y_Ha_cornerAt R_Ha 3 := by unfold ye; decide +kernel
abbrev rm_Ha_cornerAt : Room := { frames := 2, cells := 0, slots := 0, locals := 46 }
set_option maxHeartbeats 4000000 in
set_option maxRecDepth 100000 in
theorem c_Ha_cornerAt (l : Launch) (D : va_G) (t : vt) (ts : Nat → Nat) (o qt qn : Nat) (z : Int) (F : Int → Int) (m n c : Int) (hm : 0 ≤ m ∧ m < 400) (hn : 0 ≤ n ∧ n < 400) (hc : 0 ≤ c ∧ c ≤ 2) (hF : bF F) : Met l y_Ha_cornerAt (.code y_Ha_cornerAt b_Ha_cornerAt 5 (some .int) :: tb_ws) rm_Ha_cornerAt (RoP D t ts [.ref o, .int (iI m), .int (iI n), .int (iI c)] [(o, .inr (0, [.ref qt, .ref qn, .int (iI z)])), (qn, eI t.1 4800 F)]) (vp_Si (fun zr => zr = iI (cAt F m n c))) 0 0 (fun _ => False) := by
  refine ro_i (by decide +kernel) (Nat.le_of_ble_eq_true rfl) ?_
  intro zp ze zs zm zb zt zc zQ ls hC hP hK hE hl ret
  have hS : va_S (fun _ => False) zs.heap zs.heap [] := va_S.rf
  have hl : lv_has ls 5 [(0, .ref o), (1, .int (iI m)), (2, .int (iI n)), (3, .int (iI c))] := hl
  have retv : ∀ (pc : Nat) (ls : Array Slot) (zv : Int), decode b_Ha_cornerAt pc = .ok (.ireturn, 1) → zv = (cAt F m n c) → W zp l ze rm_Ha_cornerAt zs zm [.ref o, .int (iI m), .int (iI n), .int (iI c)].toArray zb zt zc zs.heap [] 0 0 zQ (F0 zm pc ls [.int (iI zv)]) := fun pc ls v d h => by rw [h]; exact ret pc ls d
  refine z_iconst hC d_Ha_cornerAt_0 ?_
  refine lv_istore (lv' := [(4, .int (iI 0)), (0, .ref o), (1, .int (iI m)), (2, .int (iI n)), (3, .int (iI c))]) hC.1 hC.2.1 d_Ha_cornerAt_1 hl (by decide) rfl (fun ls hl => ?_)
  refine lv_iload hC.1 hC.2.1 d_Ha_cornerAt_3 (lv_at hl 0 rfl) ?_
  refine z_iconst hC d_Ha_cornerAt_5 ?_
  refine z_icmp_ge (tgt := 30) hC d_Ha_cornerAt_6 (by decide) (by decide) (by decide) (fun h => absurd h (by decide)) (fun _ => ?_)
  refine lv_aload_n hC.1 hC.2.1 d_Ha_cornerAt_9 rfl (lv_at hl 1 rfl) ?_
  refine lv_iload_n hC.1 hC.2.1 d_Ha_cornerAt_10 rfl (lv_at hl 2 rfl) ?_
  refine lv_iload hC.1 hC.2.1 d_Ha_cornerAt_11 (lv_at hl 0 rfl) ?_
  refine lv_iload_n hC.1 hC.2.1 d_Ha_cornerAt_13 rfl (lv_at hl 3 rfl) ?_
  refine lv_iload_n hC.1 hC.2.1 d_Ha_cornerAt_14 rfl (lv_at hl 4 rfl) ?_
  refine z_roVi (As := [.int (iI m), .int (iI 0), .int (iI n), .int (iI c)]) (rest := []) hC (c_Ha_samePoint l D t ts o qt qn z F m 0 n c (12 * m) (4 * c + 12 * n) (by omega) (by omega) (by omega) (by omega) (by omega) (by omega) hF) (cw_V hC k_333 k_292 k_293 k_5 k_294 ye_Ha_samePoint (by decide)) hP hK hE hS [0, 1] rfl 0 (ci := 0) rfl rfl rfl rfl hl.1 rfl (Nat.le_of_ble_eq_true rfl) ⟨Nat.le_of_ble_eq_true rfl, Nat.le_of_ble_eq_true rfl⟩ d_Ha_cornerAt_15 ?_
  refine z_if_eqB (tgt := 24) hC d_Ha_cornerAt_18 (by decide) (fun h18 => ?_) (fun h18 => ?_)
  · refine lv_iinc (v := iI 1) (lv' := [(4, .int (iI 1)), (0, .ref o), (1, .int (iI m)), (2, .int (iI n)), (3, .int (iI c))]) hC.1 hC.2.1 d_Ha_cornerAt_24 hl (k := 0) rfl (z_inc (by omega)) (by decide) rfl (fun ls hl => ?_)
    refine z_goto (tgt := 3) hC d_Ha_cornerAt_27 (by decide) ?_
    refine lv_iload hC.1 hC.2.1 d_Ha_cornerAt_3 (lv_at hl 0 rfl) ?_
    refine z_iconst hC d_Ha_cornerAt_5 ?_
    refine z_icmp_ge (tgt := 30) hC d_Ha_cornerAt_6 (by decide) (by decide) (by decide) (fun h => absurd h (by decide)) (fun _ => ?_)
    refine lv_aload_n hC.1 hC.2.1 d_Ha_cornerAt_9 rfl (lv_at hl 1 rfl) ?_
    refine lv_iload_n hC.1 hC.2.1 d_Ha_cornerAt_10 rfl (lv_at hl 2 rfl) ?_
    refine lv_iload hC.1 hC.2.1 d_Ha_cornerAt_11 (lv_at hl 0 rfl) ?_
    refine lv_iload_n hC.1 hC.2.1 d_Ha_cornerAt_13 rfl (lv_at hl 3 rfl) ?_
    refine lv_iload_n hC.1 hC.2.1 d_Ha_cornerAt_14 rfl (lv_at hl 4 rfl) ?_
    refine z_roVi (As := [.int (iI m), .int (iI 1), .int (iI n), .int (iI c)]) (rest := []) hC (c_Ha_samePoint l D t ts o qt qn z F m 1 n c (12 * m + 4) (4 * c + 12 * n) (by omega) (by omega) (by omega) (by omega) (by omega) (by omega) hF) (cw_V hC k_333 k_292 k_293 k_5 k_294 ye_Ha_samePoint (by decide)) hP hK hE hS [0, 1] rfl 0 (ci := 0) rfl rfl rfl rfl hl.1 rfl (Nat.le_of_ble_eq_true rfl) ⟨Nat.le_of_ble_eq_true rfl, Nat.le_of_ble_eq_true rfl⟩ d_Ha_cornerAt_15 ?_
    refine z_if_eqB (tgt := 24) hC d_Ha_cornerAt_18 (by decide) (fun h18_2 => ?_) (fun h18_2 => ?_)
    · refine lv_iinc (v := iI 2) (lv' := [(4, .int (iI 2)), (0, .ref o), (1, .int (iI m)), (2, .int (iI n)), (3, .int (iI c))]) hC.1 hC.2.1 d_Ha_cornerAt_24 hl (k := 0) rfl (z_inc (by omega)) (by decide) rfl (fun ls hl => ?_)
      refine z_goto (tgt := 3) hC d_Ha_cornerAt_27 (by decide) ?_
      refine lv_iload hC.1 hC.2.1 d_Ha_cornerAt_3 (lv_at hl 0 rfl) ?_
      refine z_iconst hC d_Ha_cornerAt_5 ?_
      refine z_icmp_ge (tgt := 30) hC d_Ha_cornerAt_6 (by decide) (by decide) (by decide) (fun h => absurd h (by decide)) (fun _ => ?_)
      refine lv_aload_n hC.1 hC.2.1 d_Ha_cornerAt_9 rfl (lv_at hl 1 rfl) ?_
      refine lv_iload_n hC.1 hC.2.1 d_Ha_cornerAt_10 rfl (lv_at hl 2 rfl) ?_
      refine lv_iload hC.1 hC.2.1 d_Ha_cornerAt_11 (lv_at hl 0 rfl) ?_
      refine lv_iload_n hC.1 hC.2.1 d_Ha_cornerAt_13 rfl (lv_at hl 3 rfl) ?_
      refine lv_iload_n hC.1 hC.2.1 d_Ha_cornerAt_14 rfl (lv_at hl 4 rfl) ?_
      refine z_roVi (As := [.int (iI m), .int (iI 2), .int (iI n), .int (iI c)]) (rest := []) hC (c_Ha_samePoint l D t ts o qt qn z F m 2 n c (12 * m + 8) (4 * c + 12 * n) (by omega) (by omega) (by omega) (by omega) (by omega) (by omega) hF) (cw_V hC k_333 k_292 k_293 k_5 k_294 ye_Ha_samePoint (by decide)) hP hK hE hS [0, 1] rfl 0 (ci := 0) rfl rfl rfl rfl hl.1 rfl (Nat.le_of_ble_eq_true rfl) ⟨Nat.le_of_ble_eq_true rfl, Nat.le_of_ble_eq_true rfl⟩ d_Ha_cornerAt_15 ?_
      refine z_if_eqB (tgt := 24) hC d_Ha_cornerAt_18 (by decide) (fun h18_3 => ?_) (fun h18_3 => ?_)
      · refine lv_iinc (v := iI 3) (lv' := [(4, .int (iI 3)), (0, .ref o), (1, .int (iI m)), (2, .int (iI n)), (3, .int (iI c))]) hC.1 hC.2.1 d_Ha_cornerAt_24 hl (k := 0) rfl (z_inc (by omega)) (by decide) rfl (fun ls hl => ?_)
        refine z_goto (tgt := 3) hC d_Ha_cornerAt_27 (by decide) ?_
        refine lv_iload hC.1 hC.2.1 d_Ha_cornerAt_3 (lv_at hl 0 rfl) ?_
        refine z_iconst hC d_Ha_cornerAt_5 ?_
        refine z_icmp_ge (tgt := 30) hC d_Ha_cornerAt_6 (by decide) (by decide) (by decide) (fun _ => ?_) (fun h => absurd h (by decide))
        refine z_iconst hC d_Ha_cornerAt_30 ?_
        exact retv 31 _ _ d_Ha_cornerAt_31 (by unfold cAt; simp [h18, h18_2, h18_3])
      · refine lv_iload hC.1 hC.2.1 d_Ha_cornerAt_21 (lv_at hl 0 rfl) ?_
        exact retv 23 _ _ d_Ha_cornerAt_23 (by unfold cAt; simp [h18, h18_2, h18_3])
    · refine lv_iload hC.1 hC.2.1 d_Ha_cornerAt_21 (lv_at hl 0 rfl) ?_
      exact retv 23 _ _ d_Ha_cornerAt_23 (by unfold cAt; simp [h18, h18_2])
  · refine lv_iload hC.1 hC.2.1 d_Ha_cornerAt_21 (lv_at hl 0 rfl) ?_
    exact retv 23 _ _ d_Ha_cornerAt_23 (by unfold cAt; simp [h18])
theorem ye_Ha_withinLimits : ye y_Ha_withinLimits R_Ha 1 := by unfold ye; decide +kernel
abbrev rm_Ha_withinLimits : Room := { frames := 1, cells := 0, slots := 0, locals := 21 }
set_option maxHeartbeats 4000000 in
set_option maxRecDepth 100000 in
theorem c_Ha_withinLimits (l : Launch) (D : va_G) (t : vt) (ts : Nat → Nat) (o qt qn : Nat) (z : Int) (F : Int → Int) (n : Int) (hn : 0 ≤ n ∧ n < 400) (hF : bF F) : Met l y_Ha_withinLimits (.code y_Ha_withinLimits b_Ha_withinLimits 4 (some .boolean) :: tb_ws) rm_Ha_withinLimits (RoP D t ts [.ref o, .int (iI n)] [(o, .inr (0, [.ref qt, .ref qn, .int (iI z)])), (qn, eI t.1 4800 F)]) (vp_Si (fun zr => zr = iI (zB (wlZ F n)))) 0 0 (fun _ => False) := by
  refine ro_z (by decide +kernel) (Nat.le_of_ble_eq_true rfl) ?_
  intro zp ze zs zm zb zt zc zQ ls hC hP hK hE hl ret
  have hS : va_S (fun _ => False) zs.heap zs.heap [] := va_S.rf
  have hl : lv_has ls 4 [(0, .ref o), (1, .int (iI n))] := hl
  have ret1 : ∀ (pc : Nat) (ls : Array Slot), decode b_Ha_withinLimits pc = .ok (.ireturn, 1) → (wlZ F n) = true → W zp l ze rm_Ha_withinLimits zs zm [.ref o, .int (iI n)].toArray zb zt zc zs.heap [] 0 0 zQ (F0 zm pc ls [.int (iI 1)]) := fun pc ls d h => by have r := ret pc ls d; rw [h] at r; exact r
  have ret0 : ∀ (pc : Nat) (ls : Array Slot), decode b_Ha_withinLimits pc = .ok (.ireturn, 1) → (wlZ F n) = false → W zp l ze rm_Ha_withinLimits zs zm [.ref o, .int (iI n)].toArray zb zt zc zs.heap [] 0 0 zQ (F0 zm pc ls [.int (iI 0)]) := fun pc ls d h => by have r := ret pc ls d; rw [h] at r; exact r
  have retb : ∀ (pc : Nat) (ls : Array Slot), decode b_Ha_withinLimits pc = .ok (.ireturn, 1) → ∀ zv : Bool, zv = (wlZ F n) → W zp l ze rm_Ha_withinLimits zs zm [.ref o, .int (iI n)].toArray zb zt zc zs.heap [] 0 0 zQ (F0 zm pc ls [.int (iI (zB zv))]) := fun pc ls d b h => by rw [h]; exact ret pc ls d
  refine lv_iload_n hC.1 hC.2.1 d_Ha_withinLimits_0 rfl (lv_at hl 1 rfl) ?_
  refine z_iconst hC d_Ha_withinLimits_1 ?_
  refine z_roSi (As := [.int (iI n), .int (iI 0)]) (rest := []) hC (c_Ha_at l D t ts n 0 (12 * n) (by omega)) (cw_S hC k_141 k_142 k_5 k_143 ye_Ha_at (by decide)) hP hK hE hS [] rfl rfl hl.1 rfl (Nat.le_of_ble_eq_true rfl) ⟨Nat.le_of_ble_eq_true rfl, Nat.le_of_ble_eq_true rfl⟩ d_Ha_withinLimits_2 ?_
  refine lv_istore_n (lv' := [(2, .int (iI (12 * n))), (0, .ref o), (1, .int (iI n))]) hC.1 hC.2.1 d_Ha_withinLimits_5 rfl hl (by decide) rfl (fun ls hl => ?_)
  refine z_iconst hC d_Ha_withinLimits_6 ?_
  refine lv_istore_n (lv' := [(3, .int (iI 0)), (2, .int (iI (12 * n))), (0, .ref o), (1, .int (iI n))]) hC.1 hC.2.1 d_Ha_withinLimits_7 rfl hl (by decide) rfl (fun ls hl => ?_)
  have L8 : ∀ (fu : Nat) (k : Int) (ls : Array Slot), 12 - k + 1 ≤ (fu : Int) → (0 ≤ k ∧ k ≤ 12) → (∀ j, 0 ≤ j → j < k → (!nearZ (F (j + 12 * n))) = false) → lv_has ls 4 [(3, .int (iI k)), (2, .int (iI (12 * n))), (0, .ref o), (1, .int (iI n))] → W zp l ze rm_Ha_withinLimits zs zm [.ref o, .int (iI n)].toArray zb zt zc zs.heap [] 0 0 zQ (F0 zm 8 ls []) := by
    intro fu
    induction fu with
    | zero =>
      intro k ls hm8 hk hi hl
      exact absurd hm8 (by omega)
    | succ fu ih8 =>
      intro k ls hm8 hk hi hl
      refine lv_iload_n hC.1 hC.2.1 d_Ha_withinLimits_8 rfl (lv_at hl 0 rfl) ?_
      refine z_bipush hC d_Ha_withinLimits_9 (by decide) ?_
      refine z_icmp_ge (tgt := 36) hC d_Ha_withinLimits_11 (by decide) (by omega) (by decide) (fun h11 => ?_) (fun h11 => ?_)
      · refine z_iconst hC d_Ha_withinLimits_36 ?_
        exact ret1 37 _ d_Ha_withinLimits_37 (by unfold wlZ; rw [anyZ_f.mpr (fun j h1 h2 => hi j h1 (by omega))]; rfl)
      · refine lv_aload_n hC.1 hC.2.1 d_Ha_withinLimits_14 rfl (lv_at hl 2 rfl) ?_
        refine z_get (ci := 0) (C := R_Ha) (T := F_Ha) (N := 3) (v := .ref qn) hC in_Ha hK hP 0 rfl rfl 1 (by decide) k_84 rfl d_Ha_withinLimits_15 ?_
        refine lv_iload_n hC.1 hC.2.1 d_Ha_withinLimits_18 rfl (lv_at hl 1 rfl) ?_
        refine lv_iload_n hC.1 hC.2.1 d_Ha_withinLimits_19 rfl (lv_at hl 0 rfl) ?_
        refine z_iadd hC d_Ha_withinLimits_20 ?_
        refine z_topi (z := k + 12 * n) (by omega) ?_
        refine z_iald hC hK hP 1 rfl (by omega) d_Ha_withinLimits_21 ?_
        refine z_roSi (As := [.int (iI (F (k + 12 * n)))]) (rest := []) hC (c_Po_near l D t ts (F (k + 12 * n)) (by have := hF (k + 12 * n); omega)) (cw_S hC k_191 k_175 k_8 k_176 ye_Po_near (by decide)) hP hK hE hS [] rfl rfl hl.1 rfl (Nat.le_of_ble_eq_true rfl) ⟨Nat.le_of_ble_eq_true rfl, Nat.le_of_ble_eq_true rfl⟩ d_Ha_withinLimits_22 ?_
        refine z_if_neB (tgt := 30) hC d_Ha_withinLimits_25 (by decide) (fun h25 => ?_) (fun h25 => ?_)
        · refine lv_iinc (v := iI (k + 1)) (lv' := [(3, .int (iI (k + 1))), (2, .int (iI (12 * n))), (0, .ref o), (1, .int (iI n))]) hC.1 hC.2.1 d_Ha_withinLimits_30 hl (k := 0) rfl (z_inc (by omega)) (by decide) rfl (fun ls hl => ?_)
          refine z_goto (tgt := 8) hC d_Ha_withinLimits_33 (by decide) ?_
          exact ih8 (k + 1) _ (by omega) (by omega) (stepF hi (by simp [h25])) (lv_sub hl [0, 1, 2, 3] rfl)
        · refine z_iconst hC d_Ha_withinLimits_28 ?_
          exact ret0 29 _ d_Ha_withinLimits_29 (by unfold wlZ; rw [anyZ_t (k := k) (by omega) (by omega) (by simp [h25])]; rfl)
  exact L8 (12 - 0 + 1 : Int).toNat 0 _ (by omega) (by omega) (by intro j _ _; omega) (lv_sub hl [0, 1, 2, 3] rfl)
theorem ye_Ha_allWithinLimits : ye y_Ha_allWithinLimits R_Ha 0 := by unfold ye; decide +kernel
abbrev rm_Ha_allWithinLimits : Room := { frames := 2, cells := 0, slots := 0, locals := 44 }
set_option maxHeartbeats 4000000 in
set_option maxRecDepth 100000 in
theorem c_Ha_allWithinLimits (l : Launch) (D : va_G) (t : vt) (ts : Nat → Nat) (o qt qn : Nat) (z : Int) (F : Int → Int) (hz : 0 ≤ z ∧ z ≤ 400) (hF : bF F) : Met l y_Ha_allWithinLimits (.code y_Ha_allWithinLimits b_Ha_allWithinLimits 2 (some .boolean) :: tb_ws) rm_Ha_allWithinLimits (RoP D t ts [.ref o] [(o, .inr (0, [.ref qt, .ref qn, .int (iI z)])), (qn, eI t.1 4800 F)]) (vp_Si (fun zr => zr = iI (zB (awlZ F z)))) 0 0 (fun _ => False) := by
  refine ro_z (by decide +kernel) (Nat.le_of_ble_eq_true rfl) ?_
  intro zp ze zs zm zb zt zc zQ ls hC hP hK hE hl ret
  have hS : va_S (fun _ => False) zs.heap zs.heap [] := va_S.rf
  have hl : lv_has ls 2 [(0, .ref o)] := hl
  have ret1 : ∀ (pc : Nat) (ls : Array Slot), decode b_Ha_allWithinLimits pc = .ok (.ireturn, 1) → (awlZ F z) = true → W zp l ze rm_Ha_allWithinLimits zs zm [.ref o].toArray zb zt zc zs.heap [] 0 0 zQ (F0 zm pc ls [.int (iI 1)]) := fun pc ls d h => by have r := ret pc ls d; rw [h] at r; exact r
  have ret0 : ∀ (pc : Nat) (ls : Array Slot), decode b_Ha_allWithinLimits pc = .ok (.ireturn, 1) → (awlZ F z) = false → W zp l ze rm_Ha_allWithinLimits zs zm [.ref o].toArray zb zt zc zs.heap [] 0 0 zQ (F0 zm pc ls [.int (iI 0)]) := fun pc ls d h => by have r := ret pc ls d; rw [h] at r; exact r
  have retb : ∀ (pc : Nat) (ls : Array Slot), decode b_Ha_allWithinLimits pc = .ok (.ireturn, 1) → ∀ zv : Bool, zv = (awlZ F z) → W zp l ze rm_Ha_allWithinLimits zs zm [.ref o].toArray zb zt zc zs.heap [] 0 0 zQ (F0 zm pc ls [.int (iI (zB zv))]) := fun pc ls d b h => by rw [h]; exact ret pc ls d
  refine z_iconst hC d_Ha_allWithinLimits_0 ?_
  refine lv_istore_n (lv' := [(1, .int (iI 0)), (0, .ref o)]) hC.1 hC.2.1 d_Ha_allWithinLimits_1 rfl hl (by decide) rfl (fun ls hl => ?_)
  have L2 : ∀ (fu : Nat) (k : Int) (ls : Array Slot), z - k + 1 ≤ (fu : Int) → (0 ≤ k ∧ k ≤ z) → (∀ j, 0 ≤ j → j < k → (!wlZ F j) = false) → lv_has ls 2 [(1, .int (iI k)), (0, .ref o)] → W zp l ze rm_Ha_allWithinLimits zs zm [.ref o].toArray zb zt zc zs.heap [] 0 0 zQ (F0 zm 2 ls []) := by
    intro fu
    induction fu with
    | zero =>
      intro k ls hm2 hk hi hl
      exact absurd hm2 (by omega)
    | succ fu ih2 =>
      intro k ls hm2 hk hi hl
      refine lv_iload_n hC.1 hC.2.1 d_Ha_allWithinLimits_2 rfl (lv_at hl 0 rfl) ?_
      refine lv_aload_n hC.1 hC.2.1 d_Ha_allWithinLimits_3 rfl (lv_at hl 1 rfl) ?_
      refine z_get (ci := 0) (C := R_Ha) (T := F_Ha) (N := 3) (v := .int (iI z)) hC in_Ha hK hP 0 rfl rfl 2 (by decide) k_87 rfl d_Ha_allWithinLimits_4 ?_
      refine z_icmp_ge (tgt := 26) hC d_Ha_allWithinLimits_7 (by decide) (by omega) (by omega) (fun h7 => ?_) (fun h7 => ?_)
      · refine z_iconst hC d_Ha_allWithinLimits_26 ?_
        exact ret1 27 _ d_Ha_allWithinLimits_27 (by unfold awlZ; rw [anyZ_f.mpr (fun j h1 h2 => hi j h1 (by omega))]; rfl)
      · refine lv_aload_n hC.1 hC.2.1 d_Ha_allWithinLimits_10 rfl (lv_at hl 1 rfl) ?_
        refine lv_iload_n hC.1 hC.2.1 d_Ha_allWithinLimits_11 rfl (lv_at hl 0 rfl) ?_
        refine z_roVi (As := [.int (iI k)]) (rest := []) hC (c_Ha_withinLimits l D t ts o qt qn z F k (by omega) hF) (cw_V hC k_271 k_188 k_189 k_5 k_190 ye_Ha_withinLimits (by decide)) hP hK hE hS [0, 1] rfl 0 (ci := 0) rfl rfl rfl rfl hl.1 rfl (Nat.le_of_ble_eq_true rfl) ⟨Nat.le_of_ble_eq_true rfl, Nat.le_of_ble_eq_true rfl⟩ d_Ha_allWithinLimits_12 ?_
        refine z_if_neB (tgt := 20) hC d_Ha_allWithinLimits_15 (by decide) (fun h15 => ?_) (fun h15 => ?_)
        · refine lv_iinc (v := iI (k + 1)) (lv' := [(1, .int (iI (k + 1))), (0, .ref o)]) hC.1 hC.2.1 d_Ha_allWithinLimits_20 hl (k := 0) rfl (z_inc (by omega)) (by decide) rfl (fun ls hl => ?_)
          refine z_goto (tgt := 2) hC d_Ha_allWithinLimits_23 (by decide) ?_
          exact ih2 (k + 1) _ (by omega) (by omega) (stepF hi (by simp [h15])) (lv_sub hl [0, 1] rfl)
        · refine z_iconst hC d_Ha_allWithinLimits_18 ?_
          exact ret0 19 _ d_Ha_allWithinLimits_19 (by unfold awlZ; rw [anyZ_t (k := k) (by omega) (by omega) (by simp [h15])]; rfl)
  exact L2 (z - 0 + 1 : Int).toNat 0 _ (by omega) (by omega) (by intro j _ _; omega) (lv_sub hl [0, 1] rfl)
