theorem ye_Ha_at : ye y_Ha_at R_Ha 2 := by unfold ye; decide +kernel
abbrev rm_Ha_at : Room := { frames := 0, cells := 0, slots := 0, locals := 0 }
set_option maxHeartbeats 4000000 in
set_option maxRecDepth 100000 in
theorem c_Ha_at (l : Launch) (D : va_G) (t : vt) (ts : Nat → Nat) (n c : Int) : Met l y_Ha_at (.code y_Ha_at b_Ha_at 2 (some .int) :: tb_ws) rm_Ha_at (RoP D t ts [.int (iI n), .int (iI c)] []) (vp_Si (fun r => r = iI (4 * c + 12 * n))) 0 0 (fun _ => False) := by
  refine ro_i (by decide +kernel) (Nat.le_of_ble_eq_true rfl) ?_
  intro zp ze zs zm zb zt zc zQ ls hC hP hK hE hl ret
  have hS : va_S (fun _ => False) zs.heap zs.heap [] := va_S.rf
  have hl : lv_has ls 2 [(0, .int (iI n)), (1, .int (iI c))] := hl
  have retv : ∀ (pc : Nat) (ls : Array Slot) (zv : Int), decode b_Ha_at pc = .ok (.ireturn, 1) → zv = (4 * c + 12 * n) → W zp l ze rm_Ha_at zs zm [.int (iI n), .int (iI c)].toArray zb zt zc zs.heap [] 0 0 zQ (F0 zm pc ls [.int (iI zv)]) := fun pc ls v d h => by rw [h]; exact ret pc ls d
  refine lv_iload_n hC.1 hC.2.1 d_Ha_at_0 rfl (lv_at hl 0 rfl) ?_
  refine z_bipush hC d_Ha_at_1 (by decide) ?_
  refine z_imul hC d_Ha_at_3 ?_
  refine z_topi (z := 12 * n) (by omega) ?_
  refine lv_iload_n hC.1 hC.2.1 d_Ha_at_4 rfl (lv_at hl 1 rfl) ?_
  refine z_iconst hC d_Ha_at_5 ?_
  refine z_imul hC d_Ha_at_6 ?_
  refine z_topi (z := 4 * c) (by omega) ?_
  refine z_iadd hC d_Ha_at_7 ?_
  refine z_topi (z := 4 * c + 12 * n) (by omega) ?_
  exact retv 8 _ _ d_Ha_at_8 (by omega)
theorem ye_Po_near : ye y_Po_near R_Po 1 := by unfold ye; decide +kernel
abbrev rm_Po_near : Room := { frames := 0, cells := 0, slots := 0, locals := 0 }
set_option maxHeartbeats 4000000 in
set_option maxRecDepth 100000 in
theorem c_Po_near (l : Launch) (D : va_G) (t : vt) (ts : Nat → Nat) (x : Int) (hx : inI x) : Met l y_Po_near (.code y_Po_near b_Po_near 1 (some .boolean) :: tb_ws) rm_Po_near (RoP D t ts [.int (iI x)] []) (vp_Si (fun r => r = iI (zB (nearZ x)))) 0 0 (fun _ => False) := by
  refine ro_z (by decide +kernel) (Nat.le_of_ble_eq_true rfl) ?_
  intro zp ze zs zm zb zt zc zQ ls hC hP hK hE hl ret
  have hS : va_S (fun _ => False) zs.heap zs.heap [] := va_S.rf
  have hl : lv_has ls 1 [(0, .int (iI x))] := hl
  have ret1 : ∀ (pc : Nat) (ls : Array Slot), decode b_Po_near pc = .ok (.ireturn, 1) → (nearZ x) = true → W zp l ze rm_Po_near zs zm [.int (iI x)].toArray zb zt zc zs.heap [] 0 0 zQ (F0 zm pc ls [.int (iI 1)]) := fun pc ls d h => by have r := ret pc ls d; rw [h] at r; exact r
  have ret0 : ∀ (pc : Nat) (ls : Array Slot), decode b_Po_near pc = .ok (.ireturn, 1) → (nearZ x) = false → W zp l ze rm_Po_near zs zm [.int (iI x)].toArray zb zt zc zs.heap [] 0 0 zQ (F0 zm pc ls [.int (iI 0)]) := fun pc ls d h => by have r := ret pc ls d; rw [h] at r; exact r
  have retb : ∀ (pc : Nat) (ls : Array Slot), decode b_Po_near pc = .ok (.ireturn, 1) → ∀ zv : Bool, zv = (nearZ x) → W zp l ze rm_Po_near zs zm [.int (iI x)].toArray zb zt zc zs.heap [] 0 0 zQ (F0 zm pc ls [.int (iI (zB zv))]) := fun pc ls d b h => by rw [h]; exact ret pc ls d
  refine lv_iload_n hC.1 hC.2.1 d_Po_near_0 rfl (lv_at hl 0 rfl) ?_
  refine z_ldc hC k_177 d_Po_near_1 ?_
  refine z_icmp_lt (tgt := 16) hC d_Po_near_3 (by decide) (by omega) (by decide) (fun h3 => ?_) (fun h3 => ?_)
  · refine z_iconst hC d_Po_near_16 ?_
    exact ret0 17 _ d_Po_near_17 (by unfold nearZ; simp; omega)
  · refine lv_iload_n hC.1 hC.2.1 d_Po_near_6 rfl (lv_at hl 0 rfl) ?_
    refine z_ldc hC k_178 d_Po_near_7 ?_
    refine z_icmp_gt (tgt := 16) hC d_Po_near_9 (by decide) (by omega) (by decide) (fun h9 => ?_) (fun h9 => ?_)
    · refine z_iconst hC d_Po_near_16 ?_
      exact ret0 17 _ d_Po_near_17 (by unfold nearZ; simp; omega)
    · refine z_iconst hC d_Po_near_12 ?_
      refine z_goto (tgt := 17) hC d_Po_near_13 (by decide) ?_
      exact ret1 17 _ d_Po_near_17 (by unfold nearZ; simp; omega)
theorem ye_Po_within : ye y_Po_within R_Po 4 := by unfold ye; decide +kernel
abbrev rm_Po_within : Room := { frames := 1, cells := 0, slots := 0, locals := 20 }
set_option maxHeartbeats 4000000 in
set_option maxRecDepth 100000 in
theorem c_Po_within (l : Launch) (D : va_G) (t : vt) (ts : Nat → Nat) (a b c d : Int) (ha : inI a) (hb : inI b) (hc : inI c) (hd : inI d) : Met l y_Po_within (.code y_Po_within b_Po_within 4 (some .boolean) :: tb_ws) rm_Po_within (RoP D t ts [.int (iI a), .int (iI b), .int (iI c), .int (iI d)] []) (vp_Si (fun r => r = iI (zB (nearZ a && nearZ b && nearZ c && nearZ d)))) 0 0 (fun _ => False) := by
  refine ro_z (by decide +kernel) (Nat.le_of_ble_eq_true rfl) ?_
  intro zp ze zs zm zb zt zc zQ ls hC hP hK hE hl ret
  have hS : va_S (fun _ => False) zs.heap zs.heap [] := va_S.rf
  have hl : lv_has ls 4 [(0, .int (iI a)), (1, .int (iI b)), (2, .int (iI c)), (3, .int (iI d))] := hl
  have ret1 : ∀ (pc : Nat) (ls : Array Slot), decode b_Po_within pc = .ok (.ireturn, 1) → (nearZ a && nearZ b && nearZ c && nearZ d) = true → W zp l ze rm_Po_within zs zm [.int (iI a), .int (iI b), .int (iI c), .int (iI d)].toArray zb zt zc zs.heap [] 0 0 zQ (F0 zm pc ls [.int (iI 1)]) := fun pc ls d h => by have r := ret pc ls d; rw [h] at r; exact r
  have ret0 : ∀ (pc : Nat) (ls : Array Slot), decode b_Po_within pc = .ok (.ireturn, 1) → (nearZ a && nearZ b && nearZ c && nearZ d) = false → W zp l ze rm_Po_within zs zm [.int (iI a), .int (iI b), .int (iI c), .int (iI d)].toArray zb zt zc zs.heap [] 0 0 zQ (F0 zm pc ls [.int (iI 0)]) := fun pc ls d h => by have r := ret pc ls d; rw [h] at r; exact r
  have retb : ∀ (pc : Nat) (ls : Array Slot), decode b_Po_within pc = .ok (.ireturn, 1) → ∀ zv : Bool, zv = (nearZ a && nearZ b && nearZ c && nearZ d) → W zp l ze rm_Po_within zs zm [.int (iI a), .int (iI b), .int (iI c), .int (iI d)].toArray zb zt zc zs.heap [] 0 0 zQ (F0 zm pc ls [.int (iI (zB zv))]) := fun pc ls d b h => by rw [h]; exact ret pc ls d
  refine lv_iload_n hC.1 hC.2.1 d_Po_within_0 rfl (lv_at hl 0 rfl) ?_
  refine z_roSi (As := [.int (iI a)]) (rest := []) hC (c_Po_near l D t ts a (by omega)) (cw_S hC k_174 k_175 k_8 k_176 ye_Po_near (by decide)) hP hK hE hS [] rfl rfl hl.1 rfl (by decide) ⟨Nat.zero_le _, Nat.zero_le _⟩ d_Po_within_1 ?_
  refine z_if_eqB (tgt := 32) hC d_Po_within_4 (by decide) (fun h4 => ?_) (fun h4 => ?_)
  · refine z_iconst hC d_Po_within_32 ?_
    exact ret0 33 _ d_Po_within_33 (by simp [h4])
  · refine lv_iload_n hC.1 hC.2.1 d_Po_within_7 rfl (lv_at hl 1 rfl) ?_
    refine z_roSi (As := [.int (iI b)]) (rest := []) hC (c_Po_near l D t ts b (by omega)) (cw_S hC k_174 k_175 k_8 k_176 ye_Po_near (by decide)) hP hK hE hS [] rfl rfl hl.1 rfl (by decide) ⟨Nat.zero_le _, Nat.zero_le _⟩ d_Po_within_8 ?_
    refine z_if_eqB (tgt := 32) hC d_Po_within_11 (by decide) (fun h11 => ?_) (fun h11 => ?_)
    · refine z_iconst hC d_Po_within_32 ?_
      exact ret0 33 _ d_Po_within_33 (by simp [h4, h11])
    · refine lv_iload_n hC.1 hC.2.1 d_Po_within_14 rfl (lv_at hl 2 rfl) ?_
      refine z_roSi (As := [.int (iI c)]) (rest := []) hC (c_Po_near l D t ts c (by omega)) (cw_S hC k_174 k_175 k_8 k_176 ye_Po_near (by decide)) hP hK hE hS [] rfl rfl hl.1 rfl (by decide) ⟨Nat.zero_le _, Nat.zero_le _⟩ d_Po_within_15 ?_
      refine z_if_eqB (tgt := 32) hC d_Po_within_18 (by decide) (fun h18 => ?_) (fun h18 => ?_)
      · refine z_iconst hC d_Po_within_32 ?_
        exact ret0 33 _ d_Po_within_33 (by simp [h4, h11, h18])
      · refine lv_iload_n hC.1 hC.2.1 d_Po_within_21 rfl (lv_at hl 3 rfl) ?_
        refine z_roSi (As := [.int (iI d)]) (rest := []) hC (c_Po_near l D t ts d (by omega)) (cw_S hC k_174 k_175 k_8 k_176 ye_Po_near (by decide)) hP hK hE hS [] rfl rfl hl.1 rfl (by decide) ⟨Nat.zero_le _, Nat.zero_le _⟩ d_Po_within_22 ?_
        refine z_if_eqB (tgt := 32) hC d_Po_within_25 (by decide) (fun h25 => ?_) (fun h25 => ?_)
        · refine z_iconst hC d_Po_within_32 ?_
          exact ret0 33 _ d_Po_within_33 (by simp [h4, h11, h18, h25])
        · refine z_iconst hC d_Po_within_28 ?_
          refine z_goto (tgt := 33) hC d_Po_within_29 (by decide) ?_
          exact ret1 33 _ d_Po_within_33 (by simp [h4, h11, h18, h25])
theorem ye_Po_same : ye y_Po_same R_Po 3 := by unfold ye; decide +kernel
abbrev rm_Po_same : Room := { frames := 0, cells := 0, slots := 0, locals := 0 }
set_option maxHeartbeats 4000000 in
set_option maxRecDepth 100000 in
theorem c_Po_same (l : Launch) (D : va_G) (t : vt) (ts : Nat → Nat) (a n : Nat) (F : Int → Int) (p q : Int) (hn : (n : Int) ≤ 2147483647) (hp : 0 ≤ p ∧ p + 3 < n) (hq : 0 ≤ q ∧ q + 3 < n) (hF : ∀ k, inI (F k)) : Met l y_Po_same (.code y_Po_same b_Po_same 3 (some .boolean) :: tb_ws) rm_Po_same (RoP D t ts [.ref a, .int (iI p), .int (iI q)] [(a, eI t.1 n F)]) (vp_Si (fun r => r = iI (zB (pS F p q)))) 0 0 (fun _ => False) := by
  refine ro_z (by decide +kernel) (Nat.le_of_ble_eq_true rfl) ?_
  intro zp ze zs zm zb zt zc zQ ls hC hP hK hE hl ret
  have hS : va_S (fun _ => False) zs.heap zs.heap [] := va_S.rf
  have hl : lv_has ls 3 [(0, .ref a), (1, .int (iI p)), (2, .int (iI q))] := hl
  have ret1 : ∀ (pc : Nat) (ls : Array Slot), decode b_Po_same pc = .ok (.ireturn, 1) → (pS F p q) = true → W zp l ze rm_Po_same zs zm [.ref a, .int (iI p), .int (iI q)].toArray zb zt zc zs.heap [] 0 0 zQ (F0 zm pc ls [.int (iI 1)]) := fun pc ls d h => by have r := ret pc ls d; rw [h] at r; exact r
  have ret0 : ∀ (pc : Nat) (ls : Array Slot), decode b_Po_same pc = .ok (.ireturn, 1) → (pS F p q) = false → W zp l ze rm_Po_same zs zm [.ref a, .int (iI p), .int (iI q)].toArray zb zt zc zs.heap [] 0 0 zQ (F0 zm pc ls [.int (iI 0)]) := fun pc ls d h => by have r := ret pc ls d; rw [h] at r; exact r
  have retb : ∀ (pc : Nat) (ls : Array Slot), decode b_Po_same pc = .ok (.ireturn, 1) → ∀ zv : Bool, zv = (pS F p q) → W zp l ze rm_Po_same zs zm [.ref a, .int (iI p), .int (iI q)].toArray zb zt zc zs.heap [] 0 0 zQ (F0 zm pc ls [.int (iI (zB zv))]) := fun pc ls d b h => by rw [h]; exact ret pc ls d
  refine lv_aload_n hC.1 hC.2.1 d_Po_same_0 rfl (lv_at hl 0 rfl) ?_
  refine lv_iload_n hC.1 hC.2.1 d_Po_same_1 rfl (lv_at hl 1 rfl) ?_
  refine z_iald hC hK hP 0 rfl (by omega) d_Po_same_2 ?_
  refine lv_aload_n hC.1 hC.2.1 d_Po_same_3 rfl (lv_at hl 0 rfl) ?_
  refine lv_iload_n hC.1 hC.2.1 d_Po_same_4 rfl (lv_at hl 2 rfl) ?_
  refine z_iald hC hK hP 0 rfl (by omega) d_Po_same_5 ?_
  refine z_icmp_ne (tgt := 52) hC d_Po_same_6 (by decide) (hF _) (hF _) (fun h6 => ?_) (fun h6 => ?_)
  · refine z_iconst hC d_Po_same_52 ?_
    exact ret0 53 _ d_Po_same_53 (by unfold pS; simp; omega)
  · refine lv_aload_n hC.1 hC.2.1 d_Po_same_9 rfl (lv_at hl 0 rfl) ?_
    refine lv_iload_n hC.1 hC.2.1 d_Po_same_10 rfl (lv_at hl 1 rfl) ?_
    refine z_iconst hC d_Po_same_11 ?_
    refine z_iadd hC d_Po_same_12 ?_
    refine z_iald hC hK hP 0 rfl (by omega) d_Po_same_13 ?_
    refine lv_aload_n hC.1 hC.2.1 d_Po_same_14 rfl (lv_at hl 0 rfl) ?_
    refine lv_iload_n hC.1 hC.2.1 d_Po_same_15 rfl (lv_at hl 2 rfl) ?_
    refine z_iconst hC d_Po_same_16 ?_
    refine z_iadd hC d_Po_same_17 ?_
    refine z_iald hC hK hP 0 rfl (by omega) d_Po_same_18 ?_
    refine z_icmp_ne (tgt := 52) hC d_Po_same_19 (by decide) (hF _) (hF _) (fun h19 => ?_) (fun h19 => ?_)
    · refine z_iconst hC d_Po_same_52 ?_
      exact ret0 53 _ d_Po_same_53 (by unfold pS; simp; omega)
    · refine lv_aload_n hC.1 hC.2.1 d_Po_same_22 rfl (lv_at hl 0 rfl) ?_
      refine lv_iload_n hC.1 hC.2.1 d_Po_same_23 rfl (lv_at hl 1 rfl) ?_
      refine z_iconst hC d_Po_same_24 ?_
      refine z_iadd hC d_Po_same_25 ?_
      refine z_iald hC hK hP 0 rfl (by omega) d_Po_same_26 ?_
      refine lv_aload_n hC.1 hC.2.1 d_Po_same_27 rfl (lv_at hl 0 rfl) ?_
      refine lv_iload_n hC.1 hC.2.1 d_Po_same_28 rfl (lv_at hl 2 rfl) ?_
      refine z_iconst hC d_Po_same_29 ?_
      refine z_iadd hC d_Po_same_30 ?_
      refine z_iald hC hK hP 0 rfl (by omega) d_Po_same_31 ?_
      refine z_icmp_ne (tgt := 52) hC d_Po_same_32 (by decide) (hF _) (hF _) (fun h32 => ?_) (fun h32 => ?_)
      · refine z_iconst hC d_Po_same_52 ?_
        exact ret0 53 _ d_Po_same_53 (by unfold pS; simp; omega)
      · refine lv_aload_n hC.1 hC.2.1 d_Po_same_35 rfl (lv_at hl 0 rfl) ?_
        refine lv_iload_n hC.1 hC.2.1 d_Po_same_36 rfl (lv_at hl 1 rfl) ?_
        refine z_iconst hC d_Po_same_37 ?_
        refine z_iadd hC d_Po_same_38 ?_
        refine z_iald hC hK hP 0 rfl (by omega) d_Po_same_39 ?_
        refine lv_aload_n hC.1 hC.2.1 d_Po_same_40 rfl (lv_at hl 0 rfl) ?_
        refine lv_iload_n hC.1 hC.2.1 d_Po_same_41 rfl (lv_at hl 2 rfl) ?_
        refine z_iconst hC d_Po_same_42 ?_
        refine z_iadd hC d_Po_same_43 ?_
        refine z_iald hC hK hP 0 rfl (by omega) d_Po_same_44 ?_
        refine z_icmp_ne (tgt := 52) hC d_Po_same_45 (by decide) (hF _) (hF _) (fun h45 => ?_) (fun h45 => ?_)
        · refine z_iconst hC d_Po_same_52 ?_
          exact ret0 53 _ d_Po_same_53 (by unfold pS; simp; omega)
        · refine z_iconst hC d_Po_same_48 ?_
          refine z_goto (tgt := 53) hC d_Po_same_49 (by decide) ?_
          exact ret1 53 _ d_Po_same_53 (by unfold pS; simp; omega)
theorem ye_Po_height : ye y_Po_height R_Po 3 := by unfold ye; decide +kernel
abbrev rm_Po_height : Room := { frames := 0, cells := 0, slots := 0, locals := 0 }
set_option maxHeartbeats 4000000 in
set_option maxRecDepth 100000 in
theorem c_Po_height (l : Launch) (D : va_G) (t : vt) (ts : Nat → Nat) (x : Int) (a n : Nat) (F : Int → Int) (p : Int) (hx : 0 ≤ x ∧ x < 5) (hn : (n : Int) ≤ 2147483647) (hp : 0 ≤ p ∧ p + 3 < n) (hF : ∀ k, inI (F k)) : Met l y_Po_height (.code y_Po_height b_Po_height 4 (some .long) :: tb_ws) rm_Po_height (RoP D t ts [.int (iI x), .ref a, .int (iI p)] [(a, eI t.1 n F)]) (vp_Sl (fun r => r = lI (hZ x F p))) 0 0 (fun _ => False) := by
  refine ro_l (by decide +kernel) (Nat.le_of_ble_eq_true rfl) ?_
  intro zp ze zs zm zb zt zc zQ ls hC hP hK hE hl ret
  have hS : va_S (fun _ => False) zs.heap zs.heap [] := va_S.rf
  have hl : lv_has ls 4 [(0, .int (iI x)), (1, .ref a), (2, .int (iI p))] := hl
  have retv : ∀ (pc : Nat) (ls : Array Slot) (zv : Int), decode b_Po_height pc = .ok (.lreturn, 1) → zv = (hZ x F p) → W zp l ze rm_Po_height zs zm [.int (iI x), .ref a, .int (iI p)].toArray zb zt zc zs.heap [] 0 0 zQ (F0 zm pc ls [.long (lI zv)]) := fun pc ls v d h => by rw [h]; exact ret pc ls d
  refine lv_iload_n hC.1 hC.2.1 d_Po_height_0 rfl (lv_at hl 0 rfl) ?_
  refine z_iconst hC d_Po_height_1 ?_
  refine z_imul hC d_Po_height_2 ?_
  refine z_topi (z := 4 * x) (by omega) ?_
  refine lv_istore_n (lv' := [(3, .int (iI (4 * x))), (0, .int (iI x)), (1, .ref a), (2, .int (iI p))]) hC.1 hC.2.1 d_Po_height_3 rfl hl (by decide) rfl (fun ls hl => ?_)
  refine z_gets hC hE.2.2.2.2.2.2.2.2.2.2.2.1 hS k_159 d_Po_height_4 ?_
  refine lv_iload_n hC.1 hC.2.1 d_Po_height_7 rfl (lv_at hl 0 rfl) ?_
  refine z_tl hC hE.2.2.2.2.2.2.2.2.2.2.2.2 hS (by omega) d_Po_height_8 ?_
  refine lv_aload_n hC.1 hC.2.1 d_Po_height_9 rfl (lv_at hl 2 rfl) ?_
  refine lv_iload_n hC.1 hC.2.1 d_Po_height_10 rfl (lv_at hl 3 rfl) ?_
  refine z_iald hC hK hP 0 rfl (by omega) d_Po_height_11 ?_
  refine z_i2l hC d_Po_height_12 (hF _) ?_
  refine z_lmul hC d_Po_height_13 ?_
  refine z_gets hC hE.2.2.2.2.2.2.2.2.2.2.2.1 hS k_159 d_Po_height_14 ?_
  refine lv_iload_n hC.1 hC.2.1 d_Po_height_17 rfl (lv_at hl 0 rfl) ?_
  refine z_iconst hC d_Po_height_18 ?_
  refine z_iadd hC d_Po_height_19 ?_
  refine z_topi (z := 4 * x + 1) (by omega) ?_
  refine z_tl hC hE.2.2.2.2.2.2.2.2.2.2.2.2 hS (by omega) d_Po_height_20 ?_
  refine lv_aload_n hC.1 hC.2.1 d_Po_height_21 rfl (lv_at hl 2 rfl) ?_
  refine lv_iload_n hC.1 hC.2.1 d_Po_height_22 rfl (lv_at hl 3 rfl) ?_
  refine z_iconst hC d_Po_height_23 ?_
  refine z_iadd hC d_Po_height_24 ?_
  refine z_iald hC hK hP 0 rfl (by omega) d_Po_height_25 ?_
  refine z_i2l hC d_Po_height_26 (hF _) ?_
  refine z_lmul hC d_Po_height_27 ?_
  refine z_ladd hC d_Po_height_28 ?_
  refine z_topl (z := ((z_RISES (4 * x + 1)) * (F (p + 1))) + ((z_RISES (4 * x)) * (F p))) (by omega) ?_
  refine z_gets hC hE.2.2.2.2.2.2.2.2.2.2.2.1 hS k_159 d_Po_height_29 ?_
  refine lv_iload_n hC.1 hC.2.1 d_Po_height_32 rfl (lv_at hl 0 rfl) ?_
  refine z_iconst hC d_Po_height_33 ?_
  refine z_iadd hC d_Po_height_34 ?_
  refine z_topi (z := 4 * x + 2) (by omega) ?_
  refine z_tl hC hE.2.2.2.2.2.2.2.2.2.2.2.2 hS (by omega) d_Po_height_35 ?_
  refine lv_aload_n hC.1 hC.2.1 d_Po_height_36 rfl (lv_at hl 2 rfl) ?_
  refine lv_iload_n hC.1 hC.2.1 d_Po_height_37 rfl (lv_at hl 3 rfl) ?_
  refine z_iconst hC d_Po_height_38 ?_
  refine z_iadd hC d_Po_height_39 ?_
  refine z_iald hC hK hP 0 rfl (by omega) d_Po_height_40 ?_
  refine z_i2l hC d_Po_height_41 (hF _) ?_
  refine z_lmul hC d_Po_height_42 ?_
  refine z_ladd hC d_Po_height_43 ?_
  refine z_topl (z := ((z_RISES (4 * x + 1)) * (F (p + 1))) + ((z_RISES (4 * x + 2)) * (F (p + 2))) + ((z_RISES (4 * x)) * (F p))) (by omega) ?_
  refine z_gets hC hE.2.2.2.2.2.2.2.2.2.2.2.1 hS k_159 d_Po_height_44 ?_
  refine lv_iload_n hC.1 hC.2.1 d_Po_height_47 rfl (lv_at hl 0 rfl) ?_
  refine z_iconst hC d_Po_height_48 ?_
  refine z_iadd hC d_Po_height_49 ?_
  refine z_topi (z := 4 * x + 3) (by omega) ?_
  refine z_tl hC hE.2.2.2.2.2.2.2.2.2.2.2.2 hS (by omega) d_Po_height_50 ?_
  refine lv_aload_n hC.1 hC.2.1 d_Po_height_51 rfl (lv_at hl 2 rfl) ?_
  refine lv_iload_n hC.1 hC.2.1 d_Po_height_52 rfl (lv_at hl 3 rfl) ?_
  refine z_iconst hC d_Po_height_53 ?_
  refine z_iadd hC d_Po_height_54 ?_
  refine z_iald hC hK hP 0 rfl (by omega) d_Po_height_55 ?_
  refine z_i2l hC d_Po_height_56 (hF _) ?_
  refine z_lmul hC d_Po_height_57 ?_
  refine z_ladd hC d_Po_height_58 ?_
  refine z_topl (z := ((z_RISES (4 * x + 1)) * (F (p + 1))) + ((z_RISES (4 * x + 2)) * (F (p + 2))) + ((z_RISES (4 * x + 3)) * (F (p + 3))) + ((z_RISES (4 * x)) * (F p))) (by omega) ?_
  exact retv 59 _ _ d_Po_height_59 (by unfold hZ; omega)
