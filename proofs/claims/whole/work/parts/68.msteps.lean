theorem ye_Mo_squareSign : ye y_Mo_squareSign R_Mo 4 := by unfold ye; decide +kernel
abbrev rm_Mo_squareSign : Room := { frames := 1, cells := 0, slots := 0, locals := 29 }
set_option maxHeartbeats 4000000 in
set_option maxRecDepth 100000 in
theorem c_Mo_squareSign (l : Launch) (D : va_G) (t : vt) (ts : Nat → Nat) (o qT qC qF qY qZ qu qv qw qg qh qx qc qa qb qd qp qq : Nat) (cd z lv fm : Int) (Wd : Int → Int) (od len p q : Int) (hod : -300000000000000 ≤ od ∧ od ≤ 300000000000000) (hlen : 1 ≤ len ∧ len ≤ 10000000) (hp : -100000000000000 ≤ p ∧ p ≤ 100000000000000) (hq : -100000000000000 ≤ q ∧ q ≤ 100000000000000) (sz : Nat) : Met l y_Mo_squareSign (.code y_Mo_squareSign b_Mo_squareSign 16 (some .int) :: tb_ws) rm_Mo_squareSign (MP D t ts [.ref o, .long (lI od), .int (iI len), .long (lI p), .long (lI q)] [(o, .inr (5, [.int (iI cd), .int (iI z), .int (iI lv), .ref qT, .ref qC, .ref qF, .ref qY, .ref qZ, .ref qu, .ref qv, .ref qw, .ref qg, .ref qh, .ref qx, .ref qc, .ref qa, .ref qb, .ref qd, .int (iI fm), .ref qp, .ref qq])), (qx, eL t.2.1 54 Wd)] sz) (va_Qi (fun zr u => zr = iI ((fun u : Int × (Int → Int) => u.1) u) ∧ ((fun u : Int × (Int → Int) => u.1 = ssZ od len p q)) u) (MB D (va_A [(o, .inr (5, [.int (iI cd), .int (iI z), .int (iI lv), .ref qT, .ref qC, .ref qF, .ref qY, .ref qZ, .ref qu, .ref qv, .ref qw, .ref qg, .ref qh, .ref qx, .ref qc, .ref qa, .ref qb, .ref qd, .int (iI fm), .ref qp, .ref qq])), (qx, eL t.2.1 54 Wd)] sz) (fun u : Int × (Int → Int) => [(o, .inr (5, [.int (iI cd), .int (iI z), .int (iI lv), .ref qT, .ref qC, .ref qF, .ref qY, .ref qZ, .ref qu, .ref qv, .ref qw, .ref qg, .ref qh, .ref qx, .ref qc, .ref qa, .ref qb, .ref qd, .int (iI fm), .ref qp, .ref qq])), (qx, eL t.2.1 54 u.2)])) (va_A [(o, .inr (5, [.int (iI cd), .int (iI z), .int (iI lv), .ref qT, .ref qC, .ref qF, .ref qY, .ref qZ, .ref qu, .ref qv, .ref qw, .ref qg, .ref qh, .ref qx, .ref qc, .ref qa, .ref qb, .ref qd, .int (iI fm), .ref qp, .ref qq])), (qx, eL t.2.1 54 Wd)] sz)) 0 0 (va_A [(o, .inr (5, [.int (iI cd), .int (iI z), .int (iI lv), .ref qT, .ref qC, .ref qF, .ref qY, .ref qZ, .ref qu, .ref qv, .ref qw, .ref qg, .ref qh, .ref qx, .ref qc, .ref qa, .ref qb, .ref qd, .int (iI fm), .ref qp, .ref qq])), (qx, eL t.2.1 54 Wd)] sz) := by
  refine m_i (by decide +kernel) (Nat.le_of_ble_eq_true rfl) ?_
  intro zp ze zs zm zb zt zc zQ A ls hC hA hP hK hD hE hS hl ret
  have hl : lv_has ls 16 [(0, .ref o), (1, .long (lI od)), (3, .int (iI len)), (4, .long (lI p)), (6, .long (lI q))] := hl
  have retv : ∀ (u : Int × (Int → Int)) (H : Heap) (locs : List Loc) (pc : Nat) (ls : Array Slot) (zv : Int), decode b_Mo_squareSign pc = .ok (.ireturn, 1) → (zv = u.1 ∧ (u.1 = ssZ od len p q)) → va_P D classes ([(o, .inr (5, [.int (iI cd), .int (iI z), .int (iI lv), .ref qT, .ref qC, .ref qF, .ref qY, .ref qZ, .ref qu, .ref qv, .ref qw, .ref qg, .ref qh, .ref qx, .ref qc, .ref qa, .ref qb, .ref qd, .int (iI fm), .ref qp, .ref qq])), (qx, eL t.2.1 54 u.2)]) H → va_D A ([(o, .inr (5, [.int (iI cd), .int (iI z), .int (iI lv), .ref qT, .ref qC, .ref qF, .ref qY, .ref qZ, .ref qu, .ref qv, .ref qw, .ref qg, .ref qh, .ref qx, .ref qc, .ref qa, .ref qb, .ref qd, .int (iI fm), .ref qp, .ref qq])), (qx, eL t.2.1 54 u.2)]) → va_S A zs.heap H locs → W zp l ze rm_Mo_squareSign zs zm [.ref o, .long (lI od), .int (iI len), .long (lI p), .long (lI q)].toArray zb zt zc H locs 0 0 zQ (F0 zm pc ls [.int (iI zv)]) := fun u H locs pc ls v d h hP hD hS => by rw [h.1]; exact ret u H locs pc ls d h.2 hP hD hS
  refine lv_iload_n hC.1 hC.2.1 d_Mo_squareSign_0 rfl (lv_at hl 2 rfl) ?_
  refine z_i2l hC d_Mo_squareSign_1 (by omega) ?_
  refine lv_iload_n hC.1 hC.2.1 d_Mo_squareSign_2 rfl (lv_at hl 2 rfl) ?_
  refine z_i2l hC d_Mo_squareSign_3 (by omega) ?_
  refine z_lmul hC d_Mo_squareSign_4 ?_
  obtain ⟨L, eLL⟩ : ∃ z : Int, z = len * len := ⟨_, rfl⟩
  have hL : 1 ≤ L ∧ L ≤ 100000000000000 := by have q := mul_bd (a := len) (b := len) (A := 10000000) (B := 10000000) (by omega) (by omega); have q2 := Int.mul_pos (a := len) (b := len) (by omega) (by omega); omega
  rw [← eLL]
  have s1 := szZ_in (x := 2 * p + q) (by omega)
  have s1b : szZ (2 * p + q) ≤ 300000000000000 := by unfold szZ; split <;> omega
  have s2 := szZ_in (x := od) (by omega)
  have s2b : szZ od ≤ 300000000000000 := by unfold szZ; split <;> omega
  have s3 := szZ_in (x := q) (by omega)
  have s3b : szZ q ≤ 100000000000000 := by unfold szZ; split <;> omega
  have n1 := Int.mul_nonneg (show 0 ≤ L by omega) s1.1
  have n2 := Int.mul_nonneg s2.1 s2.1
  have n3 := Int.mul_nonneg (show 0 ≤ L by omega) s3.1
  have m1 := mul_bd (a := L) (b := szZ (2 * p + q)) (A := 100000000000000) (B := 300000000000000) (by omega) (by omega)
  have m2 := mul_bd (a := szZ od) (b := szZ od) (A := 300000000000000) (B := 300000000000000) (by omega) (by omega)
  have m3 := mul_bd (a := L) (b := szZ q) (A := 100000000000000) (B := 100000000000000) (by omega) (by omega)
  have n4 := Int.mul_nonneg n3 n3
  have m4 := mul_bd (a := L * szZ q) (b := L * szZ q) (A := 10000000000000000000000000000) (B := 10000000000000000000000000000) (by omega) (by omega)
  obtain ⟨XX, eXX⟩ : ∃ z : Int, z = L * (2 * p + q) - 2 * (od * od) := ⟨_, rfl⟩
  have q1 := lsz (L := L) (x := 2 * p + q)
  have q2 := szsq od
  have q3 := lqs (L := L) (q := q) (by omega)
  have q4 := sz_lq (L := L) (q := q) (by omega)
  have q5 := lqs (L := L) (q := 2 * p + q) (by omega)
  have eV : ssZ od len p q = rsZ XX (L * q) := by unfold ssZ; rw [eXX, eLL]
  refine lv_lstore (lv' := [(8, .long (lI L)), (0, .ref o), (1, .long (lI od)), (3, .int (iI len)), (4, .long (lI p)), (6, .long (lI q))]) hC.1 hC.2.1 d_Mo_squareSign_5 hl (by decide) rfl (fun ls hl => ?_)
  refine lv_aload_n hC.1 hC.2.1 d_Mo_squareSign_7 rfl (lv_at hl 1 rfl) ?_
  refine z_iconst hC d_Mo_squareSign_8 ?_
  refine lv_lload hC.1 hC.2.1 d_Mo_squareSign_9 (lv_at hl 0 rfl) ?_
  refine z_mVv (As := [.int (iI 0), .long (lI L)]) (rest := []) (wr := []) hC (c_Mo_be l D t ts o qT qC qF qY qZ qu qv qw qg qh qx qc qa qb qd qp qq cd z lv fm Wd 0 L (by decide) (by omega) _) (cw_V hC k_585 k_587 kp_34 k_6 k_588 ye_Mo_be (by decide)) hP hD hK hE hS hA [0, 1] [] (by decide) rfl rfl (by decide) (by decide) 0 (ci := 5) rfl rfl rfl rfl hl.1 rfl (Nat.le_of_ble_eq_true rfl) ⟨Nat.le_of_ble_eq_true rfl, Nat.le_of_ble_eq_true rfl⟩ d_Mo_squareSign_11 (fun u1 H locs eu1 hP hD hS => ?_)
  have b0_u1 : bk u1 (9 * 0) L := eu1.1
  have hP : va_P D classes [(o, .inr (5, [.int (iI cd), .int (iI z), .int (iI lv), .ref qT, .ref qC, .ref qF, .ref qY, .ref qZ, .ref qu, .ref qv, .ref qw, .ref qg, .ref qh, .ref qx, .ref qc, .ref qa, .ref qb, .ref qd, .int (iI fm), .ref qp, .ref qq])), (qx, eL t.2.1 54 u1)] H := hP
  have hD : va_D A [(o, .inr (5, [.int (iI cd), .int (iI z), .int (iI lv), .ref qT, .ref qC, .ref qF, .ref qY, .ref qZ, .ref qu, .ref qv, .ref qw, .ref qg, .ref qh, .ref qx, .ref qc, .ref qa, .ref qb, .ref qd, .int (iI fm), .ref qp, .ref qq])), (qx, eL t.2.1 54 u1)] := hD
  refine lv_aload_n hC.1 hC.2.1 d_Mo_squareSign_14 rfl (lv_at hl 1 rfl) ?_
  refine z_iconst hC d_Mo_squareSign_15 ?_
  refine z_ldc2 hC k_575 d_Mo_squareSign_16 ?_
  refine lv_lload hC.1 hC.2.1 d_Mo_squareSign_19 (lv_at hl 4 rfl) ?_
  refine z_lmul hC d_Mo_squareSign_21 ?_
  refine lv_lload hC.1 hC.2.1 d_Mo_squareSign_22 (lv_at hl 5 rfl) ?_
  refine z_ladd hC d_Mo_squareSign_24 ?_
  refine z_topl (z := 2 * p + q) (by omega) ?_
  refine z_roSl (As := [.long (lI (2 * p + q))]) (rest := [.int (iI 1), .ref o]) hC (c_Mo_size l D t ts (2 * p + q) (by omega)) (cw_S hC k_552 k_553 k_6 k_554 ye_Mo_size (by decide)) hP hK hE hS [] rfl rfl hl.1 rfl (Nat.le_of_ble_eq_true rfl) ⟨Nat.le_of_ble_eq_true rfl, Nat.le_of_ble_eq_true rfl⟩ d_Mo_squareSign_25 ?_
  refine z_mVv (As := [.int (iI 1), .long (lI (szZ (2 * p + q)))]) (rest := []) (wr := []) hC (c_Mo_be l D t ts o qT qC qF qY qZ qu qv qw qg qh qx qc qa qb qd qp qq cd z lv fm u1 1 (szZ (2 * p + q)) (by decide) (by have := szZ_in (x := (2 * p + q)) (by omega); omega) _) (cw_V hC k_585 k_587 kp_34 k_6 k_588 ye_Mo_be (by decide)) hP hD hK hE hS hA [0, 1] [] (by decide) rfl rfl (by decide) (by decide) 0 (ci := 5) rfl rfl rfl rfl hl.1 rfl (Nat.le_of_ble_eq_true rfl) ⟨Nat.le_of_ble_eq_true rfl, Nat.le_of_ble_eq_true rfl⟩ d_Mo_squareSign_28 (fun u2 H locs eu2 hP hD hS => ?_)
  have b0_u2 : bk u2 (9 * 0) L := bk_keep b0_u1 eu2.2 (by omega)
  have b1_u2 : bk u2 (9 * 1) (szZ (2 * p + q)) := eu2.1
  have hP : va_P D classes [(o, .inr (5, [.int (iI cd), .int (iI z), .int (iI lv), .ref qT, .ref qC, .ref qF, .ref qY, .ref qZ, .ref qu, .ref qv, .ref qw, .ref qg, .ref qh, .ref qx, .ref qc, .ref qa, .ref qb, .ref qd, .int (iI fm), .ref qp, .ref qq])), (qx, eL t.2.1 54 u2)] H := hP
  have hD : va_D A [(o, .inr (5, [.int (iI cd), .int (iI z), .int (iI lv), .ref qT, .ref qC, .ref qF, .ref qY, .ref qZ, .ref qu, .ref qv, .ref qw, .ref qg, .ref qh, .ref qx, .ref qc, .ref qa, .ref qb, .ref qd, .int (iI fm), .ref qp, .ref qq])), (qx, eL t.2.1 54 u2)] := hD
  refine lv_aload_n hC.1 hC.2.1 d_Mo_squareSign_31 rfl (lv_at hl 1 rfl) ?_
  refine z_iconst hC d_Mo_squareSign_32 ?_
  refine z_iconst hC d_Mo_squareSign_33 ?_
  refine z_iconst hC d_Mo_squareSign_34 ?_
  refine z_mVv (As := [.int (iI 2), .int (iI 0), .int (iI 1)]) (rest := []) (wr := []) hC (c_Mo_product l D t ts o qT qC qF qY qZ qu qv qw qg qh qx qc qa qb qd qp qq cd z lv fm u2 2 0 1 L (szZ (2 * p + q)) (by decide) (by decide) (by decide) (by decide) (by decide) b0_u2 b1_u2 (by omega) (by omega) (by have := p9; have := mul_bd (a := L) (b := szZ (2 * p + q)) (A := 100000000000000) (B := 300000000000000) (by omega) (by omega); omega) _) (cw_V hC k_590 k_592 kp_35 k_6 k_593 ye_Mo_product (by decide)) hP hD hK hE hS hA [0, 1] [] (by decide) rfl rfl (by decide) (by decide) 0 (ci := 5) rfl rfl rfl rfl hl.1 rfl (Nat.le_of_ble_eq_true rfl) ⟨Nat.le_of_ble_eq_true rfl, Nat.le_of_ble_eq_true rfl⟩ d_Mo_squareSign_35 (fun u3 H locs eu3 hP hD hS => ?_)
  have b0_u3 : bk u3 (9 * 0) L := bk_keep b0_u2 eu3.2 (by omega)
  have b1_u3 : bk u3 (9 * 1) (szZ (2 * p + q)) := bk_keep b1_u2 eu3.2 (by omega)
  have b2_u3 : bk u3 (9 * 2) (L * (szZ (2 * p + q))) := eu3.1
  have hP : va_P D classes [(o, .inr (5, [.int (iI cd), .int (iI z), .int (iI lv), .ref qT, .ref qC, .ref qF, .ref qY, .ref qZ, .ref qu, .ref qv, .ref qw, .ref qg, .ref qh, .ref qx, .ref qc, .ref qa, .ref qb, .ref qd, .int (iI fm), .ref qp, .ref qq])), (qx, eL t.2.1 54 u3)] H := hP
  have hD : va_D A [(o, .inr (5, [.int (iI cd), .int (iI z), .int (iI lv), .ref qT, .ref qC, .ref qF, .ref qY, .ref qZ, .ref qu, .ref qv, .ref qw, .ref qg, .ref qh, .ref qx, .ref qc, .ref qa, .ref qb, .ref qd, .int (iI fm), .ref qp, .ref qq])), (qx, eL t.2.1 54 u3)] := hD
  refine lv_aload_n hC.1 hC.2.1 d_Mo_squareSign_38 rfl (lv_at hl 1 rfl) ?_
  refine z_iconst hC d_Mo_squareSign_39 ?_
  refine lv_lload_n hC.1 hC.2.1 d_Mo_squareSign_40 rfl (lv_at hl 2 rfl) ?_
  refine z_roSl (As := [.long (lI od)]) (rest := [.int (iI 0), .ref o]) hC (c_Mo_size l D t ts od (by omega)) (cw_S hC k_552 k_553 k_6 k_554 ye_Mo_size (by decide)) hP hK hE hS [] rfl rfl hl.1 rfl (Nat.le_of_ble_eq_true rfl) ⟨Nat.le_of_ble_eq_true rfl, Nat.le_of_ble_eq_true rfl⟩ d_Mo_squareSign_41 ?_
  refine z_mVv (As := [.int (iI 0), .long (lI (szZ od))]) (rest := []) (wr := []) hC (c_Mo_be l D t ts o qT qC qF qY qZ qu qv qw qg qh qx qc qa qb qd qp qq cd z lv fm u3 0 (szZ od) (by decide) (by have := szZ_in (x := od) (by omega); omega) _) (cw_V hC k_585 k_587 kp_34 k_6 k_588 ye_Mo_be (by decide)) hP hD hK hE hS hA [0, 1] [] (by decide) rfl rfl (by decide) (by decide) 0 (ci := 5) rfl rfl rfl rfl hl.1 rfl (Nat.le_of_ble_eq_true rfl) ⟨Nat.le_of_ble_eq_true rfl, Nat.le_of_ble_eq_true rfl⟩ d_Mo_squareSign_44 (fun u4 H locs eu4 hP hD hS => ?_)
  have b1_u4 : bk u4 (9 * 1) (szZ (2 * p + q)) := bk_keep b1_u3 eu4.2 (by omega)
  have b2_u4 : bk u4 (9 * 2) (L * (szZ (2 * p + q))) := bk_keep b2_u3 eu4.2 (by omega)
  have b0_u4 : bk u4 (9 * 0) (szZ od) := eu4.1
  have hP : va_P D classes [(o, .inr (5, [.int (iI cd), .int (iI z), .int (iI lv), .ref qT, .ref qC, .ref qF, .ref qY, .ref qZ, .ref qu, .ref qv, .ref qw, .ref qg, .ref qh, .ref qx, .ref qc, .ref qa, .ref qb, .ref qd, .int (iI fm), .ref qp, .ref qq])), (qx, eL t.2.1 54 u4)] H := hP
  have hD : va_D A [(o, .inr (5, [.int (iI cd), .int (iI z), .int (iI lv), .ref qT, .ref qC, .ref qF, .ref qY, .ref qZ, .ref qu, .ref qv, .ref qw, .ref qg, .ref qh, .ref qx, .ref qc, .ref qa, .ref qb, .ref qd, .int (iI fm), .ref qp, .ref qq])), (qx, eL t.2.1 54 u4)] := hD
  refine lv_aload_n hC.1 hC.2.1 d_Mo_squareSign_47 rfl (lv_at hl 1 rfl) ?_
  refine z_iconst hC d_Mo_squareSign_48 ?_
  refine z_iconst hC d_Mo_squareSign_49 ?_
  refine z_iconst hC d_Mo_squareSign_50 ?_
  refine z_mVv (As := [.int (iI 3), .int (iI 0), .int (iI 0)]) (rest := []) (wr := []) hC (c_Mo_product l D t ts o qT qC qF qY qZ qu qv qw qg qh qx qc qa qb qd qp qq cd z lv fm u4 3 0 0 (szZ od) (szZ od) (by decide) (by decide) (by decide) (by decide) (by decide) b0_u4 b0_u4 (by omega) (by omega) (by have := p9; have := mul_bd (a := szZ od) (b := szZ od) (A := 300000000000000) (B := 300000000000000) (by omega) (by omega); omega) _) (cw_V hC k_590 k_592 kp_35 k_6 k_593 ye_Mo_product (by decide)) hP hD hK hE hS hA [0, 1] [] (by decide) rfl rfl (by decide) (by decide) 0 (ci := 5) rfl rfl rfl rfl hl.1 rfl (Nat.le_of_ble_eq_true rfl) ⟨Nat.le_of_ble_eq_true rfl, Nat.le_of_ble_eq_true rfl⟩ d_Mo_squareSign_51 (fun u5 H locs eu5 hP hD hS => ?_)
  have b1_u5 : bk u5 (9 * 1) (szZ (2 * p + q)) := bk_keep b1_u4 eu5.2 (by omega)
  have b2_u5 : bk u5 (9 * 2) (L * (szZ (2 * p + q))) := bk_keep b2_u4 eu5.2 (by omega)
  have b0_u5 : bk u5 (9 * 0) (szZ od) := bk_keep b0_u4 eu5.2 (by omega)
  have b3_u5 : bk u5 (9 * 3) ((szZ od) * (szZ od)) := eu5.1
  have hP : va_P D classes [(o, .inr (5, [.int (iI cd), .int (iI z), .int (iI lv), .ref qT, .ref qC, .ref qF, .ref qY, .ref qZ, .ref qu, .ref qv, .ref qw, .ref qg, .ref qh, .ref qx, .ref qc, .ref qa, .ref qb, .ref qd, .int (iI fm), .ref qp, .ref qq])), (qx, eL t.2.1 54 u5)] H := hP
  have hD : va_D A [(o, .inr (5, [.int (iI cd), .int (iI z), .int (iI lv), .ref qT, .ref qC, .ref qF, .ref qY, .ref qZ, .ref qu, .ref qv, .ref qw, .ref qg, .ref qh, .ref qx, .ref qc, .ref qa, .ref qb, .ref qd, .int (iI fm), .ref qp, .ref qq])), (qx, eL t.2.1 54 u5)] := hD
  refine lv_aload_n hC.1 hC.2.1 d_Mo_squareSign_54 rfl (lv_at hl 1 rfl) ?_
  refine z_iconst hC d_Mo_squareSign_55 ?_
  refine z_ldc2 hC k_575 d_Mo_squareSign_56 ?_
  refine z_mVv (As := [.int (iI 0), .long (lI 2)]) (rest := []) (wr := []) hC (c_Mo_be l D t ts o qT qC qF qY qZ qu qv qw qg qh qx qc qa qb qd qp qq cd z lv fm u5 0 2 (by decide) (by decide) _) (cw_V hC k_585 k_587 kp_34 k_6 k_588 ye_Mo_be (by decide)) hP hD hK hE hS hA [0, 1] [] (by decide) rfl rfl (by decide) (by decide) 0 (ci := 5) rfl rfl rfl rfl hl.1 rfl (Nat.le_of_ble_eq_true rfl) ⟨Nat.le_of_ble_eq_true rfl, Nat.le_of_ble_eq_true rfl⟩ d_Mo_squareSign_59 (fun u6 H locs eu6 hP hD hS => ?_)
  have b1_u6 : bk u6 (9 * 1) (szZ (2 * p + q)) := bk_keep b1_u5 eu6.2 (by omega)
  have b2_u6 : bk u6 (9 * 2) (L * (szZ (2 * p + q))) := bk_keep b2_u5 eu6.2 (by omega)
  have b3_u6 : bk u6 (9 * 3) ((szZ od) * (szZ od)) := bk_keep b3_u5 eu6.2 (by omega)
  have b0_u6 : bk u6 (9 * 0) 2 := eu6.1
  have hP : va_P D classes [(o, .inr (5, [.int (iI cd), .int (iI z), .int (iI lv), .ref qT, .ref qC, .ref qF, .ref qY, .ref qZ, .ref qu, .ref qv, .ref qw, .ref qg, .ref qh, .ref qx, .ref qc, .ref qa, .ref qb, .ref qd, .int (iI fm), .ref qp, .ref qq])), (qx, eL t.2.1 54 u6)] H := hP
  have hD : va_D A [(o, .inr (5, [.int (iI cd), .int (iI z), .int (iI lv), .ref qT, .ref qC, .ref qF, .ref qY, .ref qZ, .ref qu, .ref qv, .ref qw, .ref qg, .ref qh, .ref qx, .ref qc, .ref qa, .ref qb, .ref qd, .int (iI fm), .ref qp, .ref qq])), (qx, eL t.2.1 54 u6)] := hD
  refine lv_aload_n hC.1 hC.2.1 d_Mo_squareSign_62 rfl (lv_at hl 1 rfl) ?_
  refine z_iconst hC d_Mo_squareSign_63 ?_
  refine z_iconst hC d_Mo_squareSign_64 ?_
  refine z_iconst hC d_Mo_squareSign_65 ?_
  refine z_mVv (As := [.int (iI 1), .int (iI 3), .int (iI 0)]) (rest := []) (wr := []) hC (c_Mo_product l D t ts o qT qC qF qY qZ qu qv qw qg qh qx qc qa qb qd qp qq cd z lv fm u6 1 3 0 ((szZ od) * (szZ od)) 2 (by decide) (by decide) (by decide) (by decide) (by decide) b3_u6 b0_u6 (by omega) (by omega) (by have := p9; omega) _) (cw_V hC k_590 k_592 kp_35 k_6 k_593 ye_Mo_product (by decide)) hP hD hK hE hS hA [0, 1] [] (by decide) rfl rfl (by decide) (by decide) 0 (ci := 5) rfl rfl rfl rfl hl.1 rfl (Nat.le_of_ble_eq_true rfl) ⟨Nat.le_of_ble_eq_true rfl, Nat.le_of_ble_eq_true rfl⟩ d_Mo_squareSign_66 (fun u7 H locs eu7 hP hD hS => ?_)
  have b2_u7 : bk u7 (9 * 2) (L * (szZ (2 * p + q))) := bk_keep b2_u6 eu7.2 (by omega)
  have b3_u7 : bk u7 (9 * 3) ((szZ od) * (szZ od)) := bk_keep b3_u6 eu7.2 (by omega)
  have b0_u7 : bk u7 (9 * 0) 2 := bk_keep b0_u6 eu7.2 (by omega)
  have b1_u7 : bk u7 (9 * 1) (((szZ od) * (szZ od)) * 2) := eu7.1
  have hP : va_P D classes [(o, .inr (5, [.int (iI cd), .int (iI z), .int (iI lv), .ref qT, .ref qC, .ref qF, .ref qY, .ref qZ, .ref qu, .ref qv, .ref qw, .ref qg, .ref qh, .ref qx, .ref qc, .ref qa, .ref qb, .ref qd, .int (iI fm), .ref qp, .ref qq])), (qx, eL t.2.1 54 u7)] H := hP
  have hD : va_D A [(o, .inr (5, [.int (iI cd), .int (iI z), .int (iI lv), .ref qT, .ref qC, .ref qF, .ref qY, .ref qZ, .ref qu, .ref qv, .ref qw, .ref qg, .ref qh, .ref qx, .ref qc, .ref qa, .ref qb, .ref qd, .int (iI fm), .ref qp, .ref qq])), (qx, eL t.2.1 54 u7)] := hD
  refine z_ldc2 hC k_575 d_Mo_squareSign_69 ?_
  refine lv_lload hC.1 hC.2.1 d_Mo_squareSign_72 (lv_at hl 4 rfl) ?_
  refine z_lmul hC d_Mo_squareSign_74 ?_
  refine lv_lload hC.1 hC.2.1 d_Mo_squareSign_75 (lv_at hl 5 rfl) ?_
  refine z_ladd hC d_Mo_squareSign_77 ?_
  refine z_topl (z := 2 * p + q) (by omega) ?_
  refine z_lconst (v := 0) hC d_Mo_squareSign_78 (by decide) ?_
  refine z_lcmp_ge (tgt := 87) hC d_Mo_squareSign_79 d_Mo_squareSign_80 (by decide) (by omega) (by decide) (fun h79 => ?_) (fun h79 => ?_)
  · refine z_iconst hC d_Mo_squareSign_87 ?_
    refine lv_istore (lv' := [(10, .int (iI 0)), (8, .long (lI L)), (0, .ref o), (1, .long (lI od)), (3, .int (iI len)), (4, .long (lI p)), (6, .long (lI q))]) hC.1 hC.2.1 d_Mo_squareSign_88 hl (by decide) rfl (fun ls hl => ?_)
    refine lv_iload hC.1 hC.2.1 d_Mo_squareSign_90 (lv_at hl 0 rfl) ?_
    refine z_if_eq (tgt := 99) hC d_Mo_squareSign_92 (by decide) (by decide) (fun _ => ?_) (fun h => absurd h (by decide))
    refine lv_aload_n hC.1 hC.2.1 d_Mo_squareSign_99 rfl (lv_at hl 2 rfl) ?_
    refine z_iconst hC d_Mo_squareSign_100 ?_
    refine z_iconst hC d_Mo_squareSign_101 ?_
    refine z_roVi (As := [.int (iI 2), .int (iI 1)]) (rest := []) hC (c_Mo_compare l D t ts o qT qC qF qY qZ qu qv qw qg qh qx qc qa qb qd qp qq cd z lv fm u7 2 1 (L * (szZ (2 * p + q))) (((szZ od) * (szZ od)) * 2) (by decide) (by decide) b2_u7 b1_u7) (cw_V hC k_595 k_597 kp_36 k_6 k_598 ye_Mo_compare (by decide)) hP hK hE hS [0, 1] rfl 0 (ci := 5) rfl rfl rfl rfl hl.1 rfl (Nat.le_of_ble_eq_true rfl) ⟨Nat.le_of_ble_eq_true rfl, Nat.le_of_ble_eq_true rfl⟩ d_Mo_squareSign_102 ?_
    refine lv_istore (lv' := [(11, .int (iI (sgn ((L * (szZ (2 * p + q))) - (((szZ od) * (szZ od)) * 2))))), (10, .int (iI 0)), (8, .long (lI L)), (0, .ref o), (1, .long (lI od)), (3, .int (iI len)), (4, .long (lI p)), (6, .long (lI q))]) hC.1 hC.2.1 d_Mo_squareSign_105 hl (by decide) rfl (fun ls hl => ?_)
    refine lv_iload hC.1 hC.2.1 d_Mo_squareSign_107 (lv_at hl 1 rfl) ?_
    refine z_if_eq (tgt := 116) hC d_Mo_squareSign_109 (by decide) (by decide) (fun _ => ?_) (fun h => absurd h (by decide))
    refine lv_iload hC.1 hC.2.1 d_Mo_squareSign_116 (lv_at hl 0 rfl) ?_
    refine z_if_lt (tgt := 125) hC d_Mo_squareSign_118 (by decide) (by have := sgn_in ((L * (szZ (2 * p + q))) - (((szZ od) * (szZ od)) * 2)); omega) (fun h118 => ?_) (fun h118 => ?_)
    · refine z_iconst hC d_Mo_squareSign_125 ?_
      refine lv_istore (lv' := [(12, .int (iI 1)), (11, .int (iI (sgn ((L * (szZ (2 * p + q))) - (((szZ od) * (szZ od)) * 2))))), (10, .int (iI 0)), (8, .long (lI L)), (0, .ref o), (1, .long (lI od)), (3, .int (iI len)), (4, .long (lI p)), (6, .long (lI q))]) hC.1 hC.2.1 d_Mo_squareSign_126 hl (by decide) rfl (fun ls hl => ?_)
      refine z_iconst hC d_Mo_squareSign_128 ?_
      refine lv_istore (lv' := [(13, .int (iI 0)), (12, .int (iI 1)), (11, .int (iI (sgn ((L * (szZ (2 * p + q))) - (((szZ od) * (szZ od)) * 2))))), (10, .int (iI 0)), (8, .long (lI L)), (0, .ref o), (1, .long (lI od)), (3, .int (iI len)), (4, .long (lI p)), (6, .long (lI q))]) hC.1 hC.2.1 d_Mo_squareSign_129 hl (by decide) rfl (fun ls hl => ?_)
      refine lv_iload hC.1 hC.2.1 d_Mo_squareSign_131 (lv_at hl 0 rfl) ?_
      refine z_bipush hC d_Mo_squareSign_133 (by decide) ?_
      refine z_icmp_ge (tgt := 167) hC d_Mo_squareSign_135 (by decide) (by decide) (by decide) (fun h => absurd h (by decide)) (fun _ => ?_)
      refine lv_aload_n hC.1 hC.2.1 d_Mo_squareSign_138 rfl (lv_at hl 5 rfl) ?_
      refine z_get (ci := 5) (C := R_Mo) (T := F_Mo) (N := 21) (v := .ref qx) hC in_Mo hK hP 0 rfl rfl 13 (by decide) k_466 rfl d_Mo_squareSign_139 ?_
      refine z_bipush hC d_Mo_squareSign_142 (by decide) ?_
      refine lv_iload hC.1 hC.2.1 d_Mo_squareSign_144 (lv_at hl 0 rfl) ?_
      refine z_iadd hC d_Mo_squareSign_146 ?_
      refine z_topi (z := 36) (by omega) ?_
      refine lv_aload_n hC.1 hC.2.1 d_Mo_squareSign_147 rfl (lv_at hl 5 rfl) ?_
      refine z_get (ci := 5) (C := R_Mo) (T := F_Mo) (N := 21) (v := .ref qx) hC in_Mo hK hP 0 rfl rfl 13 (by decide) k_466 rfl d_Mo_squareSign_148 ?_
      refine z_bipush hC d_Mo_squareSign_151 (by decide) ?_
      refine lv_iload hC.1 hC.2.1 d_Mo_squareSign_153 (lv_at hl 1 rfl) ?_
      refine z_imul hC d_Mo_squareSign_155 ?_
      refine z_topi (z := 9) (by omega) ?_
      refine lv_iload hC.1 hC.2.1 d_Mo_squareSign_156 (lv_at hl 0 rfl) ?_
      refine z_iadd hC d_Mo_squareSign_158 ?_
      refine z_topi (z := 9) (by omega) ?_
      refine z_lald hC hK hP 1 rfl (by omega) d_Mo_squareSign_159 ?_
      refine z_last (ws' := [(o, .inr (5, [.int (iI cd), .int (iI z), .int (iI lv), .ref qT, .ref qC, .ref qF, .ref qY, .ref qZ, .ref qu, .ref qv, .ref qw, .ref qg, .ref qh, .ref qx, .ref qc, .ref qa, .ref qb, .ref qd, .int (iI fm), .ref qp, .ref qq])), (qx, eL t.2.1 54 (uZ u7 36 (u7 9)))]) hC hK hP hD hS 1 rfl (by omega) rfl d_Mo_squareSign_160 (fun H locs hP hD hS => ?_)
      refine lv_iinc (v := iI 1) (lv' := [(13, .int (iI 1)), (12, .int (iI 1)), (11, .int (iI (sgn ((L * (szZ (2 * p + q))) - (((szZ od) * (szZ od)) * 2))))), (10, .int (iI 0)), (8, .long (lI L)), (0, .ref o), (1, .long (lI od)), (3, .int (iI len)), (4, .long (lI p)), (6, .long (lI q))]) hC.1 hC.2.1 d_Mo_squareSign_161 hl (k := 0) rfl (z_inc (by omega)) (by decide) rfl (fun ls hl => ?_)
      refine z_goto (tgt := 131) hC d_Mo_squareSign_164 (by decide) ?_
      refine lv_iload hC.1 hC.2.1 d_Mo_squareSign_131 (lv_at hl 0 rfl) ?_
      refine z_bipush hC d_Mo_squareSign_133 (by decide) ?_
      refine z_icmp_ge (tgt := 167) hC d_Mo_squareSign_135 (by decide) (by decide) (by decide) (fun h => absurd h (by decide)) (fun _ => ?_)
      refine lv_aload_n hC.1 hC.2.1 d_Mo_squareSign_138 rfl (lv_at hl 5 rfl) ?_
      refine z_get (ci := 5) (C := R_Mo) (T := F_Mo) (N := 21) (v := .ref qx) hC in_Mo hK hP 0 rfl rfl 13 (by decide) k_466 rfl d_Mo_squareSign_139 ?_
      refine z_bipush hC d_Mo_squareSign_142 (by decide) ?_
      refine lv_iload hC.1 hC.2.1 d_Mo_squareSign_144 (lv_at hl 0 rfl) ?_
      refine z_iadd hC d_Mo_squareSign_146 ?_
      refine z_topi (z := 37) (by omega) ?_
      refine lv_aload_n hC.1 hC.2.1 d_Mo_squareSign_147 rfl (lv_at hl 5 rfl) ?_
      refine z_get (ci := 5) (C := R_Mo) (T := F_Mo) (N := 21) (v := .ref qx) hC in_Mo hK hP 0 rfl rfl 13 (by decide) k_466 rfl d_Mo_squareSign_148 ?_
      refine z_bipush hC d_Mo_squareSign_151 (by decide) ?_
      refine lv_iload hC.1 hC.2.1 d_Mo_squareSign_153 (lv_at hl 1 rfl) ?_
      refine z_imul hC d_Mo_squareSign_155 ?_
      refine z_topi (z := 9) (by omega) ?_
      refine lv_iload hC.1 hC.2.1 d_Mo_squareSign_156 (lv_at hl 0 rfl) ?_
      refine z_iadd hC d_Mo_squareSign_158 ?_
      refine z_topi (z := 10) (by omega) ?_
      refine z_lald hC hK hP 1 rfl (by omega) d_Mo_squareSign_159 ?_
      refine z_topl (z := u7 10) (by rw [uZ_n (by omega)]) ?_
      refine z_last (ws' := [(o, .inr (5, [.int (iI cd), .int (iI z), .int (iI lv), .ref qT, .ref qC, .ref qF, .ref qY, .ref qZ, .ref qu, .ref qv, .ref qw, .ref qg, .ref qh, .ref qx, .ref qc, .ref qa, .ref qb, .ref qd, .int (iI fm), .ref qp, .ref qq])), (qx, eL t.2.1 54 (uZ (uZ u7 36 (u7 9)) 37 (u7 10)))]) hC hK hP hD hS 1 rfl (by omega) rfl d_Mo_squareSign_160 (fun H locs hP hD hS => ?_)
      refine lv_iinc (v := iI 2) (lv' := [(13, .int (iI 2)), (12, .int (iI 1)), (11, .int (iI (sgn ((L * (szZ (2 * p + q))) - (((szZ od) * (szZ od)) * 2))))), (10, .int (iI 0)), (8, .long (lI L)), (0, .ref o), (1, .long (lI od)), (3, .int (iI len)), (4, .long (lI p)), (6, .long (lI q))]) hC.1 hC.2.1 d_Mo_squareSign_161 hl (k := 0) rfl (z_inc (by omega)) (by decide) rfl (fun ls hl => ?_)
      refine z_goto (tgt := 131) hC d_Mo_squareSign_164 (by decide) ?_
      refine lv_iload hC.1 hC.2.1 d_Mo_squareSign_131 (lv_at hl 0 rfl) ?_
      refine z_bipush hC d_Mo_squareSign_133 (by decide) ?_
      refine z_icmp_ge (tgt := 167) hC d_Mo_squareSign_135 (by decide) (by decide) (by decide) (fun h => absurd h (by decide)) (fun _ => ?_)
      refine lv_aload_n hC.1 hC.2.1 d_Mo_squareSign_138 rfl (lv_at hl 5 rfl) ?_
      refine z_get (ci := 5) (C := R_Mo) (T := F_Mo) (N := 21) (v := .ref qx) hC in_Mo hK hP 0 rfl rfl 13 (by decide) k_466 rfl d_Mo_squareSign_139 ?_
      refine z_bipush hC d_Mo_squareSign_142 (by decide) ?_
      refine lv_iload hC.1 hC.2.1 d_Mo_squareSign_144 (lv_at hl 0 rfl) ?_
      refine z_iadd hC d_Mo_squareSign_146 ?_
      refine z_topi (z := 38) (by omega) ?_
      refine lv_aload_n hC.1 hC.2.1 d_Mo_squareSign_147 rfl (lv_at hl 5 rfl) ?_
      refine z_get (ci := 5) (C := R_Mo) (T := F_Mo) (N := 21) (v := .ref qx) hC in_Mo hK hP 0 rfl rfl 13 (by decide) k_466 rfl d_Mo_squareSign_148 ?_
      refine z_bipush hC d_Mo_squareSign_151 (by decide) ?_
      refine lv_iload hC.1 hC.2.1 d_Mo_squareSign_153 (lv_at hl 1 rfl) ?_
      refine z_imul hC d_Mo_squareSign_155 ?_
      refine z_topi (z := 9) (by omega) ?_
      refine lv_iload hC.1 hC.2.1 d_Mo_squareSign_156 (lv_at hl 0 rfl) ?_
      refine z_iadd hC d_Mo_squareSign_158 ?_
      refine z_topi (z := 11) (by omega) ?_
      refine z_lald hC hK hP 1 rfl (by omega) d_Mo_squareSign_159 ?_
      refine z_topl (z := u7 11) (by rw [uZ_n (by omega), uZ_n (by omega)]) ?_
      refine z_last (ws' := [(o, .inr (5, [.int (iI cd), .int (iI z), .int (iI lv), .ref qT, .ref qC, .ref qF, .ref qY, .ref qZ, .ref qu, .ref qv, .ref qw, .ref qg, .ref qh, .ref qx, .ref qc, .ref qa, .ref qb, .ref qd, .int (iI fm), .ref qp, .ref qq])), (qx, eL t.2.1 54 (uZ (uZ (uZ u7 36 (u7 9)) 37 (u7 10)) 38 (u7 11)))]) hC hK hP hD hS 1 rfl (by omega) rfl d_Mo_squareSign_160 (fun H locs hP hD hS => ?_)
      refine lv_iinc (v := iI 3) (lv' := [(13, .int (iI 3)), (12, .int (iI 1)), (11, .int (iI (sgn ((L * (szZ (2 * p + q))) - (((szZ od) * (szZ od)) * 2))))), (10, .int (iI 0)), (8, .long (lI L)), (0, .ref o), (1, .long (lI od)), (3, .int (iI len)), (4, .long (lI p)), (6, .long (lI q))]) hC.1 hC.2.1 d_Mo_squareSign_161 hl (k := 0) rfl (z_inc (by omega)) (by decide) rfl (fun ls hl => ?_)
      refine z_goto (tgt := 131) hC d_Mo_squareSign_164 (by decide) ?_
      refine lv_iload hC.1 hC.2.1 d_Mo_squareSign_131 (lv_at hl 0 rfl) ?_
      refine z_bipush hC d_Mo_squareSign_133 (by decide) ?_
      refine z_icmp_ge (tgt := 167) hC d_Mo_squareSign_135 (by decide) (by decide) (by decide) (fun h => absurd h (by decide)) (fun _ => ?_)
      refine lv_aload_n hC.1 hC.2.1 d_Mo_squareSign_138 rfl (lv_at hl 5 rfl) ?_
      refine z_get (ci := 5) (C := R_Mo) (T := F_Mo) (N := 21) (v := .ref qx) hC in_Mo hK hP 0 rfl rfl 13 (by decide) k_466 rfl d_Mo_squareSign_139 ?_
      refine z_bipush hC d_Mo_squareSign_142 (by decide) ?_
      refine lv_iload hC.1 hC.2.1 d_Mo_squareSign_144 (lv_at hl 0 rfl) ?_
      refine z_iadd hC d_Mo_squareSign_146 ?_
      refine z_topi (z := 39) (by omega) ?_
      refine lv_aload_n hC.1 hC.2.1 d_Mo_squareSign_147 rfl (lv_at hl 5 rfl) ?_
      refine z_get (ci := 5) (C := R_Mo) (T := F_Mo) (N := 21) (v := .ref qx) hC in_Mo hK hP 0 rfl rfl 13 (by decide) k_466 rfl d_Mo_squareSign_148 ?_
      refine z_bipush hC d_Mo_squareSign_151 (by decide) ?_
      refine lv_iload hC.1 hC.2.1 d_Mo_squareSign_153 (lv_at hl 1 rfl) ?_
      refine z_imul hC d_Mo_squareSign_155 ?_
      refine z_topi (z := 9) (by omega) ?_
      refine lv_iload hC.1 hC.2.1 d_Mo_squareSign_156 (lv_at hl 0 rfl) ?_
      refine z_iadd hC d_Mo_squareSign_158 ?_
      refine z_topi (z := 12) (by omega) ?_
      refine z_lald hC hK hP 1 rfl (by omega) d_Mo_squareSign_159 ?_
      refine z_topl (z := u7 12) (by rw [uZ_n (by omega), uZ_n (by omega), uZ_n (by omega)]) ?_
      refine z_last (ws' := [(o, .inr (5, [.int (iI cd), .int (iI z), .int (iI lv), .ref qT, .ref qC, .ref qF, .ref qY, .ref qZ, .ref qu, .ref qv, .ref qw, .ref qg, .ref qh, .ref qx, .ref qc, .ref qa, .ref qb, .ref qd, .int (iI fm), .ref qp, .ref qq])), (qx, eL t.2.1 54 (uZ (uZ (uZ (uZ u7 36 (u7 9)) 37 (u7 10)) 38 (u7 11)) 39 (u7 12)))]) hC hK hP hD hS 1 rfl (by omega) rfl d_Mo_squareSign_160 (fun H locs hP hD hS => ?_)
      refine lv_iinc (v := iI 4) (lv' := [(13, .int (iI 4)), (12, .int (iI 1)), (11, .int (iI (sgn ((L * (szZ (2 * p + q))) - (((szZ od) * (szZ od)) * 2))))), (10, .int (iI 0)), (8, .long (lI L)), (0, .ref o), (1, .long (lI od)), (3, .int (iI len)), (4, .long (lI p)), (6, .long (lI q))]) hC.1 hC.2.1 d_Mo_squareSign_161 hl (k := 0) rfl (z_inc (by omega)) (by decide) rfl (fun ls hl => ?_)
      refine z_goto (tgt := 131) hC d_Mo_squareSign_164 (by decide) ?_
      refine lv_iload hC.1 hC.2.1 d_Mo_squareSign_131 (lv_at hl 0 rfl) ?_
      refine z_bipush hC d_Mo_squareSign_133 (by decide) ?_
      refine z_icmp_ge (tgt := 167) hC d_Mo_squareSign_135 (by decide) (by decide) (by decide) (fun h => absurd h (by decide)) (fun _ => ?_)
      refine lv_aload_n hC.1 hC.2.1 d_Mo_squareSign_138 rfl (lv_at hl 5 rfl) ?_
      refine z_get (ci := 5) (C := R_Mo) (T := F_Mo) (N := 21) (v := .ref qx) hC in_Mo hK hP 0 rfl rfl 13 (by decide) k_466 rfl d_Mo_squareSign_139 ?_
      refine z_bipush hC d_Mo_squareSign_142 (by decide) ?_
      refine lv_iload hC.1 hC.2.1 d_Mo_squareSign_144 (lv_at hl 0 rfl) ?_
      refine z_iadd hC d_Mo_squareSign_146 ?_
      refine z_topi (z := 40) (by omega) ?_
      refine lv_aload_n hC.1 hC.2.1 d_Mo_squareSign_147 rfl (lv_at hl 5 rfl) ?_
      refine z_get (ci := 5) (C := R_Mo) (T := F_Mo) (N := 21) (v := .ref qx) hC in_Mo hK hP 0 rfl rfl 13 (by decide) k_466 rfl d_Mo_squareSign_148 ?_
      refine z_bipush hC d_Mo_squareSign_151 (by decide) ?_
      refine lv_iload hC.1 hC.2.1 d_Mo_squareSign_153 (lv_at hl 1 rfl) ?_
      refine z_imul hC d_Mo_squareSign_155 ?_
      refine z_topi (z := 9) (by omega) ?_
      refine lv_iload hC.1 hC.2.1 d_Mo_squareSign_156 (lv_at hl 0 rfl) ?_
      refine z_iadd hC d_Mo_squareSign_158 ?_
      refine z_topi (z := 13) (by omega) ?_
      refine z_lald hC hK hP 1 rfl (by omega) d_Mo_squareSign_159 ?_
      refine z_topl (z := u7 13) (by rw [uZ_n (by omega), uZ_n (by omega), uZ_n (by omega), uZ_n (by omega)]) ?_
      refine z_last (ws' := [(o, .inr (5, [.int (iI cd), .int (iI z), .int (iI lv), .ref qT, .ref qC, .ref qF, .ref qY, .ref qZ, .ref qu, .ref qv, .ref qw, .ref qg, .ref qh, .ref qx, .ref qc, .ref qa, .ref qb, .ref qd, .int (iI fm), .ref qp, .ref qq])), (qx, eL t.2.1 54 (uZ (uZ (uZ (uZ (uZ u7 36 (u7 9)) 37 (u7 10)) 38 (u7 11)) 39 (u7 12)) 40 (u7 13)))]) hC hK hP hD hS 1 rfl (by omega) rfl d_Mo_squareSign_160 (fun H locs hP hD hS => ?_)
      refine lv_iinc (v := iI 5) (lv' := [(13, .int (iI 5)), (12, .int (iI 1)), (11, .int (iI (sgn ((L * (szZ (2 * p + q))) - (((szZ od) * (szZ od)) * 2))))), (10, .int (iI 0)), (8, .long (lI L)), (0, .ref o), (1, .long (lI od)), (3, .int (iI len)), (4, .long (lI p)), (6, .long (lI q))]) hC.1 hC.2.1 d_Mo_squareSign_161 hl (k := 0) rfl (z_inc (by omega)) (by decide) rfl (fun ls hl => ?_)
      refine z_goto (tgt := 131) hC d_Mo_squareSign_164 (by decide) ?_
      refine lv_iload hC.1 hC.2.1 d_Mo_squareSign_131 (lv_at hl 0 rfl) ?_
      refine z_bipush hC d_Mo_squareSign_133 (by decide) ?_
      refine z_icmp_ge (tgt := 167) hC d_Mo_squareSign_135 (by decide) (by decide) (by decide) (fun h => absurd h (by decide)) (fun _ => ?_)
      refine lv_aload_n hC.1 hC.2.1 d_Mo_squareSign_138 rfl (lv_at hl 5 rfl) ?_
      refine z_get (ci := 5) (C := R_Mo) (T := F_Mo) (N := 21) (v := .ref qx) hC in_Mo hK hP 0 rfl rfl 13 (by decide) k_466 rfl d_Mo_squareSign_139 ?_
      refine z_bipush hC d_Mo_squareSign_142 (by decide) ?_
      refine lv_iload hC.1 hC.2.1 d_Mo_squareSign_144 (lv_at hl 0 rfl) ?_
      refine z_iadd hC d_Mo_squareSign_146 ?_
      refine z_topi (z := 41) (by omega) ?_
      refine lv_aload_n hC.1 hC.2.1 d_Mo_squareSign_147 rfl (lv_at hl 5 rfl) ?_
      refine z_get (ci := 5) (C := R_Mo) (T := F_Mo) (N := 21) (v := .ref qx) hC in_Mo hK hP 0 rfl rfl 13 (by decide) k_466 rfl d_Mo_squareSign_148 ?_
      refine z_bipush hC d_Mo_squareSign_151 (by decide) ?_
      refine lv_iload hC.1 hC.2.1 d_Mo_squareSign_153 (lv_at hl 1 rfl) ?_
      refine z_imul hC d_Mo_squareSign_155 ?_
      refine z_topi (z := 9) (by omega) ?_
      refine lv_iload hC.1 hC.2.1 d_Mo_squareSign_156 (lv_at hl 0 rfl) ?_
      refine z_iadd hC d_Mo_squareSign_158 ?_
      refine z_topi (z := 14) (by omega) ?_
      refine z_lald hC hK hP 1 rfl (by omega) d_Mo_squareSign_159 ?_
      refine z_topl (z := u7 14) (by rw [uZ_n (by omega), uZ_n (by omega), uZ_n (by omega), uZ_n (by omega), uZ_n (by omega)]) ?_
      refine z_last (ws' := [(o, .inr (5, [.int (iI cd), .int (iI z), .int (iI lv), .ref qT, .ref qC, .ref qF, .ref qY, .ref qZ, .ref qu, .ref qv, .ref qw, .ref qg, .ref qh, .ref qx, .ref qc, .ref qa, .ref qb, .ref qd, .int (iI fm), .ref qp, .ref qq])), (qx, eL t.2.1 54 (uZ (uZ (uZ (uZ (uZ (uZ u7 36 (u7 9)) 37 (u7 10)) 38 (u7 11)) 39 (u7 12)) 40 (u7 13)) 41 (u7 14)))]) hC hK hP hD hS 1 rfl (by omega) rfl d_Mo_squareSign_160 (fun H locs hP hD hS => ?_)
      refine lv_iinc (v := iI 6) (lv' := [(13, .int (iI 6)), (12, .int (iI 1)), (11, .int (iI (sgn ((L * (szZ (2 * p + q))) - (((szZ od) * (szZ od)) * 2))))), (10, .int (iI 0)), (8, .long (lI L)), (0, .ref o), (1, .long (lI od)), (3, .int (iI len)), (4, .long (lI p)), (6, .long (lI q))]) hC.1 hC.2.1 d_Mo_squareSign_161 hl (k := 0) rfl (z_inc (by omega)) (by decide) rfl (fun ls hl => ?_)
      refine z_goto (tgt := 131) hC d_Mo_squareSign_164 (by decide) ?_
      refine lv_iload hC.1 hC.2.1 d_Mo_squareSign_131 (lv_at hl 0 rfl) ?_
      refine z_bipush hC d_Mo_squareSign_133 (by decide) ?_
      refine z_icmp_ge (tgt := 167) hC d_Mo_squareSign_135 (by decide) (by decide) (by decide) (fun h => absurd h (by decide)) (fun _ => ?_)
      refine lv_aload_n hC.1 hC.2.1 d_Mo_squareSign_138 rfl (lv_at hl 5 rfl) ?_
      refine z_get (ci := 5) (C := R_Mo) (T := F_Mo) (N := 21) (v := .ref qx) hC in_Mo hK hP 0 rfl rfl 13 (by decide) k_466 rfl d_Mo_squareSign_139 ?_
      refine z_bipush hC d_Mo_squareSign_142 (by decide) ?_
      refine lv_iload hC.1 hC.2.1 d_Mo_squareSign_144 (lv_at hl 0 rfl) ?_
      refine z_iadd hC d_Mo_squareSign_146 ?_
      refine z_topi (z := 42) (by omega) ?_
      refine lv_aload_n hC.1 hC.2.1 d_Mo_squareSign_147 rfl (lv_at hl 5 rfl) ?_
      refine z_get (ci := 5) (C := R_Mo) (T := F_Mo) (N := 21) (v := .ref qx) hC in_Mo hK hP 0 rfl rfl 13 (by decide) k_466 rfl d_Mo_squareSign_148 ?_
      refine z_bipush hC d_Mo_squareSign_151 (by decide) ?_
      refine lv_iload hC.1 hC.2.1 d_Mo_squareSign_153 (lv_at hl 1 rfl) ?_
      refine z_imul hC d_Mo_squareSign_155 ?_
      refine z_topi (z := 9) (by omega) ?_
      refine lv_iload hC.1 hC.2.1 d_Mo_squareSign_156 (lv_at hl 0 rfl) ?_
      refine z_iadd hC d_Mo_squareSign_158 ?_
      refine z_topi (z := 15) (by omega) ?_
      refine z_lald hC hK hP 1 rfl (by omega) d_Mo_squareSign_159 ?_
      refine z_topl (z := u7 15) (by rw [uZ_n (by omega), uZ_n (by omega), uZ_n (by omega), uZ_n (by omega), uZ_n (by omega), uZ_n (by omega)]) ?_
      refine z_last (ws' := [(o, .inr (5, [.int (iI cd), .int (iI z), .int (iI lv), .ref qT, .ref qC, .ref qF, .ref qY, .ref qZ, .ref qu, .ref qv, .ref qw, .ref qg, .ref qh, .ref qx, .ref qc, .ref qa, .ref qb, .ref qd, .int (iI fm), .ref qp, .ref qq])), (qx, eL t.2.1 54 (uZ (uZ (uZ (uZ (uZ (uZ (uZ u7 36 (u7 9)) 37 (u7 10)) 38 (u7 11)) 39 (u7 12)) 40 (u7 13)) 41 (u7 14)) 42 (u7 15)))]) hC hK hP hD hS 1 rfl (by omega) rfl d_Mo_squareSign_160 (fun H locs hP hD hS => ?_)
      refine lv_iinc (v := iI 7) (lv' := [(13, .int (iI 7)), (12, .int (iI 1)), (11, .int (iI (sgn ((L * (szZ (2 * p + q))) - (((szZ od) * (szZ od)) * 2))))), (10, .int (iI 0)), (8, .long (lI L)), (0, .ref o), (1, .long (lI od)), (3, .int (iI len)), (4, .long (lI p)), (6, .long (lI q))]) hC.1 hC.2.1 d_Mo_squareSign_161 hl (k := 0) rfl (z_inc (by omega)) (by decide) rfl (fun ls hl => ?_)
      refine z_goto (tgt := 131) hC d_Mo_squareSign_164 (by decide) ?_
      refine lv_iload hC.1 hC.2.1 d_Mo_squareSign_131 (lv_at hl 0 rfl) ?_
      refine z_bipush hC d_Mo_squareSign_133 (by decide) ?_
      refine z_icmp_ge (tgt := 167) hC d_Mo_squareSign_135 (by decide) (by decide) (by decide) (fun h => absurd h (by decide)) (fun _ => ?_)
      refine lv_aload_n hC.1 hC.2.1 d_Mo_squareSign_138 rfl (lv_at hl 5 rfl) ?_
      refine z_get (ci := 5) (C := R_Mo) (T := F_Mo) (N := 21) (v := .ref qx) hC in_Mo hK hP 0 rfl rfl 13 (by decide) k_466 rfl d_Mo_squareSign_139 ?_
      refine z_bipush hC d_Mo_squareSign_142 (by decide) ?_
      refine lv_iload hC.1 hC.2.1 d_Mo_squareSign_144 (lv_at hl 0 rfl) ?_
      refine z_iadd hC d_Mo_squareSign_146 ?_
      refine z_topi (z := 43) (by omega) ?_
      refine lv_aload_n hC.1 hC.2.1 d_Mo_squareSign_147 rfl (lv_at hl 5 rfl) ?_
      refine z_get (ci := 5) (C := R_Mo) (T := F_Mo) (N := 21) (v := .ref qx) hC in_Mo hK hP 0 rfl rfl 13 (by decide) k_466 rfl d_Mo_squareSign_148 ?_
      refine z_bipush hC d_Mo_squareSign_151 (by decide) ?_
      refine lv_iload hC.1 hC.2.1 d_Mo_squareSign_153 (lv_at hl 1 rfl) ?_
      refine z_imul hC d_Mo_squareSign_155 ?_
      refine z_topi (z := 9) (by omega) ?_
      refine lv_iload hC.1 hC.2.1 d_Mo_squareSign_156 (lv_at hl 0 rfl) ?_
      refine z_iadd hC d_Mo_squareSign_158 ?_
      refine z_topi (z := 16) (by omega) ?_
      refine z_lald hC hK hP 1 rfl (by omega) d_Mo_squareSign_159 ?_
      refine z_topl (z := u7 16) (by rw [uZ_n (by omega), uZ_n (by omega), uZ_n (by omega), uZ_n (by omega), uZ_n (by omega), uZ_n (by omega), uZ_n (by omega)]) ?_
      refine z_last (ws' := [(o, .inr (5, [.int (iI cd), .int (iI z), .int (iI lv), .ref qT, .ref qC, .ref qF, .ref qY, .ref qZ, .ref qu, .ref qv, .ref qw, .ref qg, .ref qh, .ref qx, .ref qc, .ref qa, .ref qb, .ref qd, .int (iI fm), .ref qp, .ref qq])), (qx, eL t.2.1 54 (uZ (uZ (uZ (uZ (uZ (uZ (uZ (uZ u7 36 (u7 9)) 37 (u7 10)) 38 (u7 11)) 39 (u7 12)) 40 (u7 13)) 41 (u7 14)) 42 (u7 15)) 43 (u7 16)))]) hC hK hP hD hS 1 rfl (by omega) rfl d_Mo_squareSign_160 (fun H locs hP hD hS => ?_)
      refine lv_iinc (v := iI 8) (lv' := [(13, .int (iI 8)), (12, .int (iI 1)), (11, .int (iI (sgn ((L * (szZ (2 * p + q))) - (((szZ od) * (szZ od)) * 2))))), (10, .int (iI 0)), (8, .long (lI L)), (0, .ref o), (1, .long (lI od)), (3, .int (iI len)), (4, .long (lI p)), (6, .long (lI q))]) hC.1 hC.2.1 d_Mo_squareSign_161 hl (k := 0) rfl (z_inc (by omega)) (by decide) rfl (fun ls hl => ?_)
      refine z_goto (tgt := 131) hC d_Mo_squareSign_164 (by decide) ?_
      refine lv_iload hC.1 hC.2.1 d_Mo_squareSign_131 (lv_at hl 0 rfl) ?_
      refine z_bipush hC d_Mo_squareSign_133 (by decide) ?_
      refine z_icmp_ge (tgt := 167) hC d_Mo_squareSign_135 (by decide) (by decide) (by decide) (fun h => absurd h (by decide)) (fun _ => ?_)
      refine lv_aload_n hC.1 hC.2.1 d_Mo_squareSign_138 rfl (lv_at hl 5 rfl) ?_
      refine z_get (ci := 5) (C := R_Mo) (T := F_Mo) (N := 21) (v := .ref qx) hC in_Mo hK hP 0 rfl rfl 13 (by decide) k_466 rfl d_Mo_squareSign_139 ?_
      refine z_bipush hC d_Mo_squareSign_142 (by decide) ?_
      refine lv_iload hC.1 hC.2.1 d_Mo_squareSign_144 (lv_at hl 0 rfl) ?_
      refine z_iadd hC d_Mo_squareSign_146 ?_
      refine z_topi (z := 44) (by omega) ?_
      refine lv_aload_n hC.1 hC.2.1 d_Mo_squareSign_147 rfl (lv_at hl 5 rfl) ?_
      refine z_get (ci := 5) (C := R_Mo) (T := F_Mo) (N := 21) (v := .ref qx) hC in_Mo hK hP 0 rfl rfl 13 (by decide) k_466 rfl d_Mo_squareSign_148 ?_
      refine z_bipush hC d_Mo_squareSign_151 (by decide) ?_
      refine lv_iload hC.1 hC.2.1 d_Mo_squareSign_153 (lv_at hl 1 rfl) ?_
      refine z_imul hC d_Mo_squareSign_155 ?_
      refine z_topi (z := 9) (by omega) ?_
      refine lv_iload hC.1 hC.2.1 d_Mo_squareSign_156 (lv_at hl 0 rfl) ?_
      refine z_iadd hC d_Mo_squareSign_158 ?_
      refine z_topi (z := 17) (by omega) ?_
      refine z_lald hC hK hP 1 rfl (by omega) d_Mo_squareSign_159 ?_
      refine z_topl (z := u7 17) (by rw [uZ_n (by omega), uZ_n (by omega), uZ_n (by omega), uZ_n (by omega), uZ_n (by omega), uZ_n (by omega), uZ_n (by omega), uZ_n (by omega)]) ?_
      refine z_last (ws' := [(o, .inr (5, [.int (iI cd), .int (iI z), .int (iI lv), .ref qT, .ref qC, .ref qF, .ref qY, .ref qZ, .ref qu, .ref qv, .ref qw, .ref qg, .ref qh, .ref qx, .ref qc, .ref qa, .ref qb, .ref qd, .int (iI fm), .ref qp, .ref qq])), (qx, eL t.2.1 54 (uZ (uZ (uZ (uZ (uZ (uZ (uZ (uZ (uZ u7 36 (u7 9)) 37 (u7 10)) 38 (u7 11)) 39 (u7 12)) 40 (u7 13)) 41 (u7 14)) 42 (u7 15)) 43 (u7 16)) 44 (u7 17)))]) hC hK hP hD hS 1 rfl (by omega) rfl d_Mo_squareSign_160 (fun H locs hP hD hS => ?_)
      refine lv_iinc (v := iI 9) (lv' := [(13, .int (iI 9)), (12, .int (iI 1)), (11, .int (iI (sgn ((L * (szZ (2 * p + q))) - (((szZ od) * (szZ od)) * 2))))), (10, .int (iI 0)), (8, .long (lI L)), (0, .ref o), (1, .long (lI od)), (3, .int (iI len)), (4, .long (lI p)), (6, .long (lI q))]) hC.1 hC.2.1 d_Mo_squareSign_161 hl (k := 0) rfl (z_inc (by omega)) (by decide) rfl (fun ls hl => ?_)
      refine z_goto (tgt := 131) hC d_Mo_squareSign_164 (by decide) ?_
      refine lv_iload hC.1 hC.2.1 d_Mo_squareSign_131 (lv_at hl 0 rfl) ?_
      refine z_bipush hC d_Mo_squareSign_133 (by decide) ?_
      refine z_icmp_ge (tgt := 167) hC d_Mo_squareSign_135 (by decide) (by decide) (by decide) (fun _ => ?_) (fun h => absurd h (by decide))
      have cpq : ∀ i : Int, 0 ≤ i → i < 9 → (uZ (uZ (uZ (uZ (uZ (uZ (uZ (uZ (uZ u7 36 (u7 9)) 37 (u7 10)) 38 (u7 11)) 39 (u7 12)) 40 (u7 13)) 41 (u7 14)) 42 (u7 15)) 43 (u7 16)) 44 (u7 17)) (36 + i) = u7 (9 * 1 + i) := nine (uZ_nt (by omega) (uZ_nt (by omega) (uZ_nt (by omega) (uZ_nt (by omega) (uZ_nt (by omega) (uZ_nt (by omega) (uZ_nt (by omega) (uZ_nt (by omega) (uZ_et (by omega)))))))))) (uZ_nt (by omega) (uZ_nt (by omega) (uZ_nt (by omega) (uZ_nt (by omega) (uZ_nt (by omega) (uZ_nt (by omega) (uZ_nt (by omega) (uZ_et (by omega))))))))) (uZ_nt (by omega) (uZ_nt (by omega) (uZ_nt (by omega) (uZ_nt (by omega) (uZ_nt (by omega) (uZ_nt (by omega) (uZ_et (by omega)))))))) (uZ_nt (by omega) (uZ_nt (by omega) (uZ_nt (by omega) (uZ_nt (by omega) (uZ_nt (by omega) (uZ_et (by omega))))))) (uZ_nt (by omega) (uZ_nt (by omega) (uZ_nt (by omega) (uZ_nt (by omega) (uZ_et (by omega)))))) (uZ_nt (by omega) (uZ_nt (by omega) (uZ_nt (by omega) (uZ_et (by omega))))) (uZ_nt (by omega) (uZ_nt (by omega) (uZ_et (by omega)))) (uZ_nt (by omega) (uZ_et (by omega))) (uZ_et (by omega))
      have cpf : ∀ k, k < 9 * 4 ∨ 9 * 4 + 9 ≤ k → (uZ (uZ (uZ (uZ (uZ (uZ (uZ (uZ (uZ u7 36 (u7 9)) 37 (u7 10)) 38 (u7 11)) 39 (u7 12)) 40 (u7 13)) 41 (u7 14)) 42 (u7 15)) 43 (u7 16)) 44 (u7 17)) k = u7 k := fun k hk => (uZ_nt (by omega) (uZ_nt (by omega) (uZ_nt (by omega) (uZ_nt (by omega) (uZ_nt (by omega) (uZ_nt (by omega) (uZ_nt (by omega) (uZ_nt (by omega) (uZ_nt (by omega) rfl)))))))))
      obtain ⟨Wc, eWc⟩ : ∃ G : Int → Int, G = (uZ (uZ (uZ (uZ (uZ (uZ (uZ (uZ (uZ u7 36 (u7 9)) 37 (u7 10)) 38 (u7 11)) 39 (u7 12)) 40 (u7 13)) 41 (u7 14)) 42 (u7 15)) 43 (u7 16)) 44 (u7 17)) := ⟨_, rfl⟩
      rw [← eWc] at hP hD
      have b4_c : bk Wc (9 * 4) (((szZ od) * (szZ od)) * 2) := by rw [eWc]; exact bk_cp b1_u7 cpq
      have b2_c : bk Wc (9 * 2) (L * (szZ (2 * p + q))) := by rw [eWc]; exact bk_keep b2_u7 cpf (by omega)
      have b3_c : bk Wc (9 * 3) ((szZ od) * (szZ od)) := by rw [eWc]; exact bk_keep b3_u7 cpf (by omega)
      have b0_c : bk Wc (9 * 0) 2 := by rw [eWc]; exact bk_keep b0_u7 cpf (by omega)
      have b1_c : bk Wc (9 * 1) (((szZ od) * (szZ od)) * 2) := by rw [eWc]; exact bk_keep b1_u7 cpf (by omega)
      have clt : (L * (szZ (2 * p + q))) < (((szZ od) * (szZ od)) * 2) := by have q := h118; unfold sgn at q; (repeat' split at q) <;> omega
      obtain ⟨X4, eX4⟩ : ∃ z : Int, z = (((szZ od) * (szZ od)) * 2) - (L * (szZ (2 * p + q))) := ⟨_, rfl⟩
      have hX : XX = -X4 ∧ 0 < X4 ∧ X4 ≤ 210000000000000000000000000000 := by omega
      have szX : szZ XX = X4 := by unfold szZ; split <;> omega
      have n5 := Int.mul_nonneg (show 0 ≤ X4 by omega) (show 0 ≤ X4 by omega)
      have m5 := mul_bd (a := X4) (b := X4) (A := 210000000000000000000000000000) (B := 210000000000000000000000000000) (by omega) (by omega)
      refine lv_iload hC.1 hC.2.1 d_Mo_squareSign_167 (lv_at hl 3 rfl) ?_
      refine z_if_eq (tgt := 181) hC d_Mo_squareSign_169 (by decide) (by decide) (fun _ => ?_) (fun h => absurd h (by decide))
      refine lv_aload_n hC.1 hC.2.1 d_Mo_squareSign_181 rfl (lv_at hl 5 rfl) ?_
      refine z_iconst hC d_Mo_squareSign_182 ?_
      refine lv_iload hC.1 hC.2.1 d_Mo_squareSign_183 (lv_at hl 1 rfl) ?_
      refine z_iconst hC d_Mo_squareSign_185 ?_
      refine z_icmp_ne (tgt := 193) hC d_Mo_squareSign_186 (by decide) (by decide) (by decide) (fun _ => ?_) (fun h => absurd h (by decide))
      refine z_iconst hC d_Mo_squareSign_193 ?_
      refine z_mVv (As := [.int (iI 4), .int (iI 2)]) (rest := []) (wr := []) hC (c_Mo_lessen l D t ts o qT qC qF qY qZ qu qv qw qg qh qx qc qa qb qd qp qq cd z lv fm Wc 4 2 (((szZ od) * (szZ od)) * 2) (L * (szZ (2 * p + q))) X4 (by decide) (by decide) (by decide) b4_c b2_c (by omega) (by have := p9; omega) _) (cw_V hC k_759 k_761 kp_66 k_6 k_762 ye_Mo_lessen (by decide)) hP hD hK hE hS hA [0, 1] [] (by decide) rfl rfl (by decide) (by decide) 0 (ci := 5) rfl rfl rfl rfl hl.1 rfl (Nat.le_of_ble_eq_true rfl) ⟨Nat.le_of_ble_eq_true rfl, Nat.le_of_ble_eq_true rfl⟩ d_Mo_squareSign_194 (fun u8 H locs eu8 hP hD hS => ?_)
      have b2_u8 : bk u8 (9 * 2) (L * (szZ (2 * p + q))) := bk_keep b2_c eu8.2 (by omega)
      have b3_u8 : bk u8 (9 * 3) ((szZ od) * (szZ od)) := bk_keep b3_c eu8.2 (by omega)
      have b0_u8 : bk u8 (9 * 0) 2 := bk_keep b0_c eu8.2 (by omega)
      have b1_u8 : bk u8 (9 * 1) (((szZ od) * (szZ od)) * 2) := bk_keep b1_c eu8.2 (by omega)
      have b4_u8 : bk u8 (9 * 4) X4 := eu8.1
      have hP : va_P D classes [(o, .inr (5, [.int (iI cd), .int (iI z), .int (iI lv), .ref qT, .ref qC, .ref qF, .ref qY, .ref qZ, .ref qu, .ref qv, .ref qw, .ref qg, .ref qh, .ref qx, .ref qc, .ref qa, .ref qb, .ref qd, .int (iI fm), .ref qp, .ref qq])), (qx, eL t.2.1 54 u8)] H := hP
      have hD : va_D A [(o, .inr (5, [.int (iI cd), .int (iI z), .int (iI lv), .ref qT, .ref qC, .ref qF, .ref qY, .ref qZ, .ref qu, .ref qv, .ref qw, .ref qg, .ref qh, .ref qx, .ref qc, .ref qa, .ref qb, .ref qd, .int (iI fm), .ref qp, .ref qq])), (qx, eL t.2.1 54 u8)] := hD
      refine lv_aload_n hC.1 hC.2.1 d_Mo_squareSign_197 rfl (lv_at hl 5 rfl) ?_
      refine z_iconst hC d_Mo_squareSign_198 ?_
      refine lv_lload hC.1 hC.2.1 d_Mo_squareSign_199 (lv_at hl 4 rfl) ?_
      refine z_mVv (As := [.int (iI 0), .long (lI L)]) (rest := []) (wr := []) hC (c_Mo_be l D t ts o qT qC qF qY qZ qu qv qw qg qh qx qc qa qb qd qp qq cd z lv fm u8 0 L (by decide) (by omega) _) (cw_V hC k_585 k_587 kp_34 k_6 k_588 ye_Mo_be (by decide)) hP hD hK hE hS hA [0, 1] [] (by decide) rfl rfl (by decide) (by decide) 0 (ci := 5) rfl rfl rfl rfl hl.1 rfl (Nat.le_of_ble_eq_true rfl) ⟨Nat.le_of_ble_eq_true rfl, Nat.le_of_ble_eq_true rfl⟩ d_Mo_squareSign_201 (fun u9 H locs eu9 hP hD hS => ?_)
      have b2_u9 : bk u9 (9 * 2) (L * (szZ (2 * p + q))) := bk_keep b2_u8 eu9.2 (by omega)
      have b3_u9 : bk u9 (9 * 3) ((szZ od) * (szZ od)) := bk_keep b3_u8 eu9.2 (by omega)
      have b1_u9 : bk u9 (9 * 1) (((szZ od) * (szZ od)) * 2) := bk_keep b1_u8 eu9.2 (by omega)
      have b4_u9 : bk u9 (9 * 4) X4 := bk_keep b4_u8 eu9.2 (by omega)
      have b0_u9 : bk u9 (9 * 0) L := eu9.1
      have hP : va_P D classes [(o, .inr (5, [.int (iI cd), .int (iI z), .int (iI lv), .ref qT, .ref qC, .ref qF, .ref qY, .ref qZ, .ref qu, .ref qv, .ref qw, .ref qg, .ref qh, .ref qx, .ref qc, .ref qa, .ref qb, .ref qd, .int (iI fm), .ref qp, .ref qq])), (qx, eL t.2.1 54 u9)] H := hP
      have hD : va_D A [(o, .inr (5, [.int (iI cd), .int (iI z), .int (iI lv), .ref qT, .ref qC, .ref qF, .ref qY, .ref qZ, .ref qu, .ref qv, .ref qw, .ref qg, .ref qh, .ref qx, .ref qc, .ref qa, .ref qb, .ref qd, .int (iI fm), .ref qp, .ref qq])), (qx, eL t.2.1 54 u9)] := hD
      refine lv_aload_n hC.1 hC.2.1 d_Mo_squareSign_204 rfl (lv_at hl 5 rfl) ?_
      refine z_iconst hC d_Mo_squareSign_205 ?_
      refine lv_lload hC.1 hC.2.1 d_Mo_squareSign_206 (lv_at hl 9 rfl) ?_
      refine z_roSl (As := [.long (lI q)]) (rest := [.int (iI 1), .ref o]) hC (c_Mo_size l D t ts q (by omega)) (cw_S hC k_552 k_553 k_6 k_554 ye_Mo_size (by decide)) hP hK hE hS [] rfl rfl hl.1 rfl (Nat.le_of_ble_eq_true rfl) ⟨Nat.le_of_ble_eq_true rfl, Nat.le_of_ble_eq_true rfl⟩ d_Mo_squareSign_208 ?_
      refine z_mVv (As := [.int (iI 1), .long (lI (szZ q))]) (rest := []) (wr := []) hC (c_Mo_be l D t ts o qT qC qF qY qZ qu qv qw qg qh qx qc qa qb qd qp qq cd z lv fm u9 1 (szZ q) (by decide) (by have := szZ_in (x := q) (by omega); omega) _) (cw_V hC k_585 k_587 kp_34 k_6 k_588 ye_Mo_be (by decide)) hP hD hK hE hS hA [0, 1] [] (by decide) rfl rfl (by decide) (by decide) 0 (ci := 5) rfl rfl rfl rfl hl.1 rfl (Nat.le_of_ble_eq_true rfl) ⟨Nat.le_of_ble_eq_true rfl, Nat.le_of_ble_eq_true rfl⟩ d_Mo_squareSign_211 (fun u10 H locs eu10 hP hD hS => ?_)
      have b2_u10 : bk u10 (9 * 2) (L * (szZ (2 * p + q))) := bk_keep b2_u9 eu10.2 (by omega)
      have b3_u10 : bk u10 (9 * 3) ((szZ od) * (szZ od)) := bk_keep b3_u9 eu10.2 (by omega)
      have b4_u10 : bk u10 (9 * 4) X4 := bk_keep b4_u9 eu10.2 (by omega)
      have b0_u10 : bk u10 (9 * 0) L := bk_keep b0_u9 eu10.2 (by omega)
      have b1_u10 : bk u10 (9 * 1) (szZ q) := eu10.1
      have hP : va_P D classes [(o, .inr (5, [.int (iI cd), .int (iI z), .int (iI lv), .ref qT, .ref qC, .ref qF, .ref qY, .ref qZ, .ref qu, .ref qv, .ref qw, .ref qg, .ref qh, .ref qx, .ref qc, .ref qa, .ref qb, .ref qd, .int (iI fm), .ref qp, .ref qq])), (qx, eL t.2.1 54 u10)] H := hP
      have hD : va_D A [(o, .inr (5, [.int (iI cd), .int (iI z), .int (iI lv), .ref qT, .ref qC, .ref qF, .ref qY, .ref qZ, .ref qu, .ref qv, .ref qw, .ref qg, .ref qh, .ref qx, .ref qc, .ref qa, .ref qb, .ref qd, .int (iI fm), .ref qp, .ref qq])), (qx, eL t.2.1 54 u10)] := hD
      refine lv_aload_n hC.1 hC.2.1 d_Mo_squareSign_214 rfl (lv_at hl 5 rfl) ?_
      refine z_iconst hC d_Mo_squareSign_215 ?_
      refine z_iconst hC d_Mo_squareSign_216 ?_
      refine z_iconst hC d_Mo_squareSign_217 ?_
      refine z_mVv (As := [.int (iI 2), .int (iI 0), .int (iI 1)]) (rest := []) (wr := []) hC (c_Mo_product l D t ts o qT qC qF qY qZ qu qv qw qg qh qx qc qa qb qd qp qq cd z lv fm u10 2 0 1 L (szZ q) (by decide) (by decide) (by decide) (by decide) (by decide) b0_u10 b1_u10 (by omega) (by omega) (by have := p9; have := mul_bd (a := L) (b := szZ q) (A := 100000000000000) (B := 100000000000000) (by omega) (by omega); omega) _) (cw_V hC k_590 k_592 kp_35 k_6 k_593 ye_Mo_product (by decide)) hP hD hK hE hS hA [0, 1] [] (by decide) rfl rfl (by decide) (by decide) 0 (ci := 5) rfl rfl rfl rfl hl.1 rfl (Nat.le_of_ble_eq_true rfl) ⟨Nat.le_of_ble_eq_true rfl, Nat.le_of_ble_eq_true rfl⟩ d_Mo_squareSign_218 (fun u11 H locs eu11 hP hD hS => ?_)
      have b3_u11 : bk u11 (9 * 3) ((szZ od) * (szZ od)) := bk_keep b3_u10 eu11.2 (by omega)
      have b4_u11 : bk u11 (9 * 4) X4 := bk_keep b4_u10 eu11.2 (by omega)
      have b0_u11 : bk u11 (9 * 0) L := bk_keep b0_u10 eu11.2 (by omega)
      have b1_u11 : bk u11 (9 * 1) (szZ q) := bk_keep b1_u10 eu11.2 (by omega)
      have b2_u11 : bk u11 (9 * 2) (L * (szZ q)) := eu11.1
      have hP : va_P D classes [(o, .inr (5, [.int (iI cd), .int (iI z), .int (iI lv), .ref qT, .ref qC, .ref qF, .ref qY, .ref qZ, .ref qu, .ref qv, .ref qw, .ref qg, .ref qh, .ref qx, .ref qc, .ref qa, .ref qb, .ref qd, .int (iI fm), .ref qp, .ref qq])), (qx, eL t.2.1 54 u11)] H := hP
      have hD : va_D A [(o, .inr (5, [.int (iI cd), .int (iI z), .int (iI lv), .ref qT, .ref qC, .ref qF, .ref qY, .ref qZ, .ref qu, .ref qv, .ref qw, .ref qg, .ref qh, .ref qx, .ref qc, .ref qa, .ref qb, .ref qd, .int (iI fm), .ref qp, .ref qq])), (qx, eL t.2.1 54 u11)] := hD
      refine z_iconst hC d_Mo_squareSign_221 ?_
      refine lv_istore (lv' := [(13, .int (iI 1)), (12, .int (iI 1)), (11, .int (iI (sgn ((L * (szZ (2 * p + q))) - (((szZ od) * (szZ od)) * 2))))), (10, .int (iI 0)), (8, .long (lI L)), (0, .ref o), (1, .long (lI od)), (3, .int (iI len)), (4, .long (lI p)), (6, .long (lI q))]) hC.1 hC.2.1 d_Mo_squareSign_222 hl (by decide) rfl (fun ls hl => ?_)
      refine z_iconst hC d_Mo_squareSign_224 ?_
      refine lv_istore (lv' := [(14, .int (iI 0)), (13, .int (iI 1)), (12, .int (iI 1)), (11, .int (iI (sgn ((L * (szZ (2 * p + q))) - (((szZ od) * (szZ od)) * 2))))), (10, .int (iI 0)), (8, .long (lI L)), (0, .ref o), (1, .long (lI od)), (3, .int (iI len)), (4, .long (lI p)), (6, .long (lI q))]) hC.1 hC.2.1 d_Mo_squareSign_225 hl (by decide) rfl (fun ls hl => ?_)
      have L227 : ∀ (fu : Nat) (no : Bool) (i : Int) (H : Heap) (locs : List Loc) (ls : Array Slot), 9 - i + 1 ≤ (fu : Int) → (0 ≤ i ∧ i ≤ 9) → (no = !anyZ i.toNat (fun m => decide (¬ u11 (m + 36) = 0))) → va_P D classes [(o, .inr (5, [.int (iI cd), .int (iI z), .int (iI lv), .ref qT, .ref qC, .ref qF, .ref qY, .ref qZ, .ref qu, .ref qv, .ref qw, .ref qg, .ref qh, .ref qx, .ref qc, .ref qa, .ref qb, .ref qd, .int (iI fm), .ref qp, .ref qq])), (qx, eL t.2.1 54 u11)] H → va_D A [(o, .inr (5, [.int (iI cd), .int (iI z), .int (iI lv), .ref qT, .ref qC, .ref qF, .ref qY, .ref qZ, .ref qu, .ref qv, .ref qw, .ref qg, .ref qh, .ref qx, .ref qc, .ref qa, .ref qb, .ref qd, .int (iI fm), .ref qp, .ref qq])), (qx, eL t.2.1 54 u11)] → va_S A zs.heap H locs → lv_has ls 16 [(14, .int (iI i)), (13, .int (iI (zB no))), (12, .int (iI 1)), (11, .int (iI (sgn ((L * (szZ (2 * p + q))) - (((szZ od) * (szZ od)) * 2))))), (10, .int (iI 0)), (8, .long (lI L)), (0, .ref o), (1, .long (lI od)), (3, .int (iI len)), (4, .long (lI p)), (6, .long (lI q))] → W zp l ze rm_Mo_squareSign zs zm [.ref o, .long (lI od), .int (iI len), .long (lI p), .long (lI q)].toArray zb zt zc H locs 0 0 zQ (F0 zm 227 ls []) := by
        intro fu
        induction fu with
        | zero =>
          intro no i H locs ls hm227 hi eno hP hD hS hl
          exact absurd hm227 (by omega)
        | succ fu ih227 =>
          intro no i H locs ls hm227 hi eno hP hD hS hl
          refine lv_iload hC.1 hC.2.1 d_Mo_squareSign_227 (lv_at hl 0 rfl) ?_
          refine z_bipush hC d_Mo_squareSign_229 (by decide) ?_
          refine z_icmp_ge (tgt := 267) hC d_Mo_squareSign_231 (by decide) (by omega) (by decide) (fun h231 => ?_) (fun h231 => ?_)
          · have hno : no = decide (X4 = 0) := by rw [eno, show i = 9 by omega]; exact bk_none b4_u11
            have fx : 0 ≤ XX ∧ XX ≤ 0 ∨ ¬ X4 = 0 := by omega
            refine lv_iload hC.1 hC.2.1 d_Mo_squareSign_267 (lv_at hl 1 rfl) ?_
            refine z_if_eqB (tgt := 276) hC d_Mo_squareSign_269 (by decide) (fun h269 => ?_) (fun h269 => ?_)
            · have hn9 : ¬ X4 = 0 := by rw [h269] at hno; simpa using hno
              have c11 : (0 < sgn ((L * (szZ (2 * p + q))) - (((szZ od) * (szZ od)) * 2)) ↔ 0 < XX) ∧ (sgn ((L * (szZ (2 * p + q))) - (((szZ od) * (szZ od)) * 2)) ≤ 0 ↔ XX ≤ 0) := by rw [sgn_gt, sgn_le]; omega
              have c11i : -1 ≤ sgn ((L * (szZ (2 * p + q))) - (((szZ od) * (szZ od)) * 2)) ∧ sgn ((L * (szZ (2 * p + q))) - (((szZ od) * (szZ od)) * 2)) ≤ 1 := sgn_in _
              refine lv_iload hC.1 hC.2.1 d_Mo_squareSign_276 (lv_at hl 3 rfl) ?_
              refine lv_istore (lv' := [(14, .int (iI (sgn ((L * (szZ (2 * p + q))) - (((szZ od) * (szZ od)) * 2))))), (13, .int (iI (zB no))), (12, .int (iI 1)), (11, .int (iI (sgn ((L * (szZ (2 * p + q))) - (((szZ od) * (szZ od)) * 2))))), (10, .int (iI 0)), (8, .long (lI L)), (0, .ref o), (1, .long (lI od)), (3, .int (iI len)), (4, .long (lI p)), (6, .long (lI q))]) hC.1 hC.2.1 d_Mo_squareSign_278 hl (by decide) rfl (fun ls hl => ?_)
              refine lv_lload hC.1 hC.2.1 d_Mo_squareSign_280 (lv_at hl 10 rfl) ?_
              refine z_lconst (v := 0) hC d_Mo_squareSign_282 (by decide) ?_
              refine z_lcmp_ge (tgt := 291) hC d_Mo_squareSign_283 d_Mo_squareSign_284 (by decide) (by omega) (by decide) (fun h283 => ?_) (fun h283 => ?_)
              · refine lv_lload hC.1 hC.2.1 d_Mo_squareSign_291 (lv_at hl 10 rfl) ?_
                refine z_lconst (v := 0) hC d_Mo_squareSign_293 (by decide) ?_
                refine z_lcmp_le (tgt := 302) hC d_Mo_squareSign_294 d_Mo_squareSign_295 (by decide) (by omega) (by decide) (fun h294 => ?_) (fun h294 => ?_)
                · refine z_iconst hC d_Mo_squareSign_302 ?_
                  refine lv_istore (lv' := [(15, .int (iI 0)), (14, .int (iI (sgn ((L * (szZ (2 * p + q))) - (((szZ od) * (szZ od)) * 2))))), (13, .int (iI (zB no))), (12, .int (iI 1)), (11, .int (iI (sgn ((L * (szZ (2 * p + q))) - (((szZ od) * (szZ od)) * 2))))), (10, .int (iI 0)), (8, .long (lI L)), (0, .ref o), (1, .long (lI od)), (3, .int (iI len)), (4, .long (lI p)), (6, .long (lI q))]) hC.1 hC.2.1 d_Mo_squareSign_303 hl (by decide) rfl (fun ls hl => ?_)
                  refine lv_iload hC.1 hC.2.1 d_Mo_squareSign_305 (lv_at hl 1 rfl) ?_
                  refine z_if_lt (tgt := 331) hC d_Mo_squareSign_307 (by decide) (by have := sgn_in ((L * (szZ (2 * p + q))) - (((szZ od) * (szZ od)) * 2)); omega) (fun h307 => ?_) (fun h307 => ?_)
                  · refine lv_iload hC.1 hC.2.1 d_Mo_squareSign_331 (lv_at hl 1 rfl) ?_
                    refine z_if_gt (tgt := 343) hC d_Mo_squareSign_333 (by decide) (by have := sgn_in ((L * (szZ (2 * p + q))) - (((szZ od) * (szZ od)) * 2)); omega) (fun h333 => ?_) (fun h333 => ?_)
                    · refine lv_aload_n hC.1 hC.2.1 d_Mo_squareSign_343 rfl (lv_at hl 7 rfl) ?_
                      refine z_iconst hC d_Mo_squareSign_344 ?_
                      refine z_iconst hC d_Mo_squareSign_345 ?_
                      refine z_iconst hC d_Mo_squareSign_346 ?_
                      refine z_mVv (As := [.int (iI 5), .int (iI 4), .int (iI 4)]) (rest := []) (wr := []) hC (c_Mo_product l D t ts o qT qC qF qY qZ qu qv qw qg qh qx qc qa qb qd qp qq cd z lv fm u11 5 4 4 X4 X4 (by decide) (by decide) (by decide) (by decide) (by decide) b4_u11 b4_u11 (by omega) (by omega) (by have := p9; have := mul_bd (a := X4) (b := X4) (A := 210000000000000000000000000000) (B := 210000000000000000000000000000) (by omega) (by omega); omega) _) (cw_V hC k_590 k_592 kp_35 k_6 k_593 ye_Mo_product (by decide)) hP hD hK hE hS hA [0, 1] [] (by decide) rfl rfl (by decide) (by decide) 0 (ci := 5) rfl rfl rfl rfl hl.1 rfl (Nat.le_of_ble_eq_true rfl) ⟨Nat.le_of_ble_eq_true rfl, Nat.le_of_ble_eq_true rfl⟩ d_Mo_squareSign_347 (fun u12 H locs eu12 hP hD hS => ?_)
                      have b3_u12 : bk u12 (9 * 3) ((szZ od) * (szZ od)) := bk_keep b3_u11 eu12.2 (by omega)
                      have b4_u12 : bk u12 (9 * 4) X4 := bk_keep b4_u11 eu12.2 (by omega)
                      have b0_u12 : bk u12 (9 * 0) L := bk_keep b0_u11 eu12.2 (by omega)
                      have b1_u12 : bk u12 (9 * 1) (szZ q) := bk_keep b1_u11 eu12.2 (by omega)
                      have b2_u12 : bk u12 (9 * 2) (L * (szZ q)) := bk_keep b2_u11 eu12.2 (by omega)
                      have b5_u12 : bk u12 (9 * 5) (X4 * X4) := eu12.1
                      have hP : va_P D classes [(o, .inr (5, [.int (iI cd), .int (iI z), .int (iI lv), .ref qT, .ref qC, .ref qF, .ref qY, .ref qZ, .ref qu, .ref qv, .ref qw, .ref qg, .ref qh, .ref qx, .ref qc, .ref qa, .ref qb, .ref qd, .int (iI fm), .ref qp, .ref qq])), (qx, eL t.2.1 54 u12)] H := hP
                      have hD : va_D A [(o, .inr (5, [.int (iI cd), .int (iI z), .int (iI lv), .ref qT, .ref qC, .ref qF, .ref qY, .ref qZ, .ref qu, .ref qv, .ref qw, .ref qg, .ref qh, .ref qx, .ref qc, .ref qa, .ref qb, .ref qd, .int (iI fm), .ref qp, .ref qq])), (qx, eL t.2.1 54 u12)] := hD
                      refine lv_aload_n hC.1 hC.2.1 d_Mo_squareSign_350 rfl (lv_at hl 7 rfl) ?_
                      refine z_iconst hC d_Mo_squareSign_351 ?_
                      refine z_iconst hC d_Mo_squareSign_352 ?_
                      refine z_iconst hC d_Mo_squareSign_353 ?_
                      refine z_mVv (As := [.int (iI 3), .int (iI 2), .int (iI 2)]) (rest := []) (wr := []) hC (c_Mo_product l D t ts o qT qC qF qY qZ qu qv qw qg qh qx qc qa qb qd qp qq cd z lv fm u12 3 2 2 (L * (szZ q)) (L * (szZ q)) (by decide) (by decide) (by decide) (by decide) (by decide) b2_u12 b2_u12 (by omega) (by omega) (by have := p9; have := mul_bd (a := L * (szZ q)) (b := L * (szZ q)) (A := 10000000000000000000000000000) (B := 10000000000000000000000000000) (by omega) (by omega); omega) _) (cw_V hC k_590 k_592 kp_35 k_6 k_593 ye_Mo_product (by decide)) hP hD hK hE hS hA [0, 1] [] (by decide) rfl rfl (by decide) (by decide) 0 (ci := 5) rfl rfl rfl rfl hl.1 rfl (Nat.le_of_ble_eq_true rfl) ⟨Nat.le_of_ble_eq_true rfl, Nat.le_of_ble_eq_true rfl⟩ d_Mo_squareSign_354 (fun u13 H locs eu13 hP hD hS => ?_)
                      have b4_u13 : bk u13 (9 * 4) X4 := bk_keep b4_u12 eu13.2 (by omega)
                      have b0_u13 : bk u13 (9 * 0) L := bk_keep b0_u12 eu13.2 (by omega)
                      have b1_u13 : bk u13 (9 * 1) (szZ q) := bk_keep b1_u12 eu13.2 (by omega)
                      have b2_u13 : bk u13 (9 * 2) (L * (szZ q)) := bk_keep b2_u12 eu13.2 (by omega)
                      have b5_u13 : bk u13 (9 * 5) (X4 * X4) := bk_keep b5_u12 eu13.2 (by omega)
                      have b3_u13 : bk u13 (9 * 3) ((L * (szZ q)) * (L * (szZ q))) := eu13.1
                      have hP : va_P D classes [(o, .inr (5, [.int (iI cd), .int (iI z), .int (iI lv), .ref qT, .ref qC, .ref qF, .ref qY, .ref qZ, .ref qu, .ref qv, .ref qw, .ref qg, .ref qh, .ref qx, .ref qc, .ref qa, .ref qb, .ref qd, .int (iI fm), .ref qp, .ref qq])), (qx, eL t.2.1 54 u13)] H := hP
                      have hD : va_D A [(o, .inr (5, [.int (iI cd), .int (iI z), .int (iI lv), .ref qT, .ref qC, .ref qF, .ref qY, .ref qZ, .ref qu, .ref qv, .ref qw, .ref qg, .ref qh, .ref qx, .ref qc, .ref qa, .ref qb, .ref qd, .int (iI fm), .ref qp, .ref qq])), (qx, eL t.2.1 54 u13)] := hD
                      refine lv_aload_n hC.1 hC.2.1 d_Mo_squareSign_357 rfl (lv_at hl 7 rfl) ?_
                      refine z_iconst hC d_Mo_squareSign_358 ?_
                      refine z_ldc2 hC k_594 d_Mo_squareSign_359 ?_
                      refine z_mVv (As := [.int (iI 0), .long (lI 5)]) (rest := []) (wr := []) hC (c_Mo_be l D t ts o qT qC qF qY qZ qu qv qw qg qh qx qc qa qb qd qp qq cd z lv fm u13 0 5 (by decide) (by decide) _) (cw_V hC k_585 k_587 kp_34 k_6 k_588 ye_Mo_be (by decide)) hP hD hK hE hS hA [0, 1] [] (by decide) rfl rfl (by decide) (by decide) 0 (ci := 5) rfl rfl rfl rfl hl.1 rfl (Nat.le_of_ble_eq_true rfl) ⟨Nat.le_of_ble_eq_true rfl, Nat.le_of_ble_eq_true rfl⟩ d_Mo_squareSign_362 (fun u14 H locs eu14 hP hD hS => ?_)
                      have b4_u14 : bk u14 (9 * 4) X4 := bk_keep b4_u13 eu14.2 (by omega)
                      have b1_u14 : bk u14 (9 * 1) (szZ q) := bk_keep b1_u13 eu14.2 (by omega)
                      have b2_u14 : bk u14 (9 * 2) (L * (szZ q)) := bk_keep b2_u13 eu14.2 (by omega)
                      have b5_u14 : bk u14 (9 * 5) (X4 * X4) := bk_keep b5_u13 eu14.2 (by omega)
                      have b3_u14 : bk u14 (9 * 3) ((L * (szZ q)) * (L * (szZ q))) := bk_keep b3_u13 eu14.2 (by omega)
                      have b0_u14 : bk u14 (9 * 0) 5 := eu14.1
                      have hP : va_P D classes [(o, .inr (5, [.int (iI cd), .int (iI z), .int (iI lv), .ref qT, .ref qC, .ref qF, .ref qY, .ref qZ, .ref qu, .ref qv, .ref qw, .ref qg, .ref qh, .ref qx, .ref qc, .ref qa, .ref qb, .ref qd, .int (iI fm), .ref qp, .ref qq])), (qx, eL t.2.1 54 u14)] H := hP
                      have hD : va_D A [(o, .inr (5, [.int (iI cd), .int (iI z), .int (iI lv), .ref qT, .ref qC, .ref qF, .ref qY, .ref qZ, .ref qu, .ref qv, .ref qw, .ref qg, .ref qh, .ref qx, .ref qc, .ref qa, .ref qb, .ref qd, .int (iI fm), .ref qp, .ref qq])), (qx, eL t.2.1 54 u14)] := hD
                      refine lv_aload_n hC.1 hC.2.1 d_Mo_squareSign_365 rfl (lv_at hl 7 rfl) ?_
                      refine z_iconst hC d_Mo_squareSign_366 ?_
                      refine z_iconst hC d_Mo_squareSign_367 ?_
                      refine z_iconst hC d_Mo_squareSign_368 ?_
                      refine z_mVv (As := [.int (iI 1), .int (iI 3), .int (iI 0)]) (rest := []) (wr := []) hC (c_Mo_product l D t ts o qT qC qF qY qZ qu qv qw qg qh qx qc qa qb qd qp qq cd z lv fm u14 1 3 0 ((L * (szZ q)) * (L * (szZ q))) 5 (by decide) (by decide) (by decide) (by decide) (by decide) b3_u14 b0_u14 (by omega) (by omega) (by have := p9; omega) _) (cw_V hC k_590 k_592 kp_35 k_6 k_593 ye_Mo_product (by decide)) hP hD hK hE hS hA [0, 1] [] (by decide) rfl rfl (by decide) (by decide) 0 (ci := 5) rfl rfl rfl rfl hl.1 rfl (Nat.le_of_ble_eq_true rfl) ⟨Nat.le_of_ble_eq_true rfl, Nat.le_of_ble_eq_true rfl⟩ d_Mo_squareSign_369 (fun u15 H locs eu15 hP hD hS => ?_)
                      have b4_u15 : bk u15 (9 * 4) X4 := bk_keep b4_u14 eu15.2 (by omega)
                      have b2_u15 : bk u15 (9 * 2) (L * (szZ q)) := bk_keep b2_u14 eu15.2 (by omega)
                      have b5_u15 : bk u15 (9 * 5) (X4 * X4) := bk_keep b5_u14 eu15.2 (by omega)
                      have b3_u15 : bk u15 (9 * 3) ((L * (szZ q)) * (L * (szZ q))) := bk_keep b3_u14 eu15.2 (by omega)
                      have b0_u15 : bk u15 (9 * 0) 5 := bk_keep b0_u14 eu15.2 (by omega)
                      have b1_u15 : bk u15 (9 * 1) (((L * (szZ q)) * (L * (szZ q))) * 5) := eu15.1
                      have hP : va_P D classes [(o, .inr (5, [.int (iI cd), .int (iI z), .int (iI lv), .ref qT, .ref qC, .ref qF, .ref qY, .ref qZ, .ref qu, .ref qv, .ref qw, .ref qg, .ref qh, .ref qx, .ref qc, .ref qa, .ref qb, .ref qd, .int (iI fm), .ref qp, .ref qq])), (qx, eL t.2.1 54 u15)] H := hP
                      have hD : va_D A [(o, .inr (5, [.int (iI cd), .int (iI z), .int (iI lv), .ref qT, .ref qC, .ref qF, .ref qY, .ref qZ, .ref qu, .ref qv, .ref qw, .ref qg, .ref qh, .ref qx, .ref qc, .ref qa, .ref qb, .ref qd, .int (iI fm), .ref qp, .ref qq])), (qx, eL t.2.1 54 u15)] := hD
                      refine lv_aload_n hC.1 hC.2.1 d_Mo_squareSign_372 rfl (lv_at hl 7 rfl) ?_
                      refine z_iconst hC d_Mo_squareSign_373 ?_
                      refine z_iconst hC d_Mo_squareSign_374 ?_
                      refine z_roVi (As := [.int (iI 5), .int (iI 1)]) (rest := []) hC (c_Mo_compare l D t ts o qT qC qF qY qZ qu qv qw qg qh qx qc qa qb qd qp qq cd z lv fm u15 5 1 (X4 * X4) (((L * (szZ q)) * (L * (szZ q))) * 5) (by decide) (by decide) b5_u15 b1_u15) (cw_V hC k_595 k_597 kp_36 k_6 k_598 ye_Mo_compare (by decide)) hP hK hE hS [0, 1] rfl 0 (ci := 5) rfl rfl rfl rfl hl.1 rfl (Nat.le_of_ble_eq_true rfl) ⟨Nat.le_of_ble_eq_true rfl, Nat.le_of_ble_eq_true rfl⟩ d_Mo_squareSign_375 ?_
                      have h378s := sgn_in (X4 * X4 - (L * szZ q) * (L * szZ q) * 5)
                      refine z_if_le (tgt := 385) hC d_Mo_squareSign_378 (by decide) (by have := sgn_in ((X4 * X4) - (((L * (szZ q)) * (L * (szZ q))) * 5)); omega) (fun h378 => ?_) (fun h378 => ?_)
                      · refine z_iconst hC d_Mo_squareSign_385 ?_
                        refine lv_iload hC.1 hC.2.1 d_Mo_squareSign_386 (lv_at hl 1 rfl) ?_
                        refine z_if_le (tgt := 395) hC d_Mo_squareSign_388 (by decide) (by have := sgn_in ((L * (szZ (2 * p + q))) - (((szZ od) * (szZ od)) * 2)); omega) (fun h388 => ?_) (fun h388 => ?_)
                        · refine z_iconst hC d_Mo_squareSign_395 ?_
                          refine z_icmp_ne (tgt := 403) hC d_Mo_squareSign_396 (by decide) (by decide) (by decide) (fun h => absurd h (by decide)) (fun _ => ?_)
                          refine z_iconst hC d_Mo_squareSign_399 ?_
                          refine z_goto (tgt := 404) hC d_Mo_squareSign_400 (by decide) ?_
                          have hP9 := hP.sub (ws' := [(o, .inr (5, [.int (iI cd), .int (iI z), .int (iI lv), .ref qT, .ref qC, .ref qF, .ref qY, .ref qZ, .ref qu, .ref qv, .ref qw, .ref qg, .ref qh, .ref qx, .ref qc, .ref qa, .ref qb, .ref qd, .int (iI fm), .ref qp, .ref qq])), (qx, eL t.2.1 54 u15)]) [0, 1] rfl
                          have hD9 := hD.sub (ws' := [(o, .inr (5, [.int (iI cd), .int (iI z), .int (iI lv), .ref qT, .ref qC, .ref qF, .ref qY, .ref qZ, .ref qu, .ref qv, .ref qw, .ref qg, .ref qh, .ref qx, .ref qc, .ref qa, .ref qb, .ref qd, .int (iI fm), .ref qp, .ref qq])), (qx, eL t.2.1 54 u15)]) [0, 1] (by decide) rfl
                          exact retv (1, u15) _ _ 404 _ _ d_Mo_squareSign_404 ⟨rfl, (by show 1 = _; rw [eV]; unfold rsZ; rw [if_neg (by omega), if_neg (by omega), if_pos (by rw [szX, q4]; (first | rw [sgn_gt] at h378 | rw [sgn_le] at h378); simp; omega)])⟩ hP9 hD9 hS
                        · refine z_iconst hC d_Mo_squareSign_391 ?_
                          refine z_goto (tgt := 396) hC d_Mo_squareSign_392 (by decide) ?_
                          refine z_icmp_ne (tgt := 403) hC d_Mo_squareSign_396 (by decide) (by decide) (by decide) (fun _ => ?_) (fun h => absurd h (by decide))
                          refine z_iconst hC d_Mo_squareSign_403 ?_
                          have hP9 := hP.sub (ws' := [(o, .inr (5, [.int (iI cd), .int (iI z), .int (iI lv), .ref qT, .ref qC, .ref qF, .ref qY, .ref qZ, .ref qu, .ref qv, .ref qw, .ref qg, .ref qh, .ref qx, .ref qc, .ref qa, .ref qb, .ref qd, .int (iI fm), .ref qp, .ref qq])), (qx, eL t.2.1 54 u15)]) [0, 1] rfl
                          have hD9 := hD.sub (ws' := [(o, .inr (5, [.int (iI cd), .int (iI z), .int (iI lv), .ref qT, .ref qC, .ref qF, .ref qY, .ref qZ, .ref qu, .ref qv, .ref qw, .ref qg, .ref qh, .ref qx, .ref qc, .ref qa, .ref qb, .ref qd, .int (iI fm), .ref qp, .ref qq])), (qx, eL t.2.1 54 u15)]) [0, 1] (by decide) rfl
                          exact retv (-1, u15) _ _ 404 _ _ d_Mo_squareSign_404 ⟨rfl, (by show -1 = _; rw [eV]; unfold rsZ; rw [if_neg (by omega), if_neg (by omega), if_neg (by rw [szX, q4]; (first | rw [sgn_gt] at h378 | rw [sgn_le] at h378); simp; omega)])⟩ hP9 hD9 hS
                      · refine z_iconst hC d_Mo_squareSign_381 ?_
                        refine z_goto (tgt := 386) hC d_Mo_squareSign_382 (by decide) ?_
                        refine lv_iload hC.1 hC.2.1 d_Mo_squareSign_386 (lv_at hl 1 rfl) ?_
                        refine z_if_le (tgt := 395) hC d_Mo_squareSign_388 (by decide) (by have := sgn_in ((L * (szZ (2 * p + q))) - (((szZ od) * (szZ od)) * 2)); omega) (fun h388 => ?_) (fun h388 => ?_)
                        · refine z_iconst hC d_Mo_squareSign_395 ?_
                          refine z_icmp_ne (tgt := 403) hC d_Mo_squareSign_396 (by decide) (by decide) (by decide) (fun _ => ?_) (fun h => absurd h (by decide))
                          refine z_iconst hC d_Mo_squareSign_403 ?_
                          have hP9 := hP.sub (ws' := [(o, .inr (5, [.int (iI cd), .int (iI z), .int (iI lv), .ref qT, .ref qC, .ref qF, .ref qY, .ref qZ, .ref qu, .ref qv, .ref qw, .ref qg, .ref qh, .ref qx, .ref qc, .ref qa, .ref qb, .ref qd, .int (iI fm), .ref qp, .ref qq])), (qx, eL t.2.1 54 u15)]) [0, 1] rfl
                          have hD9 := hD.sub (ws' := [(o, .inr (5, [.int (iI cd), .int (iI z), .int (iI lv), .ref qT, .ref qC, .ref qF, .ref qY, .ref qZ, .ref qu, .ref qv, .ref qw, .ref qg, .ref qh, .ref qx, .ref qc, .ref qa, .ref qb, .ref qd, .int (iI fm), .ref qp, .ref qq])), (qx, eL t.2.1 54 u15)]) [0, 1] (by decide) rfl
                          exact retv (-1, u15) _ _ 404 _ _ d_Mo_squareSign_404 ⟨rfl, (by show -1 = _; rw [eV]; unfold rsZ; rw [if_neg (by omega), if_neg (by omega), if_neg (by rw [szX, q4]; (first | rw [sgn_gt] at h378 | rw [sgn_le] at h378); simp; omega)])⟩ hP9 hD9 hS
                        · refine z_iconst hC d_Mo_squareSign_391 ?_
                          refine z_goto (tgt := 396) hC d_Mo_squareSign_392 (by decide) ?_
                          refine z_icmp_ne (tgt := 403) hC d_Mo_squareSign_396 (by decide) (by decide) (by decide) (fun h => absurd h (by decide)) (fun _ => ?_)
                          refine z_iconst hC d_Mo_squareSign_399 ?_
                          refine z_goto (tgt := 404) hC d_Mo_squareSign_400 (by decide) ?_
                          have hP9 := hP.sub (ws' := [(o, .inr (5, [.int (iI cd), .int (iI z), .int (iI lv), .ref qT, .ref qC, .ref qF, .ref qY, .ref qZ, .ref qu, .ref qv, .ref qw, .ref qg, .ref qh, .ref qx, .ref qc, .ref qa, .ref qb, .ref qd, .int (iI fm), .ref qp, .ref qq])), (qx, eL t.2.1 54 u15)]) [0, 1] rfl
                          have hD9 := hD.sub (ws' := [(o, .inr (5, [.int (iI cd), .int (iI z), .int (iI lv), .ref qT, .ref qC, .ref qF, .ref qY, .ref qZ, .ref qu, .ref qv, .ref qw, .ref qg, .ref qh, .ref qx, .ref qc, .ref qa, .ref qb, .ref qd, .int (iI fm), .ref qp, .ref qq])), (qx, eL t.2.1 54 u15)]) [0, 1] (by decide) rfl
                          exact retv (1, u15) _ _ 404 _ _ d_Mo_squareSign_404 ⟨rfl, (by show 1 = _; rw [eV]; unfold rsZ; rw [if_neg (by omega), if_neg (by omega), if_pos (by rw [szX, q4]; (first | rw [sgn_gt] at h378 | rw [sgn_le] at h378); simp; omega)])⟩ hP9 hD9 hS
                    · refine lv_iload hC.1 hC.2.1 d_Mo_squareSign_336 (lv_at hl 0 rfl) ?_
                      refine z_if_gt (tgt := 343) hC d_Mo_squareSign_338 (by decide) (by decide) (fun h => absurd h (by decide)) (fun _ => ?_)
                      refine z_iconst hC d_Mo_squareSign_341 ?_
                      have hP9 := hP.sub (ws' := [(o, .inr (5, [.int (iI cd), .int (iI z), .int (iI lv), .ref qT, .ref qC, .ref qF, .ref qY, .ref qZ, .ref qu, .ref qv, .ref qw, .ref qg, .ref qh, .ref qx, .ref qc, .ref qa, .ref qb, .ref qd, .int (iI fm), .ref qp, .ref qq])), (qx, eL t.2.1 54 u11)]) [0, 1] rfl
                      have hD9 := hD.sub (ws' := [(o, .inr (5, [.int (iI cd), .int (iI z), .int (iI lv), .ref qT, .ref qC, .ref qF, .ref qY, .ref qZ, .ref qu, .ref qv, .ref qw, .ref qg, .ref qh, .ref qx, .ref qc, .ref qa, .ref qb, .ref qd, .int (iI fm), .ref qp, .ref qq])), (qx, eL t.2.1 54 u11)]) [0, 1] (by decide) rfl
                      exact retv (-1, u11) _ _ 342 _ _ d_Mo_squareSign_342 ⟨rfl, (by show -1 = _; rw [eV]; unfold rsZ; rw [if_neg (by omega), if_pos (by omega)])⟩ hP9 hD9 hS
                  · refine lv_iload hC.1 hC.2.1 d_Mo_squareSign_310 (lv_at hl 0 rfl) ?_
                    refine z_if_lt (tgt := 331) hC d_Mo_squareSign_312 (by decide) (by decide) (fun h => absurd h (by decide)) (fun _ => ?_)
                    refine lv_iload hC.1 hC.2.1 d_Mo_squareSign_315 (lv_at hl 1 rfl) ?_
                    refine z_if_ne (tgt := 329) hC d_Mo_squareSign_317 (by decide) (by have := sgn_in ((L * (szZ (2 * p + q))) - (((szZ od) * (szZ od)) * 2)); omega) (fun h317 => ?_) (fun h317 => ?_)
                    · refine z_iconst hC d_Mo_squareSign_329 ?_
                      have hP9 := hP.sub (ws' := [(o, .inr (5, [.int (iI cd), .int (iI z), .int (iI lv), .ref qT, .ref qC, .ref qF, .ref qY, .ref qZ, .ref qu, .ref qv, .ref qw, .ref qg, .ref qh, .ref qx, .ref qc, .ref qa, .ref qb, .ref qd, .int (iI fm), .ref qp, .ref qq])), (qx, eL t.2.1 54 u11)]) [0, 1] rfl
                      have hD9 := hD.sub (ws' := [(o, .inr (5, [.int (iI cd), .int (iI z), .int (iI lv), .ref qT, .ref qC, .ref qF, .ref qY, .ref qZ, .ref qu, .ref qv, .ref qw, .ref qg, .ref qh, .ref qx, .ref qc, .ref qa, .ref qb, .ref qd, .int (iI fm), .ref qp, .ref qq])), (qx, eL t.2.1 54 u11)]) [0, 1] (by decide) rfl
                      exact retv (1, u11) _ _ 330 _ _ d_Mo_squareSign_330 ⟨rfl, (by show 1 = _; rw [eV]; unfold rsZ; rw [if_pos (by omega), if_neg (by omega)])⟩ hP9 hD9 hS
                    · refine lv_iload hC.1 hC.2.1 d_Mo_squareSign_320 (lv_at hl 0 rfl) ?_
                      refine z_if_ne (tgt := 329) hC d_Mo_squareSign_322 (by decide) (by decide) (fun h => absurd h (by decide)) (fun _ => ?_)
                      refine z_iconst hC d_Mo_squareSign_325 ?_
                      refine z_goto (tgt := 330) hC d_Mo_squareSign_326 (by decide) ?_
                      have hP9 := hP.sub (ws' := [(o, .inr (5, [.int (iI cd), .int (iI z), .int (iI lv), .ref qT, .ref qC, .ref qF, .ref qY, .ref qZ, .ref qu, .ref qv, .ref qw, .ref qg, .ref qh, .ref qx, .ref qc, .ref qa, .ref qb, .ref qd, .int (iI fm), .ref qp, .ref qq])), (qx, eL t.2.1 54 u11)]) [0, 1] rfl
                      have hD9 := hD.sub (ws' := [(o, .inr (5, [.int (iI cd), .int (iI z), .int (iI lv), .ref qT, .ref qC, .ref qF, .ref qY, .ref qZ, .ref qu, .ref qv, .ref qw, .ref qg, .ref qh, .ref qx, .ref qc, .ref qa, .ref qb, .ref qd, .int (iI fm), .ref qp, .ref qq])), (qx, eL t.2.1 54 u11)]) [0, 1] (by decide) rfl
                      exact retv (0, u11) _ _ 330 _ _ d_Mo_squareSign_330 ⟨rfl, (by show 0 = _; rw [eV]; unfold rsZ; rw [if_pos (by omega), if_pos (by omega)])⟩ hP9 hD9 hS
                · refine z_iconst hC d_Mo_squareSign_298 ?_
                  refine z_goto (tgt := 303) hC d_Mo_squareSign_299 (by decide) ?_
                  refine lv_istore (lv' := [(15, .int (iI 1)), (14, .int (iI (sgn ((L * (szZ (2 * p + q))) - (((szZ od) * (szZ od)) * 2))))), (13, .int (iI (zB no))), (12, .int (iI 1)), (11, .int (iI (sgn ((L * (szZ (2 * p + q))) - (((szZ od) * (szZ od)) * 2))))), (10, .int (iI 0)), (8, .long (lI L)), (0, .ref o), (1, .long (lI od)), (3, .int (iI len)), (4, .long (lI p)), (6, .long (lI q))]) hC.1 hC.2.1 d_Mo_squareSign_303 hl (by decide) rfl (fun ls hl => ?_)
                  refine lv_iload hC.1 hC.2.1 d_Mo_squareSign_305 (lv_at hl 1 rfl) ?_
                  refine z_if_lt (tgt := 331) hC d_Mo_squareSign_307 (by decide) (by have := sgn_in ((L * (szZ (2 * p + q))) - (((szZ od) * (szZ od)) * 2)); omega) (fun h307 => ?_) (fun h307 => ?_)
                  · refine lv_iload hC.1 hC.2.1 d_Mo_squareSign_331 (lv_at hl 1 rfl) ?_
                    refine z_if_gt (tgt := 343) hC d_Mo_squareSign_333 (by decide) (by have := sgn_in ((L * (szZ (2 * p + q))) - (((szZ od) * (szZ od)) * 2)); omega) (fun h333 => ?_) (fun h333 => ?_)
                    · refine lv_aload_n hC.1 hC.2.1 d_Mo_squareSign_343 rfl (lv_at hl 7 rfl) ?_
                      refine z_iconst hC d_Mo_squareSign_344 ?_
                      refine z_iconst hC d_Mo_squareSign_345 ?_
                      refine z_iconst hC d_Mo_squareSign_346 ?_
                      refine z_mVv (As := [.int (iI 5), .int (iI 4), .int (iI 4)]) (rest := []) (wr := []) hC (c_Mo_product l D t ts o qT qC qF qY qZ qu qv qw qg qh qx qc qa qb qd qp qq cd z lv fm u11 5 4 4 X4 X4 (by decide) (by decide) (by decide) (by decide) (by decide) b4_u11 b4_u11 (by omega) (by omega) (by have := p9; have := mul_bd (a := X4) (b := X4) (A := 210000000000000000000000000000) (B := 210000000000000000000000000000) (by omega) (by omega); omega) _) (cw_V hC k_590 k_592 kp_35 k_6 k_593 ye_Mo_product (by decide)) hP hD hK hE hS hA [0, 1] [] (by decide) rfl rfl (by decide) (by decide) 0 (ci := 5) rfl rfl rfl rfl hl.1 rfl (Nat.le_of_ble_eq_true rfl) ⟨Nat.le_of_ble_eq_true rfl, Nat.le_of_ble_eq_true rfl⟩ d_Mo_squareSign_347 (fun u16 H locs eu16 hP hD hS => ?_)
                      have b3_u16 : bk u16 (9 * 3) ((szZ od) * (szZ od)) := bk_keep b3_u11 eu16.2 (by omega)
                      have b4_u16 : bk u16 (9 * 4) X4 := bk_keep b4_u11 eu16.2 (by omega)
                      have b0_u16 : bk u16 (9 * 0) L := bk_keep b0_u11 eu16.2 (by omega)
                      have b1_u16 : bk u16 (9 * 1) (szZ q) := bk_keep b1_u11 eu16.2 (by omega)
                      have b2_u16 : bk u16 (9 * 2) (L * (szZ q)) := bk_keep b2_u11 eu16.2 (by omega)
                      have b5_u16 : bk u16 (9 * 5) (X4 * X4) := eu16.1
                      have hP : va_P D classes [(o, .inr (5, [.int (iI cd), .int (iI z), .int (iI lv), .ref qT, .ref qC, .ref qF, .ref qY, .ref qZ, .ref qu, .ref qv, .ref qw, .ref qg, .ref qh, .ref qx, .ref qc, .ref qa, .ref qb, .ref qd, .int (iI fm), .ref qp, .ref qq])), (qx, eL t.2.1 54 u16)] H := hP
                      have hD : va_D A [(o, .inr (5, [.int (iI cd), .int (iI z), .int (iI lv), .ref qT, .ref qC, .ref qF, .ref qY, .ref qZ, .ref qu, .ref qv, .ref qw, .ref qg, .ref qh, .ref qx, .ref qc, .ref qa, .ref qb, .ref qd, .int (iI fm), .ref qp, .ref qq])), (qx, eL t.2.1 54 u16)] := hD
                      refine lv_aload_n hC.1 hC.2.1 d_Mo_squareSign_350 rfl (lv_at hl 7 rfl) ?_
                      refine z_iconst hC d_Mo_squareSign_351 ?_
                      refine z_iconst hC d_Mo_squareSign_352 ?_
                      refine z_iconst hC d_Mo_squareSign_353 ?_
                      refine z_mVv (As := [.int (iI 3), .int (iI 2), .int (iI 2)]) (rest := []) (wr := []) hC (c_Mo_product l D t ts o qT qC qF qY qZ qu qv qw qg qh qx qc qa qb qd qp qq cd z lv fm u16 3 2 2 (L * (szZ q)) (L * (szZ q)) (by decide) (by decide) (by decide) (by decide) (by decide) b2_u16 b2_u16 (by omega) (by omega) (by have := p9; have := mul_bd (a := L * (szZ q)) (b := L * (szZ q)) (A := 10000000000000000000000000000) (B := 10000000000000000000000000000) (by omega) (by omega); omega) _) (cw_V hC k_590 k_592 kp_35 k_6 k_593 ye_Mo_product (by decide)) hP hD hK hE hS hA [0, 1] [] (by decide) rfl rfl (by decide) (by decide) 0 (ci := 5) rfl rfl rfl rfl hl.1 rfl (Nat.le_of_ble_eq_true rfl) ⟨Nat.le_of_ble_eq_true rfl, Nat.le_of_ble_eq_true rfl⟩ d_Mo_squareSign_354 (fun u17 H locs eu17 hP hD hS => ?_)
                      have b4_u17 : bk u17 (9 * 4) X4 := bk_keep b4_u16 eu17.2 (by omega)
                      have b0_u17 : bk u17 (9 * 0) L := bk_keep b0_u16 eu17.2 (by omega)
                      have b1_u17 : bk u17 (9 * 1) (szZ q) := bk_keep b1_u16 eu17.2 (by omega)
                      have b2_u17 : bk u17 (9 * 2) (L * (szZ q)) := bk_keep b2_u16 eu17.2 (by omega)
                      have b5_u17 : bk u17 (9 * 5) (X4 * X4) := bk_keep b5_u16 eu17.2 (by omega)
                      have b3_u17 : bk u17 (9 * 3) ((L * (szZ q)) * (L * (szZ q))) := eu17.1
                      have hP : va_P D classes [(o, .inr (5, [.int (iI cd), .int (iI z), .int (iI lv), .ref qT, .ref qC, .ref qF, .ref qY, .ref qZ, .ref qu, .ref qv, .ref qw, .ref qg, .ref qh, .ref qx, .ref qc, .ref qa, .ref qb, .ref qd, .int (iI fm), .ref qp, .ref qq])), (qx, eL t.2.1 54 u17)] H := hP
                      have hD : va_D A [(o, .inr (5, [.int (iI cd), .int (iI z), .int (iI lv), .ref qT, .ref qC, .ref qF, .ref qY, .ref qZ, .ref qu, .ref qv, .ref qw, .ref qg, .ref qh, .ref qx, .ref qc, .ref qa, .ref qb, .ref qd, .int (iI fm), .ref qp, .ref qq])), (qx, eL t.2.1 54 u17)] := hD
                      refine lv_aload_n hC.1 hC.2.1 d_Mo_squareSign_357 rfl (lv_at hl 7 rfl) ?_
                      refine z_iconst hC d_Mo_squareSign_358 ?_
                      refine z_ldc2 hC k_594 d_Mo_squareSign_359 ?_
                      refine z_mVv (As := [.int (iI 0), .long (lI 5)]) (rest := []) (wr := []) hC (c_Mo_be l D t ts o qT qC qF qY qZ qu qv qw qg qh qx qc qa qb qd qp qq cd z lv fm u17 0 5 (by decide) (by decide) _) (cw_V hC k_585 k_587 kp_34 k_6 k_588 ye_Mo_be (by decide)) hP hD hK hE hS hA [0, 1] [] (by decide) rfl rfl (by decide) (by decide) 0 (ci := 5) rfl rfl rfl rfl hl.1 rfl (Nat.le_of_ble_eq_true rfl) ⟨Nat.le_of_ble_eq_true rfl, Nat.le_of_ble_eq_true rfl⟩ d_Mo_squareSign_362 (fun u18 H locs eu18 hP hD hS => ?_)
                      have b4_u18 : bk u18 (9 * 4) X4 := bk_keep b4_u17 eu18.2 (by omega)
                      have b1_u18 : bk u18 (9 * 1) (szZ q) := bk_keep b1_u17 eu18.2 (by omega)
                      have b2_u18 : bk u18 (9 * 2) (L * (szZ q)) := bk_keep b2_u17 eu18.2 (by omega)
                      have b5_u18 : bk u18 (9 * 5) (X4 * X4) := bk_keep b5_u17 eu18.2 (by omega)
                      have b3_u18 : bk u18 (9 * 3) ((L * (szZ q)) * (L * (szZ q))) := bk_keep b3_u17 eu18.2 (by omega)
                      have b0_u18 : bk u18 (9 * 0) 5 := eu18.1
                      have hP : va_P D classes [(o, .inr (5, [.int (iI cd), .int (iI z), .int (iI lv), .ref qT, .ref qC, .ref qF, .ref qY, .ref qZ, .ref qu, .ref qv, .ref qw, .ref qg, .ref qh, .ref qx, .ref qc, .ref qa, .ref qb, .ref qd, .int (iI fm), .ref qp, .ref qq])), (qx, eL t.2.1 54 u18)] H := hP
                      have hD : va_D A [(o, .inr (5, [.int (iI cd), .int (iI z), .int (iI lv), .ref qT, .ref qC, .ref qF, .ref qY, .ref qZ, .ref qu, .ref qv, .ref qw, .ref qg, .ref qh, .ref qx, .ref qc, .ref qa, .ref qb, .ref qd, .int (iI fm), .ref qp, .ref qq])), (qx, eL t.2.1 54 u18)] := hD
                      refine lv_aload_n hC.1 hC.2.1 d_Mo_squareSign_365 rfl (lv_at hl 7 rfl) ?_
                      refine z_iconst hC d_Mo_squareSign_366 ?_
                      refine z_iconst hC d_Mo_squareSign_367 ?_
                      refine z_iconst hC d_Mo_squareSign_368 ?_
                      refine z_mVv (As := [.int (iI 1), .int (iI 3), .int (iI 0)]) (rest := []) (wr := []) hC (c_Mo_product l D t ts o qT qC qF qY qZ qu qv qw qg qh qx qc qa qb qd qp qq cd z lv fm u18 1 3 0 ((L * (szZ q)) * (L * (szZ q))) 5 (by decide) (by decide) (by decide) (by decide) (by decide) b3_u18 b0_u18 (by omega) (by omega) (by have := p9; omega) _) (cw_V hC k_590 k_592 kp_35 k_6 k_593 ye_Mo_product (by decide)) hP hD hK hE hS hA [0, 1] [] (by decide) rfl rfl (by decide) (by decide) 0 (ci := 5) rfl rfl rfl rfl hl.1 rfl (Nat.le_of_ble_eq_true rfl) ⟨Nat.le_of_ble_eq_true rfl, Nat.le_of_ble_eq_true rfl⟩ d_Mo_squareSign_369 (fun u19 H locs eu19 hP hD hS => ?_)
                      have b4_u19 : bk u19 (9 * 4) X4 := bk_keep b4_u18 eu19.2 (by omega)
                      have b2_u19 : bk u19 (9 * 2) (L * (szZ q)) := bk_keep b2_u18 eu19.2 (by omega)
                      have b5_u19 : bk u19 (9 * 5) (X4 * X4) := bk_keep b5_u18 eu19.2 (by omega)
                      have b3_u19 : bk u19 (9 * 3) ((L * (szZ q)) * (L * (szZ q))) := bk_keep b3_u18 eu19.2 (by omega)
                      have b0_u19 : bk u19 (9 * 0) 5 := bk_keep b0_u18 eu19.2 (by omega)
                      have b1_u19 : bk u19 (9 * 1) (((L * (szZ q)) * (L * (szZ q))) * 5) := eu19.1
                      have hP : va_P D classes [(o, .inr (5, [.int (iI cd), .int (iI z), .int (iI lv), .ref qT, .ref qC, .ref qF, .ref qY, .ref qZ, .ref qu, .ref qv, .ref qw, .ref qg, .ref qh, .ref qx, .ref qc, .ref qa, .ref qb, .ref qd, .int (iI fm), .ref qp, .ref qq])), (qx, eL t.2.1 54 u19)] H := hP
                      have hD : va_D A [(o, .inr (5, [.int (iI cd), .int (iI z), .int (iI lv), .ref qT, .ref qC, .ref qF, .ref qY, .ref qZ, .ref qu, .ref qv, .ref qw, .ref qg, .ref qh, .ref qx, .ref qc, .ref qa, .ref qb, .ref qd, .int (iI fm), .ref qp, .ref qq])), (qx, eL t.2.1 54 u19)] := hD
                      refine lv_aload_n hC.1 hC.2.1 d_Mo_squareSign_372 rfl (lv_at hl 7 rfl) ?_
                      refine z_iconst hC d_Mo_squareSign_373 ?_
                      refine z_iconst hC d_Mo_squareSign_374 ?_
                      refine z_roVi (As := [.int (iI 5), .int (iI 1)]) (rest := []) hC (c_Mo_compare l D t ts o qT qC qF qY qZ qu qv qw qg qh qx qc qa qb qd qp qq cd z lv fm u19 5 1 (X4 * X4) (((L * (szZ q)) * (L * (szZ q))) * 5) (by decide) (by decide) b5_u19 b1_u19) (cw_V hC k_595 k_597 kp_36 k_6 k_598 ye_Mo_compare (by decide)) hP hK hE hS [0, 1] rfl 0 (ci := 5) rfl rfl rfl rfl hl.1 rfl (Nat.le_of_ble_eq_true rfl) ⟨Nat.le_of_ble_eq_true rfl, Nat.le_of_ble_eq_true rfl⟩ d_Mo_squareSign_375 ?_
                      have h378s := sgn_in (X4 * X4 - (L * szZ q) * (L * szZ q) * 5)
                      refine z_if_le (tgt := 385) hC d_Mo_squareSign_378 (by decide) (by have := sgn_in ((X4 * X4) - (((L * (szZ q)) * (L * (szZ q))) * 5)); omega) (fun h378 => ?_) (fun h378 => ?_)
                      · refine z_iconst hC d_Mo_squareSign_385 ?_
                        refine lv_iload hC.1 hC.2.1 d_Mo_squareSign_386 (lv_at hl 1 rfl) ?_
                        refine z_if_le (tgt := 395) hC d_Mo_squareSign_388 (by decide) (by have := sgn_in ((L * (szZ (2 * p + q))) - (((szZ od) * (szZ od)) * 2)); omega) (fun h388 => ?_) (fun h388 => ?_)
                        · refine z_iconst hC d_Mo_squareSign_395 ?_
                          refine z_icmp_ne (tgt := 403) hC d_Mo_squareSign_396 (by decide) (by decide) (by decide) (fun h => absurd h (by decide)) (fun _ => ?_)
                          refine z_iconst hC d_Mo_squareSign_399 ?_
                          refine z_goto (tgt := 404) hC d_Mo_squareSign_400 (by decide) ?_
                          have hP9 := hP.sub (ws' := [(o, .inr (5, [.int (iI cd), .int (iI z), .int (iI lv), .ref qT, .ref qC, .ref qF, .ref qY, .ref qZ, .ref qu, .ref qv, .ref qw, .ref qg, .ref qh, .ref qx, .ref qc, .ref qa, .ref qb, .ref qd, .int (iI fm), .ref qp, .ref qq])), (qx, eL t.2.1 54 u19)]) [0, 1] rfl
                          have hD9 := hD.sub (ws' := [(o, .inr (5, [.int (iI cd), .int (iI z), .int (iI lv), .ref qT, .ref qC, .ref qF, .ref qY, .ref qZ, .ref qu, .ref qv, .ref qw, .ref qg, .ref qh, .ref qx, .ref qc, .ref qa, .ref qb, .ref qd, .int (iI fm), .ref qp, .ref qq])), (qx, eL t.2.1 54 u19)]) [0, 1] (by decide) rfl
                          exact retv (1, u19) _ _ 404 _ _ d_Mo_squareSign_404 ⟨rfl, (by show 1 = _; rw [eV]; unfold rsZ; rw [if_neg (by omega), if_neg (by omega), if_pos (by rw [szX, q4]; (first | rw [sgn_gt] at h378 | rw [sgn_le] at h378); simp; omega)])⟩ hP9 hD9 hS
                        · refine z_iconst hC d_Mo_squareSign_391 ?_
                          refine z_goto (tgt := 396) hC d_Mo_squareSign_392 (by decide) ?_
                          refine z_icmp_ne (tgt := 403) hC d_Mo_squareSign_396 (by decide) (by decide) (by decide) (fun _ => ?_) (fun h => absurd h (by decide))
                          refine z_iconst hC d_Mo_squareSign_403 ?_
                          have hP9 := hP.sub (ws' := [(o, .inr (5, [.int (iI cd), .int (iI z), .int (iI lv), .ref qT, .ref qC, .ref qF, .ref qY, .ref qZ, .ref qu, .ref qv, .ref qw, .ref qg, .ref qh, .ref qx, .ref qc, .ref qa, .ref qb, .ref qd, .int (iI fm), .ref qp, .ref qq])), (qx, eL t.2.1 54 u19)]) [0, 1] rfl
                          have hD9 := hD.sub (ws' := [(o, .inr (5, [.int (iI cd), .int (iI z), .int (iI lv), .ref qT, .ref qC, .ref qF, .ref qY, .ref qZ, .ref qu, .ref qv, .ref qw, .ref qg, .ref qh, .ref qx, .ref qc, .ref qa, .ref qb, .ref qd, .int (iI fm), .ref qp, .ref qq])), (qx, eL t.2.1 54 u19)]) [0, 1] (by decide) rfl
                          exact retv (-1, u19) _ _ 404 _ _ d_Mo_squareSign_404 ⟨rfl, (by show -1 = _; rw [eV]; unfold rsZ; rw [if_neg (by omega), if_neg (by omega), if_neg (by rw [szX, q4]; (first | rw [sgn_gt] at h378 | rw [sgn_le] at h378); simp; omega)])⟩ hP9 hD9 hS
                      · refine z_iconst hC d_Mo_squareSign_381 ?_
                        refine z_goto (tgt := 386) hC d_Mo_squareSign_382 (by decide) ?_
                        refine lv_iload hC.1 hC.2.1 d_Mo_squareSign_386 (lv_at hl 1 rfl) ?_
                        refine z_if_le (tgt := 395) hC d_Mo_squareSign_388 (by decide) (by have := sgn_in ((L * (szZ (2 * p + q))) - (((szZ od) * (szZ od)) * 2)); omega) (fun h388 => ?_) (fun h388 => ?_)
                        · refine z_iconst hC d_Mo_squareSign_395 ?_
                          refine z_icmp_ne (tgt := 403) hC d_Mo_squareSign_396 (by decide) (by decide) (by decide) (fun _ => ?_) (fun h => absurd h (by decide))
                          refine z_iconst hC d_Mo_squareSign_403 ?_
                          have hP9 := hP.sub (ws' := [(o, .inr (5, [.int (iI cd), .int (iI z), .int (iI lv), .ref qT, .ref qC, .ref qF, .ref qY, .ref qZ, .ref qu, .ref qv, .ref qw, .ref qg, .ref qh, .ref qx, .ref qc, .ref qa, .ref qb, .ref qd, .int (iI fm), .ref qp, .ref qq])), (qx, eL t.2.1 54 u19)]) [0, 1] rfl
                          have hD9 := hD.sub (ws' := [(o, .inr (5, [.int (iI cd), .int (iI z), .int (iI lv), .ref qT, .ref qC, .ref qF, .ref qY, .ref qZ, .ref qu, .ref qv, .ref qw, .ref qg, .ref qh, .ref qx, .ref qc, .ref qa, .ref qb, .ref qd, .int (iI fm), .ref qp, .ref qq])), (qx, eL t.2.1 54 u19)]) [0, 1] (by decide) rfl
                          exact retv (-1, u19) _ _ 404 _ _ d_Mo_squareSign_404 ⟨rfl, (by show -1 = _; rw [eV]; unfold rsZ; rw [if_neg (by omega), if_neg (by omega), if_neg (by rw [szX, q4]; (first | rw [sgn_gt] at h378 | rw [sgn_le] at h378); simp; omega)])⟩ hP9 hD9 hS
                        · refine z_iconst hC d_Mo_squareSign_391 ?_
                          refine z_goto (tgt := 396) hC d_Mo_squareSign_392 (by decide) ?_
                          refine z_icmp_ne (tgt := 403) hC d_Mo_squareSign_396 (by decide) (by decide) (by decide) (fun h => absurd h (by decide)) (fun _ => ?_)
                          refine z_iconst hC d_Mo_squareSign_399 ?_
                          refine z_goto (tgt := 404) hC d_Mo_squareSign_400 (by decide) ?_
                          have hP9 := hP.sub (ws' := [(o, .inr (5, [.int (iI cd), .int (iI z), .int (iI lv), .ref qT, .ref qC, .ref qF, .ref qY, .ref qZ, .ref qu, .ref qv, .ref qw, .ref qg, .ref qh, .ref qx, .ref qc, .ref qa, .ref qb, .ref qd, .int (iI fm), .ref qp, .ref qq])), (qx, eL t.2.1 54 u19)]) [0, 1] rfl
                          have hD9 := hD.sub (ws' := [(o, .inr (5, [.int (iI cd), .int (iI z), .int (iI lv), .ref qT, .ref qC, .ref qF, .ref qY, .ref qZ, .ref qu, .ref qv, .ref qw, .ref qg, .ref qh, .ref qx, .ref qc, .ref qa, .ref qb, .ref qd, .int (iI fm), .ref qp, .ref qq])), (qx, eL t.2.1 54 u19)]) [0, 1] (by decide) rfl
                          exact retv (1, u19) _ _ 404 _ _ d_Mo_squareSign_404 ⟨rfl, (by show 1 = _; rw [eV]; unfold rsZ; rw [if_neg (by omega), if_neg (by omega), if_pos (by rw [szX, q4]; (first | rw [sgn_gt] at h378 | rw [sgn_le] at h378); simp; omega)])⟩ hP9 hD9 hS
                    · refine lv_iload hC.1 hC.2.1 d_Mo_squareSign_336 (lv_at hl 0 rfl) ?_
                      refine z_if_gt (tgt := 343) hC d_Mo_squareSign_338 (by decide) (by decide) (fun _ => ?_) (fun h => absurd h (by decide))
                      refine lv_aload_n hC.1 hC.2.1 d_Mo_squareSign_343 rfl (lv_at hl 7 rfl) ?_
                      refine z_iconst hC d_Mo_squareSign_344 ?_
                      refine z_iconst hC d_Mo_squareSign_345 ?_
                      refine z_iconst hC d_Mo_squareSign_346 ?_
                      refine z_mVv (As := [.int (iI 5), .int (iI 4), .int (iI 4)]) (rest := []) (wr := []) hC (c_Mo_product l D t ts o qT qC qF qY qZ qu qv qw qg qh qx qc qa qb qd qp qq cd z lv fm u11 5 4 4 X4 X4 (by decide) (by decide) (by decide) (by decide) (by decide) b4_u11 b4_u11 (by omega) (by omega) (by have := p9; have := mul_bd (a := X4) (b := X4) (A := 210000000000000000000000000000) (B := 210000000000000000000000000000) (by omega) (by omega); omega) _) (cw_V hC k_590 k_592 kp_35 k_6 k_593 ye_Mo_product (by decide)) hP hD hK hE hS hA [0, 1] [] (by decide) rfl rfl (by decide) (by decide) 0 (ci := 5) rfl rfl rfl rfl hl.1 rfl (Nat.le_of_ble_eq_true rfl) ⟨Nat.le_of_ble_eq_true rfl, Nat.le_of_ble_eq_true rfl⟩ d_Mo_squareSign_347 (fun u20 H locs eu20 hP hD hS => ?_)
                      have b3_u20 : bk u20 (9 * 3) ((szZ od) * (szZ od)) := bk_keep b3_u11 eu20.2 (by omega)
                      have b4_u20 : bk u20 (9 * 4) X4 := bk_keep b4_u11 eu20.2 (by omega)
                      have b0_u20 : bk u20 (9 * 0) L := bk_keep b0_u11 eu20.2 (by omega)
                      have b1_u20 : bk u20 (9 * 1) (szZ q) := bk_keep b1_u11 eu20.2 (by omega)
                      have b2_u20 : bk u20 (9 * 2) (L * (szZ q)) := bk_keep b2_u11 eu20.2 (by omega)
                      have b5_u20 : bk u20 (9 * 5) (X4 * X4) := eu20.1
                      have hP : va_P D classes [(o, .inr (5, [.int (iI cd), .int (iI z), .int (iI lv), .ref qT, .ref qC, .ref qF, .ref qY, .ref qZ, .ref qu, .ref qv, .ref qw, .ref qg, .ref qh, .ref qx, .ref qc, .ref qa, .ref qb, .ref qd, .int (iI fm), .ref qp, .ref qq])), (qx, eL t.2.1 54 u20)] H := hP
                      have hD : va_D A [(o, .inr (5, [.int (iI cd), .int (iI z), .int (iI lv), .ref qT, .ref qC, .ref qF, .ref qY, .ref qZ, .ref qu, .ref qv, .ref qw, .ref qg, .ref qh, .ref qx, .ref qc, .ref qa, .ref qb, .ref qd, .int (iI fm), .ref qp, .ref qq])), (qx, eL t.2.1 54 u20)] := hD
                      refine lv_aload_n hC.1 hC.2.1 d_Mo_squareSign_350 rfl (lv_at hl 7 rfl) ?_
                      refine z_iconst hC d_Mo_squareSign_351 ?_
                      refine z_iconst hC d_Mo_squareSign_352 ?_
                      refine z_iconst hC d_Mo_squareSign_353 ?_
                      refine z_mVv (As := [.int (iI 3), .int (iI 2), .int (iI 2)]) (rest := []) (wr := []) hC (c_Mo_product l D t ts o qT qC qF qY qZ qu qv qw qg qh qx qc qa qb qd qp qq cd z lv fm u20 3 2 2 (L * (szZ q)) (L * (szZ q)) (by decide) (by decide) (by decide) (by decide) (by decide) b2_u20 b2_u20 (by omega) (by omega) (by have := p9; have := mul_bd (a := L * (szZ q)) (b := L * (szZ q)) (A := 10000000000000000000000000000) (B := 10000000000000000000000000000) (by omega) (by omega); omega) _) (cw_V hC k_590 k_592 kp_35 k_6 k_593 ye_Mo_product (by decide)) hP hD hK hE hS hA [0, 1] [] (by decide) rfl rfl (by decide) (by decide) 0 (ci := 5) rfl rfl rfl rfl hl.1 rfl (Nat.le_of_ble_eq_true rfl) ⟨Nat.le_of_ble_eq_true rfl, Nat.le_of_ble_eq_true rfl⟩ d_Mo_squareSign_354 (fun u21 H locs eu21 hP hD hS => ?_)
                      have b4_u21 : bk u21 (9 * 4) X4 := bk_keep b4_u20 eu21.2 (by omega)
                      have b0_u21 : bk u21 (9 * 0) L := bk_keep b0_u20 eu21.2 (by omega)
                      have b1_u21 : bk u21 (9 * 1) (szZ q) := bk_keep b1_u20 eu21.2 (by omega)
                      have b2_u21 : bk u21 (9 * 2) (L * (szZ q)) := bk_keep b2_u20 eu21.2 (by omega)
                      have b5_u21 : bk u21 (9 * 5) (X4 * X4) := bk_keep b5_u20 eu21.2 (by omega)
                      have b3_u21 : bk u21 (9 * 3) ((L * (szZ q)) * (L * (szZ q))) := eu21.1
                      have hP : va_P D classes [(o, .inr (5, [.int (iI cd), .int (iI z), .int (iI lv), .ref qT, .ref qC, .ref qF, .ref qY, .ref qZ, .ref qu, .ref qv, .ref qw, .ref qg, .ref qh, .ref qx, .ref qc, .ref qa, .ref qb, .ref qd, .int (iI fm), .ref qp, .ref qq])), (qx, eL t.2.1 54 u21)] H := hP
                      have hD : va_D A [(o, .inr (5, [.int (iI cd), .int (iI z), .int (iI lv), .ref qT, .ref qC, .ref qF, .ref qY, .ref qZ, .ref qu, .ref qv, .ref qw, .ref qg, .ref qh, .ref qx, .ref qc, .ref qa, .ref qb, .ref qd, .int (iI fm), .ref qp, .ref qq])), (qx, eL t.2.1 54 u21)] := hD
                      refine lv_aload_n hC.1 hC.2.1 d_Mo_squareSign_357 rfl (lv_at hl 7 rfl) ?_
                      refine z_iconst hC d_Mo_squareSign_358 ?_
                      refine z_ldc2 hC k_594 d_Mo_squareSign_359 ?_
                      refine z_mVv (As := [.int (iI 0), .long (lI 5)]) (rest := []) (wr := []) hC (c_Mo_be l D t ts o qT qC qF qY qZ qu qv qw qg qh qx qc qa qb qd qp qq cd z lv fm u21 0 5 (by decide) (by decide) _) (cw_V hC k_585 k_587 kp_34 k_6 k_588 ye_Mo_be (by decide)) hP hD hK hE hS hA [0, 1] [] (by decide) rfl rfl (by decide) (by decide) 0 (ci := 5) rfl rfl rfl rfl hl.1 rfl (Nat.le_of_ble_eq_true rfl) ⟨Nat.le_of_ble_eq_true rfl, Nat.le_of_ble_eq_true rfl⟩ d_Mo_squareSign_362 (fun u22 H locs eu22 hP hD hS => ?_)
                      have b4_u22 : bk u22 (9 * 4) X4 := bk_keep b4_u21 eu22.2 (by omega)
                      have b1_u22 : bk u22 (9 * 1) (szZ q) := bk_keep b1_u21 eu22.2 (by omega)
                      have b2_u22 : bk u22 (9 * 2) (L * (szZ q)) := bk_keep b2_u21 eu22.2 (by omega)
                      have b5_u22 : bk u22 (9 * 5) (X4 * X4) := bk_keep b5_u21 eu22.2 (by omega)
                      have b3_u22 : bk u22 (9 * 3) ((L * (szZ q)) * (L * (szZ q))) := bk_keep b3_u21 eu22.2 (by omega)
                      have b0_u22 : bk u22 (9 * 0) 5 := eu22.1
                      have hP : va_P D classes [(o, .inr (5, [.int (iI cd), .int (iI z), .int (iI lv), .ref qT, .ref qC, .ref qF, .ref qY, .ref qZ, .ref qu, .ref qv, .ref qw, .ref qg, .ref qh, .ref qx, .ref qc, .ref qa, .ref qb, .ref qd, .int (iI fm), .ref qp, .ref qq])), (qx, eL t.2.1 54 u22)] H := hP
                      have hD : va_D A [(o, .inr (5, [.int (iI cd), .int (iI z), .int (iI lv), .ref qT, .ref qC, .ref qF, .ref qY, .ref qZ, .ref qu, .ref qv, .ref qw, .ref qg, .ref qh, .ref qx, .ref qc, .ref qa, .ref qb, .ref qd, .int (iI fm), .ref qp, .ref qq])), (qx, eL t.2.1 54 u22)] := hD
                      refine lv_aload_n hC.1 hC.2.1 d_Mo_squareSign_365 rfl (lv_at hl 7 rfl) ?_
                      refine z_iconst hC d_Mo_squareSign_366 ?_
                      refine z_iconst hC d_Mo_squareSign_367 ?_
                      refine z_iconst hC d_Mo_squareSign_368 ?_
                      refine z_mVv (As := [.int (iI 1), .int (iI 3), .int (iI 0)]) (rest := []) (wr := []) hC (c_Mo_product l D t ts o qT qC qF qY qZ qu qv qw qg qh qx qc qa qb qd qp qq cd z lv fm u22 1 3 0 ((L * (szZ q)) * (L * (szZ q))) 5 (by decide) (by decide) (by decide) (by decide) (by decide) b3_u22 b0_u22 (by omega) (by omega) (by have := p9; omega) _) (cw_V hC k_590 k_592 kp_35 k_6 k_593 ye_Mo_product (by decide)) hP hD hK hE hS hA [0, 1] [] (by decide) rfl rfl (by decide) (by decide) 0 (ci := 5) rfl rfl rfl rfl hl.1 rfl (Nat.le_of_ble_eq_true rfl) ⟨Nat.le_of_ble_eq_true rfl, Nat.le_of_ble_eq_true rfl⟩ d_Mo_squareSign_369 (fun u23 H locs eu23 hP hD hS => ?_)
                      have b4_u23 : bk u23 (9 * 4) X4 := bk_keep b4_u22 eu23.2 (by omega)
                      have b2_u23 : bk u23 (9 * 2) (L * (szZ q)) := bk_keep b2_u22 eu23.2 (by omega)
                      have b5_u23 : bk u23 (9 * 5) (X4 * X4) := bk_keep b5_u22 eu23.2 (by omega)
                      have b3_u23 : bk u23 (9 * 3) ((L * (szZ q)) * (L * (szZ q))) := bk_keep b3_u22 eu23.2 (by omega)
                      have b0_u23 : bk u23 (9 * 0) 5 := bk_keep b0_u22 eu23.2 (by omega)
                      have b1_u23 : bk u23 (9 * 1) (((L * (szZ q)) * (L * (szZ q))) * 5) := eu23.1
                      have hP : va_P D classes [(o, .inr (5, [.int (iI cd), .int (iI z), .int (iI lv), .ref qT, .ref qC, .ref qF, .ref qY, .ref qZ, .ref qu, .ref qv, .ref qw, .ref qg, .ref qh, .ref qx, .ref qc, .ref qa, .ref qb, .ref qd, .int (iI fm), .ref qp, .ref qq])), (qx, eL t.2.1 54 u23)] H := hP
                      have hD : va_D A [(o, .inr (5, [.int (iI cd), .int (iI z), .int (iI lv), .ref qT, .ref qC, .ref qF, .ref qY, .ref qZ, .ref qu, .ref qv, .ref qw, .ref qg, .ref qh, .ref qx, .ref qc, .ref qa, .ref qb, .ref qd, .int (iI fm), .ref qp, .ref qq])), (qx, eL t.2.1 54 u23)] := hD
                      refine lv_aload_n hC.1 hC.2.1 d_Mo_squareSign_372 rfl (lv_at hl 7 rfl) ?_
                      refine z_iconst hC d_Mo_squareSign_373 ?_
                      refine z_iconst hC d_Mo_squareSign_374 ?_
                      refine z_roVi (As := [.int (iI 5), .int (iI 1)]) (rest := []) hC (c_Mo_compare l D t ts o qT qC qF qY qZ qu qv qw qg qh qx qc qa qb qd qp qq cd z lv fm u23 5 1 (X4 * X4) (((L * (szZ q)) * (L * (szZ q))) * 5) (by decide) (by decide) b5_u23 b1_u23) (cw_V hC k_595 k_597 kp_36 k_6 k_598 ye_Mo_compare (by decide)) hP hK hE hS [0, 1] rfl 0 (ci := 5) rfl rfl rfl rfl hl.1 rfl (Nat.le_of_ble_eq_true rfl) ⟨Nat.le_of_ble_eq_true rfl, Nat.le_of_ble_eq_true rfl⟩ d_Mo_squareSign_375 ?_
                      have h378s := sgn_in (X4 * X4 - (L * szZ q) * (L * szZ q) * 5)
                      refine z_if_le (tgt := 385) hC d_Mo_squareSign_378 (by decide) (by have := sgn_in ((X4 * X4) - (((L * (szZ q)) * (L * (szZ q))) * 5)); omega) (fun h378 => ?_) (fun h378 => ?_)
                      · refine z_iconst hC d_Mo_squareSign_385 ?_
                        refine lv_iload hC.1 hC.2.1 d_Mo_squareSign_386 (lv_at hl 1 rfl) ?_
                        refine z_if_le (tgt := 395) hC d_Mo_squareSign_388 (by decide) (by have := sgn_in ((L * (szZ (2 * p + q))) - (((szZ od) * (szZ od)) * 2)); omega) (fun h388 => ?_) (fun h388 => ?_)
                        · refine z_iconst hC d_Mo_squareSign_395 ?_
                          refine z_icmp_ne (tgt := 403) hC d_Mo_squareSign_396 (by decide) (by decide) (by decide) (fun h => absurd h (by decide)) (fun _ => ?_)
                          refine z_iconst hC d_Mo_squareSign_399 ?_
                          refine z_goto (tgt := 404) hC d_Mo_squareSign_400 (by decide) ?_
                          have hP9 := hP.sub (ws' := [(o, .inr (5, [.int (iI cd), .int (iI z), .int (iI lv), .ref qT, .ref qC, .ref qF, .ref qY, .ref qZ, .ref qu, .ref qv, .ref qw, .ref qg, .ref qh, .ref qx, .ref qc, .ref qa, .ref qb, .ref qd, .int (iI fm), .ref qp, .ref qq])), (qx, eL t.2.1 54 u23)]) [0, 1] rfl
                          have hD9 := hD.sub (ws' := [(o, .inr (5, [.int (iI cd), .int (iI z), .int (iI lv), .ref qT, .ref qC, .ref qF, .ref qY, .ref qZ, .ref qu, .ref qv, .ref qw, .ref qg, .ref qh, .ref qx, .ref qc, .ref qa, .ref qb, .ref qd, .int (iI fm), .ref qp, .ref qq])), (qx, eL t.2.1 54 u23)]) [0, 1] (by decide) rfl
                          exact retv (1, u23) _ _ 404 _ _ d_Mo_squareSign_404 ⟨rfl, (by show 1 = _; rw [eV]; unfold rsZ; rw [if_neg (by omega), if_neg (by omega), if_pos (by rw [szX, q4]; (first | rw [sgn_gt] at h378 | rw [sgn_le] at h378); simp; omega)])⟩ hP9 hD9 hS
                        · refine z_iconst hC d_Mo_squareSign_391 ?_
                          refine z_goto (tgt := 396) hC d_Mo_squareSign_392 (by decide) ?_
                          refine z_icmp_ne (tgt := 403) hC d_Mo_squareSign_396 (by decide) (by decide) (by decide) (fun _ => ?_) (fun h => absurd h (by decide))
                          refine z_iconst hC d_Mo_squareSign_403 ?_
                          have hP9 := hP.sub (ws' := [(o, .inr (5, [.int (iI cd), .int (iI z), .int (iI lv), .ref qT, .ref qC, .ref qF, .ref qY, .ref qZ, .ref qu, .ref qv, .ref qw, .ref qg, .ref qh, .ref qx, .ref qc, .ref qa, .ref qb, .ref qd, .int (iI fm), .ref qp, .ref qq])), (qx, eL t.2.1 54 u23)]) [0, 1] rfl
                          have hD9 := hD.sub (ws' := [(o, .inr (5, [.int (iI cd), .int (iI z), .int (iI lv), .ref qT, .ref qC, .ref qF, .ref qY, .ref qZ, .ref qu, .ref qv, .ref qw, .ref qg, .ref qh, .ref qx, .ref qc, .ref qa, .ref qb, .ref qd, .int (iI fm), .ref qp, .ref qq])), (qx, eL t.2.1 54 u23)]) [0, 1] (by decide) rfl
                          exact retv (-1, u23) _ _ 404 _ _ d_Mo_squareSign_404 ⟨rfl, (by show -1 = _; rw [eV]; unfold rsZ; rw [if_neg (by omega), if_neg (by omega), if_neg (by rw [szX, q4]; (first | rw [sgn_gt] at h378 | rw [sgn_le] at h378); simp; omega)])⟩ hP9 hD9 hS
                      · refine z_iconst hC d_Mo_squareSign_381 ?_
                        refine z_goto (tgt := 386) hC d_Mo_squareSign_382 (by decide) ?_
                        refine lv_iload hC.1 hC.2.1 d_Mo_squareSign_386 (lv_at hl 1 rfl) ?_
                        refine z_if_le (tgt := 395) hC d_Mo_squareSign_388 (by decide) (by have := sgn_in ((L * (szZ (2 * p + q))) - (((szZ od) * (szZ od)) * 2)); omega) (fun h388 => ?_) (fun h388 => ?_)
                        · refine z_iconst hC d_Mo_squareSign_395 ?_
                          refine z_icmp_ne (tgt := 403) hC d_Mo_squareSign_396 (by decide) (by decide) (by decide) (fun _ => ?_) (fun h => absurd h (by decide))
                          refine z_iconst hC d_Mo_squareSign_403 ?_
                          have hP9 := hP.sub (ws' := [(o, .inr (5, [.int (iI cd), .int (iI z), .int (iI lv), .ref qT, .ref qC, .ref qF, .ref qY, .ref qZ, .ref qu, .ref qv, .ref qw, .ref qg, .ref qh, .ref qx, .ref qc, .ref qa, .ref qb, .ref qd, .int (iI fm), .ref qp, .ref qq])), (qx, eL t.2.1 54 u23)]) [0, 1] rfl
                          have hD9 := hD.sub (ws' := [(o, .inr (5, [.int (iI cd), .int (iI z), .int (iI lv), .ref qT, .ref qC, .ref qF, .ref qY, .ref qZ, .ref qu, .ref qv, .ref qw, .ref qg, .ref qh, .ref qx, .ref qc, .ref qa, .ref qb, .ref qd, .int (iI fm), .ref qp, .ref qq])), (qx, eL t.2.1 54 u23)]) [0, 1] (by decide) rfl
                          exact retv (-1, u23) _ _ 404 _ _ d_Mo_squareSign_404 ⟨rfl, (by show -1 = _; rw [eV]; unfold rsZ; rw [if_neg (by omega), if_neg (by omega), if_neg (by rw [szX, q4]; (first | rw [sgn_gt] at h378 | rw [sgn_le] at h378); simp; omega)])⟩ hP9 hD9 hS
                        · refine z_iconst hC d_Mo_squareSign_391 ?_
                          refine z_goto (tgt := 396) hC d_Mo_squareSign_392 (by decide) ?_
                          refine z_icmp_ne (tgt := 403) hC d_Mo_squareSign_396 (by decide) (by decide) (by decide) (fun h => absurd h (by decide)) (fun _ => ?_)
                          refine z_iconst hC d_Mo_squareSign_399 ?_
                          refine z_goto (tgt := 404) hC d_Mo_squareSign_400 (by decide) ?_
                          have hP9 := hP.sub (ws' := [(o, .inr (5, [.int (iI cd), .int (iI z), .int (iI lv), .ref qT, .ref qC, .ref qF, .ref qY, .ref qZ, .ref qu, .ref qv, .ref qw, .ref qg, .ref qh, .ref qx, .ref qc, .ref qa, .ref qb, .ref qd, .int (iI fm), .ref qp, .ref qq])), (qx, eL t.2.1 54 u23)]) [0, 1] rfl
                          have hD9 := hD.sub (ws' := [(o, .inr (5, [.int (iI cd), .int (iI z), .int (iI lv), .ref qT, .ref qC, .ref qF, .ref qY, .ref qZ, .ref qu, .ref qv, .ref qw, .ref qg, .ref qh, .ref qx, .ref qc, .ref qa, .ref qb, .ref qd, .int (iI fm), .ref qp, .ref qq])), (qx, eL t.2.1 54 u23)]) [0, 1] (by decide) rfl
                          exact retv (1, u23) _ _ 404 _ _ d_Mo_squareSign_404 ⟨rfl, (by show 1 = _; rw [eV]; unfold rsZ; rw [if_neg (by omega), if_neg (by omega), if_pos (by rw [szX, q4]; (first | rw [sgn_gt] at h378 | rw [sgn_le] at h378); simp; omega)])⟩ hP9 hD9 hS
                  · refine lv_iload hC.1 hC.2.1 d_Mo_squareSign_310 (lv_at hl 0 rfl) ?_
                    refine z_if_lt (tgt := 331) hC d_Mo_squareSign_312 (by decide) (by decide) (fun h => absurd h (by decide)) (fun _ => ?_)
                    refine lv_iload hC.1 hC.2.1 d_Mo_squareSign_315 (lv_at hl 1 rfl) ?_
                    refine z_if_ne (tgt := 329) hC d_Mo_squareSign_317 (by decide) (by have := sgn_in ((L * (szZ (2 * p + q))) - (((szZ od) * (szZ od)) * 2)); omega) (fun h317 => ?_) (fun h317 => ?_)
                    · refine z_iconst hC d_Mo_squareSign_329 ?_
                      have hP9 := hP.sub (ws' := [(o, .inr (5, [.int (iI cd), .int (iI z), .int (iI lv), .ref qT, .ref qC, .ref qF, .ref qY, .ref qZ, .ref qu, .ref qv, .ref qw, .ref qg, .ref qh, .ref qx, .ref qc, .ref qa, .ref qb, .ref qd, .int (iI fm), .ref qp, .ref qq])), (qx, eL t.2.1 54 u11)]) [0, 1] rfl
                      have hD9 := hD.sub (ws' := [(o, .inr (5, [.int (iI cd), .int (iI z), .int (iI lv), .ref qT, .ref qC, .ref qF, .ref qY, .ref qZ, .ref qu, .ref qv, .ref qw, .ref qg, .ref qh, .ref qx, .ref qc, .ref qa, .ref qb, .ref qd, .int (iI fm), .ref qp, .ref qq])), (qx, eL t.2.1 54 u11)]) [0, 1] (by decide) rfl
                      exact retv (1, u11) _ _ 330 _ _ d_Mo_squareSign_330 ⟨rfl, (by show 1 = _; rw [eV]; unfold rsZ; rw [if_pos (by omega), if_neg (by omega)])⟩ hP9 hD9 hS
                    · refine lv_iload hC.1 hC.2.1 d_Mo_squareSign_320 (lv_at hl 0 rfl) ?_
                      refine z_if_ne (tgt := 329) hC d_Mo_squareSign_322 (by decide) (by decide) (fun _ => ?_) (fun h => absurd h (by decide))
                      refine z_iconst hC d_Mo_squareSign_329 ?_
                      have hP9 := hP.sub (ws' := [(o, .inr (5, [.int (iI cd), .int (iI z), .int (iI lv), .ref qT, .ref qC, .ref qF, .ref qY, .ref qZ, .ref qu, .ref qv, .ref qw, .ref qg, .ref qh, .ref qx, .ref qc, .ref qa, .ref qb, .ref qd, .int (iI fm), .ref qp, .ref qq])), (qx, eL t.2.1 54 u11)]) [0, 1] rfl
                      have hD9 := hD.sub (ws' := [(o, .inr (5, [.int (iI cd), .int (iI z), .int (iI lv), .ref qT, .ref qC, .ref qF, .ref qY, .ref qZ, .ref qu, .ref qv, .ref qw, .ref qg, .ref qh, .ref qx, .ref qc, .ref qa, .ref qb, .ref qd, .int (iI fm), .ref qp, .ref qq])), (qx, eL t.2.1 54 u11)]) [0, 1] (by decide) rfl
                      exact retv (1, u11) _ _ 330 _ _ d_Mo_squareSign_330 ⟨rfl, (by show 1 = _; rw [eV]; unfold rsZ; rw [if_pos (by omega), if_neg (by omega)])⟩ hP9 hD9 hS
              · refine z_iconst hC d_Mo_squareSign_287 ?_
                refine z_goto (tgt := 303) hC d_Mo_squareSign_288 (by decide) ?_
                refine lv_istore (lv' := [(15, .int (iI (-1))), (14, .int (iI (sgn ((L * (szZ (2 * p + q))) - (((szZ od) * (szZ od)) * 2))))), (13, .int (iI (zB no))), (12, .int (iI 1)), (11, .int (iI (sgn ((L * (szZ (2 * p + q))) - (((szZ od) * (szZ od)) * 2))))), (10, .int (iI 0)), (8, .long (lI L)), (0, .ref o), (1, .long (lI od)), (3, .int (iI len)), (4, .long (lI p)), (6, .long (lI q))]) hC.1 hC.2.1 d_Mo_squareSign_303 hl (by decide) rfl (fun ls hl => ?_)
                refine lv_iload hC.1 hC.2.1 d_Mo_squareSign_305 (lv_at hl 1 rfl) ?_
                refine z_if_lt (tgt := 331) hC d_Mo_squareSign_307 (by decide) (by have := sgn_in ((L * (szZ (2 * p + q))) - (((szZ od) * (szZ od)) * 2)); omega) (fun h307 => ?_) (fun h307 => ?_)
                · refine lv_iload hC.1 hC.2.1 d_Mo_squareSign_331 (lv_at hl 1 rfl) ?_
                  refine z_if_gt (tgt := 343) hC d_Mo_squareSign_333 (by decide) (by have := sgn_in ((L * (szZ (2 * p + q))) - (((szZ od) * (szZ od)) * 2)); omega) (fun h333 => ?_) (fun h333 => ?_)
                  · refine lv_aload_n hC.1 hC.2.1 d_Mo_squareSign_343 rfl (lv_at hl 7 rfl) ?_
                    refine z_iconst hC d_Mo_squareSign_344 ?_
                    refine z_iconst hC d_Mo_squareSign_345 ?_
                    refine z_iconst hC d_Mo_squareSign_346 ?_
                    refine z_mVv (As := [.int (iI 5), .int (iI 4), .int (iI 4)]) (rest := []) (wr := []) hC (c_Mo_product l D t ts o qT qC qF qY qZ qu qv qw qg qh qx qc qa qb qd qp qq cd z lv fm u11 5 4 4 X4 X4 (by decide) (by decide) (by decide) (by decide) (by decide) b4_u11 b4_u11 (by omega) (by omega) (by have := p9; have := mul_bd (a := X4) (b := X4) (A := 210000000000000000000000000000) (B := 210000000000000000000000000000) (by omega) (by omega); omega) _) (cw_V hC k_590 k_592 kp_35 k_6 k_593 ye_Mo_product (by decide)) hP hD hK hE hS hA [0, 1] [] (by decide) rfl rfl (by decide) (by decide) 0 (ci := 5) rfl rfl rfl rfl hl.1 rfl (Nat.le_of_ble_eq_true rfl) ⟨Nat.le_of_ble_eq_true rfl, Nat.le_of_ble_eq_true rfl⟩ d_Mo_squareSign_347 (fun u24 H locs eu24 hP hD hS => ?_)
                    have b3_u24 : bk u24 (9 * 3) ((szZ od) * (szZ od)) := bk_keep b3_u11 eu24.2 (by omega)
                    have b4_u24 : bk u24 (9 * 4) X4 := bk_keep b4_u11 eu24.2 (by omega)
                    have b0_u24 : bk u24 (9 * 0) L := bk_keep b0_u11 eu24.2 (by omega)
                    have b1_u24 : bk u24 (9 * 1) (szZ q) := bk_keep b1_u11 eu24.2 (by omega)
                    have b2_u24 : bk u24 (9 * 2) (L * (szZ q)) := bk_keep b2_u11 eu24.2 (by omega)
                    have b5_u24 : bk u24 (9 * 5) (X4 * X4) := eu24.1
                    have hP : va_P D classes [(o, .inr (5, [.int (iI cd), .int (iI z), .int (iI lv), .ref qT, .ref qC, .ref qF, .ref qY, .ref qZ, .ref qu, .ref qv, .ref qw, .ref qg, .ref qh, .ref qx, .ref qc, .ref qa, .ref qb, .ref qd, .int (iI fm), .ref qp, .ref qq])), (qx, eL t.2.1 54 u24)] H := hP
                    have hD : va_D A [(o, .inr (5, [.int (iI cd), .int (iI z), .int (iI lv), .ref qT, .ref qC, .ref qF, .ref qY, .ref qZ, .ref qu, .ref qv, .ref qw, .ref qg, .ref qh, .ref qx, .ref qc, .ref qa, .ref qb, .ref qd, .int (iI fm), .ref qp, .ref qq])), (qx, eL t.2.1 54 u24)] := hD
                    refine lv_aload_n hC.1 hC.2.1 d_Mo_squareSign_350 rfl (lv_at hl 7 rfl) ?_
                    refine z_iconst hC d_Mo_squareSign_351 ?_
                    refine z_iconst hC d_Mo_squareSign_352 ?_
                    refine z_iconst hC d_Mo_squareSign_353 ?_
                    refine z_mVv (As := [.int (iI 3), .int (iI 2), .int (iI 2)]) (rest := []) (wr := []) hC (c_Mo_product l D t ts o qT qC qF qY qZ qu qv qw qg qh qx qc qa qb qd qp qq cd z lv fm u24 3 2 2 (L * (szZ q)) (L * (szZ q)) (by decide) (by decide) (by decide) (by decide) (by decide) b2_u24 b2_u24 (by omega) (by omega) (by have := p9; have := mul_bd (a := L * (szZ q)) (b := L * (szZ q)) (A := 10000000000000000000000000000) (B := 10000000000000000000000000000) (by omega) (by omega); omega) _) (cw_V hC k_590 k_592 kp_35 k_6 k_593 ye_Mo_product (by decide)) hP hD hK hE hS hA [0, 1] [] (by decide) rfl rfl (by decide) (by decide) 0 (ci := 5) rfl rfl rfl rfl hl.1 rfl (Nat.le_of_ble_eq_true rfl) ⟨Nat.le_of_ble_eq_true rfl, Nat.le_of_ble_eq_true rfl⟩ d_Mo_squareSign_354 (fun u25 H locs eu25 hP hD hS => ?_)
                    have b4_u25 : bk u25 (9 * 4) X4 := bk_keep b4_u24 eu25.2 (by omega)
                    have b0_u25 : bk u25 (9 * 0) L := bk_keep b0_u24 eu25.2 (by omega)
                    have b1_u25 : bk u25 (9 * 1) (szZ q) := bk_keep b1_u24 eu25.2 (by omega)
                    have b2_u25 : bk u25 (9 * 2) (L * (szZ q)) := bk_keep b2_u24 eu25.2 (by omega)
                    have b5_u25 : bk u25 (9 * 5) (X4 * X4) := bk_keep b5_u24 eu25.2 (by omega)
                    have b3_u25 : bk u25 (9 * 3) ((L * (szZ q)) * (L * (szZ q))) := eu25.1
                    have hP : va_P D classes [(o, .inr (5, [.int (iI cd), .int (iI z), .int (iI lv), .ref qT, .ref qC, .ref qF, .ref qY, .ref qZ, .ref qu, .ref qv, .ref qw, .ref qg, .ref qh, .ref qx, .ref qc, .ref qa, .ref qb, .ref qd, .int (iI fm), .ref qp, .ref qq])), (qx, eL t.2.1 54 u25)] H := hP
                    have hD : va_D A [(o, .inr (5, [.int (iI cd), .int (iI z), .int (iI lv), .ref qT, .ref qC, .ref qF, .ref qY, .ref qZ, .ref qu, .ref qv, .ref qw, .ref qg, .ref qh, .ref qx, .ref qc, .ref qa, .ref qb, .ref qd, .int (iI fm), .ref qp, .ref qq])), (qx, eL t.2.1 54 u25)] := hD
                    refine lv_aload_n hC.1 hC.2.1 d_Mo_squareSign_357 rfl (lv_at hl 7 rfl) ?_
                    refine z_iconst hC d_Mo_squareSign_358 ?_
                    refine z_ldc2 hC k_594 d_Mo_squareSign_359 ?_
                    refine z_mVv (As := [.int (iI 0), .long (lI 5)]) (rest := []) (wr := []) hC (c_Mo_be l D t ts o qT qC qF qY qZ qu qv qw qg qh qx qc qa qb qd qp qq cd z lv fm u25 0 5 (by decide) (by decide) _) (cw_V hC k_585 k_587 kp_34 k_6 k_588 ye_Mo_be (by decide)) hP hD hK hE hS hA [0, 1] [] (by decide) rfl rfl (by decide) (by decide) 0 (ci := 5) rfl rfl rfl rfl hl.1 rfl (Nat.le_of_ble_eq_true rfl) ⟨Nat.le_of_ble_eq_true rfl, Nat.le_of_ble_eq_true rfl⟩ d_Mo_squareSign_362 (fun u26 H locs eu26 hP hD hS => ?_)
                    have b4_u26 : bk u26 (9 * 4) X4 := bk_keep b4_u25 eu26.2 (by omega)
                    have b1_u26 : bk u26 (9 * 1) (szZ q) := bk_keep b1_u25 eu26.2 (by omega)
                    have b2_u26 : bk u26 (9 * 2) (L * (szZ q)) := bk_keep b2_u25 eu26.2 (by omega)
                    have b5_u26 : bk u26 (9 * 5) (X4 * X4) := bk_keep b5_u25 eu26.2 (by omega)
                    have b3_u26 : bk u26 (9 * 3) ((L * (szZ q)) * (L * (szZ q))) := bk_keep b3_u25 eu26.2 (by omega)
                    have b0_u26 : bk u26 (9 * 0) 5 := eu26.1
                    have hP : va_P D classes [(o, .inr (5, [.int (iI cd), .int (iI z), .int (iI lv), .ref qT, .ref qC, .ref qF, .ref qY, .ref qZ, .ref qu, .ref qv, .ref qw, .ref qg, .ref qh, .ref qx, .ref qc, .ref qa, .ref qb, .ref qd, .int (iI fm), .ref qp, .ref qq])), (qx, eL t.2.1 54 u26)] H := hP
                    have hD : va_D A [(o, .inr (5, [.int (iI cd), .int (iI z), .int (iI lv), .ref qT, .ref qC, .ref qF, .ref qY, .ref qZ, .ref qu, .ref qv, .ref qw, .ref qg, .ref qh, .ref qx, .ref qc, .ref qa, .ref qb, .ref qd, .int (iI fm), .ref qp, .ref qq])), (qx, eL t.2.1 54 u26)] := hD
                    refine lv_aload_n hC.1 hC.2.1 d_Mo_squareSign_365 rfl (lv_at hl 7 rfl) ?_
                    refine z_iconst hC d_Mo_squareSign_366 ?_
                    refine z_iconst hC d_Mo_squareSign_367 ?_
                    refine z_iconst hC d_Mo_squareSign_368 ?_
                    refine z_mVv (As := [.int (iI 1), .int (iI 3), .int (iI 0)]) (rest := []) (wr := []) hC (c_Mo_product l D t ts o qT qC qF qY qZ qu qv qw qg qh qx qc qa qb qd qp qq cd z lv fm u26 1 3 0 ((L * (szZ q)) * (L * (szZ q))) 5 (by decide) (by decide) (by decide) (by decide) (by decide) b3_u26 b0_u26 (by omega) (by omega) (by have := p9; omega) _) (cw_V hC k_590 k_592 kp_35 k_6 k_593 ye_Mo_product (by decide)) hP hD hK hE hS hA [0, 1] [] (by decide) rfl rfl (by decide) (by decide) 0 (ci := 5) rfl rfl rfl rfl hl.1 rfl (Nat.le_of_ble_eq_true rfl) ⟨Nat.le_of_ble_eq_true rfl, Nat.le_of_ble_eq_true rfl⟩ d_Mo_squareSign_369 (fun u27 H locs eu27 hP hD hS => ?_)
                    have b4_u27 : bk u27 (9 * 4) X4 := bk_keep b4_u26 eu27.2 (by omega)
                    have b2_u27 : bk u27 (9 * 2) (L * (szZ q)) := bk_keep b2_u26 eu27.2 (by omega)
                    have b5_u27 : bk u27 (9 * 5) (X4 * X4) := bk_keep b5_u26 eu27.2 (by omega)
                    have b3_u27 : bk u27 (9 * 3) ((L * (szZ q)) * (L * (szZ q))) := bk_keep b3_u26 eu27.2 (by omega)
                    have b0_u27 : bk u27 (9 * 0) 5 := bk_keep b0_u26 eu27.2 (by omega)
                    have b1_u27 : bk u27 (9 * 1) (((L * (szZ q)) * (L * (szZ q))) * 5) := eu27.1
                    have hP : va_P D classes [(o, .inr (5, [.int (iI cd), .int (iI z), .int (iI lv), .ref qT, .ref qC, .ref qF, .ref qY, .ref qZ, .ref qu, .ref qv, .ref qw, .ref qg, .ref qh, .ref qx, .ref qc, .ref qa, .ref qb, .ref qd, .int (iI fm), .ref qp, .ref qq])), (qx, eL t.2.1 54 u27)] H := hP
                    have hD : va_D A [(o, .inr (5, [.int (iI cd), .int (iI z), .int (iI lv), .ref qT, .ref qC, .ref qF, .ref qY, .ref qZ, .ref qu, .ref qv, .ref qw, .ref qg, .ref qh, .ref qx, .ref qc, .ref qa, .ref qb, .ref qd, .int (iI fm), .ref qp, .ref qq])), (qx, eL t.2.1 54 u27)] := hD
                    refine lv_aload_n hC.1 hC.2.1 d_Mo_squareSign_372 rfl (lv_at hl 7 rfl) ?_
                    refine z_iconst hC d_Mo_squareSign_373 ?_
                    refine z_iconst hC d_Mo_squareSign_374 ?_
                    refine z_roVi (As := [.int (iI 5), .int (iI 1)]) (rest := []) hC (c_Mo_compare l D t ts o qT qC qF qY qZ qu qv qw qg qh qx qc qa qb qd qp qq cd z lv fm u27 5 1 (X4 * X4) (((L * (szZ q)) * (L * (szZ q))) * 5) (by decide) (by decide) b5_u27 b1_u27) (cw_V hC k_595 k_597 kp_36 k_6 k_598 ye_Mo_compare (by decide)) hP hK hE hS [0, 1] rfl 0 (ci := 5) rfl rfl rfl rfl hl.1 rfl (Nat.le_of_ble_eq_true rfl) ⟨Nat.le_of_ble_eq_true rfl, Nat.le_of_ble_eq_true rfl⟩ d_Mo_squareSign_375 ?_
                    have h378s := sgn_in (X4 * X4 - (L * szZ q) * (L * szZ q) * 5)
                    refine z_if_le (tgt := 385) hC d_Mo_squareSign_378 (by decide) (by have := sgn_in ((X4 * X4) - (((L * (szZ q)) * (L * (szZ q))) * 5)); omega) (fun h378 => ?_) (fun h378 => ?_)
                    · refine z_iconst hC d_Mo_squareSign_385 ?_
                      refine lv_iload hC.1 hC.2.1 d_Mo_squareSign_386 (lv_at hl 1 rfl) ?_
                      refine z_if_le (tgt := 395) hC d_Mo_squareSign_388 (by decide) (by have := sgn_in ((L * (szZ (2 * p + q))) - (((szZ od) * (szZ od)) * 2)); omega) (fun h388 => ?_) (fun h388 => ?_)
                      · refine z_iconst hC d_Mo_squareSign_395 ?_
                        refine z_icmp_ne (tgt := 403) hC d_Mo_squareSign_396 (by decide) (by decide) (by decide) (fun h => absurd h (by decide)) (fun _ => ?_)
                        refine z_iconst hC d_Mo_squareSign_399 ?_
                        refine z_goto (tgt := 404) hC d_Mo_squareSign_400 (by decide) ?_
                        have hP9 := hP.sub (ws' := [(o, .inr (5, [.int (iI cd), .int (iI z), .int (iI lv), .ref qT, .ref qC, .ref qF, .ref qY, .ref qZ, .ref qu, .ref qv, .ref qw, .ref qg, .ref qh, .ref qx, .ref qc, .ref qa, .ref qb, .ref qd, .int (iI fm), .ref qp, .ref qq])), (qx, eL t.2.1 54 u27)]) [0, 1] rfl
                        have hD9 := hD.sub (ws' := [(o, .inr (5, [.int (iI cd), .int (iI z), .int (iI lv), .ref qT, .ref qC, .ref qF, .ref qY, .ref qZ, .ref qu, .ref qv, .ref qw, .ref qg, .ref qh, .ref qx, .ref qc, .ref qa, .ref qb, .ref qd, .int (iI fm), .ref qp, .ref qq])), (qx, eL t.2.1 54 u27)]) [0, 1] (by decide) rfl
                        exact retv (1, u27) _ _ 404 _ _ d_Mo_squareSign_404 ⟨rfl, (by show 1 = _; rw [eV]; unfold rsZ; rw [if_neg (by omega), if_neg (by omega), if_pos (by rw [szX, q4]; (first | rw [sgn_gt] at h378 | rw [sgn_le] at h378); simp; omega)])⟩ hP9 hD9 hS
                      · refine z_iconst hC d_Mo_squareSign_391 ?_
                        refine z_goto (tgt := 396) hC d_Mo_squareSign_392 (by decide) ?_
                        refine z_icmp_ne (tgt := 403) hC d_Mo_squareSign_396 (by decide) (by decide) (by decide) (fun _ => ?_) (fun h => absurd h (by decide))
                        refine z_iconst hC d_Mo_squareSign_403 ?_
                        have hP9 := hP.sub (ws' := [(o, .inr (5, [.int (iI cd), .int (iI z), .int (iI lv), .ref qT, .ref qC, .ref qF, .ref qY, .ref qZ, .ref qu, .ref qv, .ref qw, .ref qg, .ref qh, .ref qx, .ref qc, .ref qa, .ref qb, .ref qd, .int (iI fm), .ref qp, .ref qq])), (qx, eL t.2.1 54 u27)]) [0, 1] rfl
                        have hD9 := hD.sub (ws' := [(o, .inr (5, [.int (iI cd), .int (iI z), .int (iI lv), .ref qT, .ref qC, .ref qF, .ref qY, .ref qZ, .ref qu, .ref qv, .ref qw, .ref qg, .ref qh, .ref qx, .ref qc, .ref qa, .ref qb, .ref qd, .int (iI fm), .ref qp, .ref qq])), (qx, eL t.2.1 54 u27)]) [0, 1] (by decide) rfl
                        exact retv (-1, u27) _ _ 404 _ _ d_Mo_squareSign_404 ⟨rfl, (by show -1 = _; rw [eV]; unfold rsZ; rw [if_neg (by omega), if_neg (by omega), if_neg (by rw [szX, q4]; (first | rw [sgn_gt] at h378 | rw [sgn_le] at h378); simp; omega)])⟩ hP9 hD9 hS
                    · refine z_iconst hC d_Mo_squareSign_381 ?_
                      refine z_goto (tgt := 386) hC d_Mo_squareSign_382 (by decide) ?_
                      refine lv_iload hC.1 hC.2.1 d_Mo_squareSign_386 (lv_at hl 1 rfl) ?_
                      refine z_if_le (tgt := 395) hC d_Mo_squareSign_388 (by decide) (by have := sgn_in ((L * (szZ (2 * p + q))) - (((szZ od) * (szZ od)) * 2)); omega) (fun h388 => ?_) (fun h388 => ?_)
                      · refine z_iconst hC d_Mo_squareSign_395 ?_
                        refine z_icmp_ne (tgt := 403) hC d_Mo_squareSign_396 (by decide) (by decide) (by decide) (fun _ => ?_) (fun h => absurd h (by decide))
                        refine z_iconst hC d_Mo_squareSign_403 ?_
                        have hP9 := hP.sub (ws' := [(o, .inr (5, [.int (iI cd), .int (iI z), .int (iI lv), .ref qT, .ref qC, .ref qF, .ref qY, .ref qZ, .ref qu, .ref qv, .ref qw, .ref qg, .ref qh, .ref qx, .ref qc, .ref qa, .ref qb, .ref qd, .int (iI fm), .ref qp, .ref qq])), (qx, eL t.2.1 54 u27)]) [0, 1] rfl
                        have hD9 := hD.sub (ws' := [(o, .inr (5, [.int (iI cd), .int (iI z), .int (iI lv), .ref qT, .ref qC, .ref qF, .ref qY, .ref qZ, .ref qu, .ref qv, .ref qw, .ref qg, .ref qh, .ref qx, .ref qc, .ref qa, .ref qb, .ref qd, .int (iI fm), .ref qp, .ref qq])), (qx, eL t.2.1 54 u27)]) [0, 1] (by decide) rfl
                        exact retv (-1, u27) _ _ 404 _ _ d_Mo_squareSign_404 ⟨rfl, (by show -1 = _; rw [eV]; unfold rsZ; rw [if_neg (by omega), if_neg (by omega), if_neg (by rw [szX, q4]; (first | rw [sgn_gt] at h378 | rw [sgn_le] at h378); simp; omega)])⟩ hP9 hD9 hS
                      · refine z_iconst hC d_Mo_squareSign_391 ?_
                        refine z_goto (tgt := 396) hC d_Mo_squareSign_392 (by decide) ?_
                        refine z_icmp_ne (tgt := 403) hC d_Mo_squareSign_396 (by decide) (by decide) (by decide) (fun h => absurd h (by decide)) (fun _ => ?_)
                        refine z_iconst hC d_Mo_squareSign_399 ?_
                        refine z_goto (tgt := 404) hC d_Mo_squareSign_400 (by decide) ?_
                        have hP9 := hP.sub (ws' := [(o, .inr (5, [.int (iI cd), .int (iI z), .int (iI lv), .ref qT, .ref qC, .ref qF, .ref qY, .ref qZ, .ref qu, .ref qv, .ref qw, .ref qg, .ref qh, .ref qx, .ref qc, .ref qa, .ref qb, .ref qd, .int (iI fm), .ref qp, .ref qq])), (qx, eL t.2.1 54 u27)]) [0, 1] rfl
                        have hD9 := hD.sub (ws' := [(o, .inr (5, [.int (iI cd), .int (iI z), .int (iI lv), .ref qT, .ref qC, .ref qF, .ref qY, .ref qZ, .ref qu, .ref qv, .ref qw, .ref qg, .ref qh, .ref qx, .ref qc, .ref qa, .ref qb, .ref qd, .int (iI fm), .ref qp, .ref qq])), (qx, eL t.2.1 54 u27)]) [0, 1] (by decide) rfl
                        exact retv (1, u27) _ _ 404 _ _ d_Mo_squareSign_404 ⟨rfl, (by show 1 = _; rw [eV]; unfold rsZ; rw [if_neg (by omega), if_neg (by omega), if_pos (by rw [szX, q4]; (first | rw [sgn_gt] at h378 | rw [sgn_le] at h378); simp; omega)])⟩ hP9 hD9 hS
                  · refine lv_iload hC.1 hC.2.1 d_Mo_squareSign_336 (lv_at hl 0 rfl) ?_
                    refine z_if_gt (tgt := 343) hC d_Mo_squareSign_338 (by decide) (by decide) (fun h => absurd h (by decide)) (fun _ => ?_)
                    refine z_iconst hC d_Mo_squareSign_341 ?_
                    have hP9 := hP.sub (ws' := [(o, .inr (5, [.int (iI cd), .int (iI z), .int (iI lv), .ref qT, .ref qC, .ref qF, .ref qY, .ref qZ, .ref qu, .ref qv, .ref qw, .ref qg, .ref qh, .ref qx, .ref qc, .ref qa, .ref qb, .ref qd, .int (iI fm), .ref qp, .ref qq])), (qx, eL t.2.1 54 u11)]) [0, 1] rfl
                    have hD9 := hD.sub (ws' := [(o, .inr (5, [.int (iI cd), .int (iI z), .int (iI lv), .ref qT, .ref qC, .ref qF, .ref qY, .ref qZ, .ref qu, .ref qv, .ref qw, .ref qg, .ref qh, .ref qx, .ref qc, .ref qa, .ref qb, .ref qd, .int (iI fm), .ref qp, .ref qq])), (qx, eL t.2.1 54 u11)]) [0, 1] (by decide) rfl
                    exact retv (-1, u11) _ _ 342 _ _ d_Mo_squareSign_342 ⟨rfl, (by show -1 = _; rw [eV]; unfold rsZ; rw [if_neg (by omega), if_pos (by omega)])⟩ hP9 hD9 hS
                · refine lv_iload hC.1 hC.2.1 d_Mo_squareSign_310 (lv_at hl 0 rfl) ?_
                  refine z_if_lt (tgt := 331) hC d_Mo_squareSign_312 (by decide) (by decide) (fun _ => ?_) (fun h => absurd h (by decide))
                  refine lv_iload hC.1 hC.2.1 d_Mo_squareSign_331 (lv_at hl 1 rfl) ?_
                  refine z_if_gt (tgt := 343) hC d_Mo_squareSign_333 (by decide) (by have := sgn_in ((L * (szZ (2 * p + q))) - (((szZ od) * (szZ od)) * 2)); omega) (fun h333 => ?_) (fun h333 => ?_)
                  · refine lv_aload_n hC.1 hC.2.1 d_Mo_squareSign_343 rfl (lv_at hl 7 rfl) ?_
                    refine z_iconst hC d_Mo_squareSign_344 ?_
                    refine z_iconst hC d_Mo_squareSign_345 ?_
                    refine z_iconst hC d_Mo_squareSign_346 ?_
                    refine z_mVv (As := [.int (iI 5), .int (iI 4), .int (iI 4)]) (rest := []) (wr := []) hC (c_Mo_product l D t ts o qT qC qF qY qZ qu qv qw qg qh qx qc qa qb qd qp qq cd z lv fm u11 5 4 4 X4 X4 (by decide) (by decide) (by decide) (by decide) (by decide) b4_u11 b4_u11 (by omega) (by omega) (by have := p9; have := mul_bd (a := X4) (b := X4) (A := 210000000000000000000000000000) (B := 210000000000000000000000000000) (by omega) (by omega); omega) _) (cw_V hC k_590 k_592 kp_35 k_6 k_593 ye_Mo_product (by decide)) hP hD hK hE hS hA [0, 1] [] (by decide) rfl rfl (by decide) (by decide) 0 (ci := 5) rfl rfl rfl rfl hl.1 rfl (Nat.le_of_ble_eq_true rfl) ⟨Nat.le_of_ble_eq_true rfl, Nat.le_of_ble_eq_true rfl⟩ d_Mo_squareSign_347 (fun u28 H locs eu28 hP hD hS => ?_)
                    have b3_u28 : bk u28 (9 * 3) ((szZ od) * (szZ od)) := bk_keep b3_u11 eu28.2 (by omega)
                    have b4_u28 : bk u28 (9 * 4) X4 := bk_keep b4_u11 eu28.2 (by omega)
                    have b0_u28 : bk u28 (9 * 0) L := bk_keep b0_u11 eu28.2 (by omega)
                    have b1_u28 : bk u28 (9 * 1) (szZ q) := bk_keep b1_u11 eu28.2 (by omega)
                    have b2_u28 : bk u28 (9 * 2) (L * (szZ q)) := bk_keep b2_u11 eu28.2 (by omega)
                    have b5_u28 : bk u28 (9 * 5) (X4 * X4) := eu28.1
                    have hP : va_P D classes [(o, .inr (5, [.int (iI cd), .int (iI z), .int (iI lv), .ref qT, .ref qC, .ref qF, .ref qY, .ref qZ, .ref qu, .ref qv, .ref qw, .ref qg, .ref qh, .ref qx, .ref qc, .ref qa, .ref qb, .ref qd, .int (iI fm), .ref qp, .ref qq])), (qx, eL t.2.1 54 u28)] H := hP
                    have hD : va_D A [(o, .inr (5, [.int (iI cd), .int (iI z), .int (iI lv), .ref qT, .ref qC, .ref qF, .ref qY, .ref qZ, .ref qu, .ref qv, .ref qw, .ref qg, .ref qh, .ref qx, .ref qc, .ref qa, .ref qb, .ref qd, .int (iI fm), .ref qp, .ref qq])), (qx, eL t.2.1 54 u28)] := hD
                    refine lv_aload_n hC.1 hC.2.1 d_Mo_squareSign_350 rfl (lv_at hl 7 rfl) ?_
                    refine z_iconst hC d_Mo_squareSign_351 ?_
                    refine z_iconst hC d_Mo_squareSign_352 ?_
                    refine z_iconst hC d_Mo_squareSign_353 ?_
                    refine z_mVv (As := [.int (iI 3), .int (iI 2), .int (iI 2)]) (rest := []) (wr := []) hC (c_Mo_product l D t ts o qT qC qF qY qZ qu qv qw qg qh qx qc qa qb qd qp qq cd z lv fm u28 3 2 2 (L * (szZ q)) (L * (szZ q)) (by decide) (by decide) (by decide) (by decide) (by decide) b2_u28 b2_u28 (by omega) (by omega) (by have := p9; have := mul_bd (a := L * (szZ q)) (b := L * (szZ q)) (A := 10000000000000000000000000000) (B := 10000000000000000000000000000) (by omega) (by omega); omega) _) (cw_V hC k_590 k_592 kp_35 k_6 k_593 ye_Mo_product (by decide)) hP hD hK hE hS hA [0, 1] [] (by decide) rfl rfl (by decide) (by decide) 0 (ci := 5) rfl rfl rfl rfl hl.1 rfl (Nat.le_of_ble_eq_true rfl) ⟨Nat.le_of_ble_eq_true rfl, Nat.le_of_ble_eq_true rfl⟩ d_Mo_squareSign_354 (fun u29 H locs eu29 hP hD hS => ?_)
                    have b4_u29 : bk u29 (9 * 4) X4 := bk_keep b4_u28 eu29.2 (by omega)
                    have b0_u29 : bk u29 (9 * 0) L := bk_keep b0_u28 eu29.2 (by omega)
                    have b1_u29 : bk u29 (9 * 1) (szZ q) := bk_keep b1_u28 eu29.2 (by omega)
                    have b2_u29 : bk u29 (9 * 2) (L * (szZ q)) := bk_keep b2_u28 eu29.2 (by omega)
                    have b5_u29 : bk u29 (9 * 5) (X4 * X4) := bk_keep b5_u28 eu29.2 (by omega)
                    have b3_u29 : bk u29 (9 * 3) ((L * (szZ q)) * (L * (szZ q))) := eu29.1
                    have hP : va_P D classes [(o, .inr (5, [.int (iI cd), .int (iI z), .int (iI lv), .ref qT, .ref qC, .ref qF, .ref qY, .ref qZ, .ref qu, .ref qv, .ref qw, .ref qg, .ref qh, .ref qx, .ref qc, .ref qa, .ref qb, .ref qd, .int (iI fm), .ref qp, .ref qq])), (qx, eL t.2.1 54 u29)] H := hP
                    have hD : va_D A [(o, .inr (5, [.int (iI cd), .int (iI z), .int (iI lv), .ref qT, .ref qC, .ref qF, .ref qY, .ref qZ, .ref qu, .ref qv, .ref qw, .ref qg, .ref qh, .ref qx, .ref qc, .ref qa, .ref qb, .ref qd, .int (iI fm), .ref qp, .ref qq])), (qx, eL t.2.1 54 u29)] := hD
                    refine lv_aload_n hC.1 hC.2.1 d_Mo_squareSign_357 rfl (lv_at hl 7 rfl) ?_
                    refine z_iconst hC d_Mo_squareSign_358 ?_
                    refine z_ldc2 hC k_594 d_Mo_squareSign_359 ?_
                    refine z_mVv (As := [.int (iI 0), .long (lI 5)]) (rest := []) (wr := []) hC (c_Mo_be l D t ts o qT qC qF qY qZ qu qv qw qg qh qx qc qa qb qd qp qq cd z lv fm u29 0 5 (by decide) (by decide) _) (cw_V hC k_585 k_587 kp_34 k_6 k_588 ye_Mo_be (by decide)) hP hD hK hE hS hA [0, 1] [] (by decide) rfl rfl (by decide) (by decide) 0 (ci := 5) rfl rfl rfl rfl hl.1 rfl (Nat.le_of_ble_eq_true rfl) ⟨Nat.le_of_ble_eq_true rfl, Nat.le_of_ble_eq_true rfl⟩ d_Mo_squareSign_362 (fun u30 H locs eu30 hP hD hS => ?_)
                    have b4_u30 : bk u30 (9 * 4) X4 := bk_keep b4_u29 eu30.2 (by omega)
                    have b1_u30 : bk u30 (9 * 1) (szZ q) := bk_keep b1_u29 eu30.2 (by omega)
                    have b2_u30 : bk u30 (9 * 2) (L * (szZ q)) := bk_keep b2_u29 eu30.2 (by omega)
                    have b5_u30 : bk u30 (9 * 5) (X4 * X4) := bk_keep b5_u29 eu30.2 (by omega)
                    have b3_u30 : bk u30 (9 * 3) ((L * (szZ q)) * (L * (szZ q))) := bk_keep b3_u29 eu30.2 (by omega)
                    have b0_u30 : bk u30 (9 * 0) 5 := eu30.1
                    have hP : va_P D classes [(o, .inr (5, [.int (iI cd), .int (iI z), .int (iI lv), .ref qT, .ref qC, .ref qF, .ref qY, .ref qZ, .ref qu, .ref qv, .ref qw, .ref qg, .ref qh, .ref qx, .ref qc, .ref qa, .ref qb, .ref qd, .int (iI fm), .ref qp, .ref qq])), (qx, eL t.2.1 54 u30)] H := hP
                    have hD : va_D A [(o, .inr (5, [.int (iI cd), .int (iI z), .int (iI lv), .ref qT, .ref qC, .ref qF, .ref qY, .ref qZ, .ref qu, .ref qv, .ref qw, .ref qg, .ref qh, .ref qx, .ref qc, .ref qa, .ref qb, .ref qd, .int (iI fm), .ref qp, .ref qq])), (qx, eL t.2.1 54 u30)] := hD
                    refine lv_aload_n hC.1 hC.2.1 d_Mo_squareSign_365 rfl (lv_at hl 7 rfl) ?_
                    refine z_iconst hC d_Mo_squareSign_366 ?_
                    refine z_iconst hC d_Mo_squareSign_367 ?_
                    refine z_iconst hC d_Mo_squareSign_368 ?_
                    refine z_mVv (As := [.int (iI 1), .int (iI 3), .int (iI 0)]) (rest := []) (wr := []) hC (c_Mo_product l D t ts o qT qC qF qY qZ qu qv qw qg qh qx qc qa qb qd qp qq cd z lv fm u30 1 3 0 ((L * (szZ q)) * (L * (szZ q))) 5 (by decide) (by decide) (by decide) (by decide) (by decide) b3_u30 b0_u30 (by omega) (by omega) (by have := p9; omega) _) (cw_V hC k_590 k_592 kp_35 k_6 k_593 ye_Mo_product (by decide)) hP hD hK hE hS hA [0, 1] [] (by decide) rfl rfl (by decide) (by decide) 0 (ci := 5) rfl rfl rfl rfl hl.1 rfl (Nat.le_of_ble_eq_true rfl) ⟨Nat.le_of_ble_eq_true rfl, Nat.le_of_ble_eq_true rfl⟩ d_Mo_squareSign_369 (fun u31 H locs eu31 hP hD hS => ?_)
                    have b4_u31 : bk u31 (9 * 4) X4 := bk_keep b4_u30 eu31.2 (by omega)
                    have b2_u31 : bk u31 (9 * 2) (L * (szZ q)) := bk_keep b2_u30 eu31.2 (by omega)
                    have b5_u31 : bk u31 (9 * 5) (X4 * X4) := bk_keep b5_u30 eu31.2 (by omega)
                    have b3_u31 : bk u31 (9 * 3) ((L * (szZ q)) * (L * (szZ q))) := bk_keep b3_u30 eu31.2 (by omega)
                    have b0_u31 : bk u31 (9 * 0) 5 := bk_keep b0_u30 eu31.2 (by omega)
                    have b1_u31 : bk u31 (9 * 1) (((L * (szZ q)) * (L * (szZ q))) * 5) := eu31.1
                    have hP : va_P D classes [(o, .inr (5, [.int (iI cd), .int (iI z), .int (iI lv), .ref qT, .ref qC, .ref qF, .ref qY, .ref qZ, .ref qu, .ref qv, .ref qw, .ref qg, .ref qh, .ref qx, .ref qc, .ref qa, .ref qb, .ref qd, .int (iI fm), .ref qp, .ref qq])), (qx, eL t.2.1 54 u31)] H := hP
                    have hD : va_D A [(o, .inr (5, [.int (iI cd), .int (iI z), .int (iI lv), .ref qT, .ref qC, .ref qF, .ref qY, .ref qZ, .ref qu, .ref qv, .ref qw, .ref qg, .ref qh, .ref qx, .ref qc, .ref qa, .ref qb, .ref qd, .int (iI fm), .ref qp, .ref qq])), (qx, eL t.2.1 54 u31)] := hD
                    refine lv_aload_n hC.1 hC.2.1 d_Mo_squareSign_372 rfl (lv_at hl 7 rfl) ?_
                    refine z_iconst hC d_Mo_squareSign_373 ?_
                    refine z_iconst hC d_Mo_squareSign_374 ?_
                    refine z_roVi (As := [.int (iI 5), .int (iI 1)]) (rest := []) hC (c_Mo_compare l D t ts o qT qC qF qY qZ qu qv qw qg qh qx qc qa qb qd qp qq cd z lv fm u31 5 1 (X4 * X4) (((L * (szZ q)) * (L * (szZ q))) * 5) (by decide) (by decide) b5_u31 b1_u31) (cw_V hC k_595 k_597 kp_36 k_6 k_598 ye_Mo_compare (by decide)) hP hK hE hS [0, 1] rfl 0 (ci := 5) rfl rfl rfl rfl hl.1 rfl (Nat.le_of_ble_eq_true rfl) ⟨Nat.le_of_ble_eq_true rfl, Nat.le_of_ble_eq_true rfl⟩ d_Mo_squareSign_375 ?_
                    have h378s := sgn_in (X4 * X4 - (L * szZ q) * (L * szZ q) * 5)
                    refine z_if_le (tgt := 385) hC d_Mo_squareSign_378 (by decide) (by have := sgn_in ((X4 * X4) - (((L * (szZ q)) * (L * (szZ q))) * 5)); omega) (fun h378 => ?_) (fun h378 => ?_)
                    · refine z_iconst hC d_Mo_squareSign_385 ?_
                      refine lv_iload hC.1 hC.2.1 d_Mo_squareSign_386 (lv_at hl 1 rfl) ?_
                      refine z_if_le (tgt := 395) hC d_Mo_squareSign_388 (by decide) (by have := sgn_in ((L * (szZ (2 * p + q))) - (((szZ od) * (szZ od)) * 2)); omega) (fun h388 => ?_) (fun h388 => ?_)
                      · refine z_iconst hC d_Mo_squareSign_395 ?_
                        refine z_icmp_ne (tgt := 403) hC d_Mo_squareSign_396 (by decide) (by decide) (by decide) (fun h => absurd h (by decide)) (fun _ => ?_)
                        refine z_iconst hC d_Mo_squareSign_399 ?_
                        refine z_goto (tgt := 404) hC d_Mo_squareSign_400 (by decide) ?_
                        have hP9 := hP.sub (ws' := [(o, .inr (5, [.int (iI cd), .int (iI z), .int (iI lv), .ref qT, .ref qC, .ref qF, .ref qY, .ref qZ, .ref qu, .ref qv, .ref qw, .ref qg, .ref qh, .ref qx, .ref qc, .ref qa, .ref qb, .ref qd, .int (iI fm), .ref qp, .ref qq])), (qx, eL t.2.1 54 u31)]) [0, 1] rfl
                        have hD9 := hD.sub (ws' := [(o, .inr (5, [.int (iI cd), .int (iI z), .int (iI lv), .ref qT, .ref qC, .ref qF, .ref qY, .ref qZ, .ref qu, .ref qv, .ref qw, .ref qg, .ref qh, .ref qx, .ref qc, .ref qa, .ref qb, .ref qd, .int (iI fm), .ref qp, .ref qq])), (qx, eL t.2.1 54 u31)]) [0, 1] (by decide) rfl
                        exact retv (1, u31) _ _ 404 _ _ d_Mo_squareSign_404 ⟨rfl, (by show 1 = _; rw [eV]; unfold rsZ; rw [if_neg (by omega), if_neg (by omega), if_pos (by rw [szX, q4]; (first | rw [sgn_gt] at h378 | rw [sgn_le] at h378); simp; omega)])⟩ hP9 hD9 hS
                      · refine z_iconst hC d_Mo_squareSign_391 ?_
                        refine z_goto (tgt := 396) hC d_Mo_squareSign_392 (by decide) ?_
                        refine z_icmp_ne (tgt := 403) hC d_Mo_squareSign_396 (by decide) (by decide) (by decide) (fun _ => ?_) (fun h => absurd h (by decide))
                        refine z_iconst hC d_Mo_squareSign_403 ?_
                        have hP9 := hP.sub (ws' := [(o, .inr (5, [.int (iI cd), .int (iI z), .int (iI lv), .ref qT, .ref qC, .ref qF, .ref qY, .ref qZ, .ref qu, .ref qv, .ref qw, .ref qg, .ref qh, .ref qx, .ref qc, .ref qa, .ref qb, .ref qd, .int (iI fm), .ref qp, .ref qq])), (qx, eL t.2.1 54 u31)]) [0, 1] rfl
                        have hD9 := hD.sub (ws' := [(o, .inr (5, [.int (iI cd), .int (iI z), .int (iI lv), .ref qT, .ref qC, .ref qF, .ref qY, .ref qZ, .ref qu, .ref qv, .ref qw, .ref qg, .ref qh, .ref qx, .ref qc, .ref qa, .ref qb, .ref qd, .int (iI fm), .ref qp, .ref qq])), (qx, eL t.2.1 54 u31)]) [0, 1] (by decide) rfl
                        exact retv (-1, u31) _ _ 404 _ _ d_Mo_squareSign_404 ⟨rfl, (by show -1 = _; rw [eV]; unfold rsZ; rw [if_neg (by omega), if_neg (by omega), if_neg (by rw [szX, q4]; (first | rw [sgn_gt] at h378 | rw [sgn_le] at h378); simp; omega)])⟩ hP9 hD9 hS
                    · refine z_iconst hC d_Mo_squareSign_381 ?_
                      refine z_goto (tgt := 386) hC d_Mo_squareSign_382 (by decide) ?_
                      refine lv_iload hC.1 hC.2.1 d_Mo_squareSign_386 (lv_at hl 1 rfl) ?_
                      refine z_if_le (tgt := 395) hC d_Mo_squareSign_388 (by decide) (by have := sgn_in ((L * (szZ (2 * p + q))) - (((szZ od) * (szZ od)) * 2)); omega) (fun h388 => ?_) (fun h388 => ?_)
                      · refine z_iconst hC d_Mo_squareSign_395 ?_
                        refine z_icmp_ne (tgt := 403) hC d_Mo_squareSign_396 (by decide) (by decide) (by decide) (fun _ => ?_) (fun h => absurd h (by decide))
                        refine z_iconst hC d_Mo_squareSign_403 ?_
                        have hP9 := hP.sub (ws' := [(o, .inr (5, [.int (iI cd), .int (iI z), .int (iI lv), .ref qT, .ref qC, .ref qF, .ref qY, .ref qZ, .ref qu, .ref qv, .ref qw, .ref qg, .ref qh, .ref qx, .ref qc, .ref qa, .ref qb, .ref qd, .int (iI fm), .ref qp, .ref qq])), (qx, eL t.2.1 54 u31)]) [0, 1] rfl
                        have hD9 := hD.sub (ws' := [(o, .inr (5, [.int (iI cd), .int (iI z), .int (iI lv), .ref qT, .ref qC, .ref qF, .ref qY, .ref qZ, .ref qu, .ref qv, .ref qw, .ref qg, .ref qh, .ref qx, .ref qc, .ref qa, .ref qb, .ref qd, .int (iI fm), .ref qp, .ref qq])), (qx, eL t.2.1 54 u31)]) [0, 1] (by decide) rfl
                        exact retv (-1, u31) _ _ 404 _ _ d_Mo_squareSign_404 ⟨rfl, (by show -1 = _; rw [eV]; unfold rsZ; rw [if_neg (by omega), if_neg (by omega), if_neg (by rw [szX, q4]; (first | rw [sgn_gt] at h378 | rw [sgn_le] at h378); simp; omega)])⟩ hP9 hD9 hS
                      · refine z_iconst hC d_Mo_squareSign_391 ?_
                        refine z_goto (tgt := 396) hC d_Mo_squareSign_392 (by decide) ?_
                        refine z_icmp_ne (tgt := 403) hC d_Mo_squareSign_396 (by decide) (by decide) (by decide) (fun h => absurd h (by decide)) (fun _ => ?_)
                        refine z_iconst hC d_Mo_squareSign_399 ?_
                        refine z_goto (tgt := 404) hC d_Mo_squareSign_400 (by decide) ?_
                        have hP9 := hP.sub (ws' := [(o, .inr (5, [.int (iI cd), .int (iI z), .int (iI lv), .ref qT, .ref qC, .ref qF, .ref qY, .ref qZ, .ref qu, .ref qv, .ref qw, .ref qg, .ref qh, .ref qx, .ref qc, .ref qa, .ref qb, .ref qd, .int (iI fm), .ref qp, .ref qq])), (qx, eL t.2.1 54 u31)]) [0, 1] rfl
                        have hD9 := hD.sub (ws' := [(o, .inr (5, [.int (iI cd), .int (iI z), .int (iI lv), .ref qT, .ref qC, .ref qF, .ref qY, .ref qZ, .ref qu, .ref qv, .ref qw, .ref qg, .ref qh, .ref qx, .ref qc, .ref qa, .ref qb, .ref qd, .int (iI fm), .ref qp, .ref qq])), (qx, eL t.2.1 54 u31)]) [0, 1] (by decide) rfl
                        exact retv (1, u31) _ _ 404 _ _ d_Mo_squareSign_404 ⟨rfl, (by show 1 = _; rw [eV]; unfold rsZ; rw [if_neg (by omega), if_neg (by omega), if_pos (by rw [szX, q4]; (first | rw [sgn_gt] at h378 | rw [sgn_le] at h378); simp; omega)])⟩ hP9 hD9 hS
                  · refine lv_iload hC.1 hC.2.1 d_Mo_squareSign_336 (lv_at hl 0 rfl) ?_
                    refine z_if_gt (tgt := 343) hC d_Mo_squareSign_338 (by decide) (by decide) (fun h => absurd h (by decide)) (fun _ => ?_)
                    refine z_iconst hC d_Mo_squareSign_341 ?_
                    have hP9 := hP.sub (ws' := [(o, .inr (5, [.int (iI cd), .int (iI z), .int (iI lv), .ref qT, .ref qC, .ref qF, .ref qY, .ref qZ, .ref qu, .ref qv, .ref qw, .ref qg, .ref qh, .ref qx, .ref qc, .ref qa, .ref qb, .ref qd, .int (iI fm), .ref qp, .ref qq])), (qx, eL t.2.1 54 u11)]) [0, 1] rfl
                    have hD9 := hD.sub (ws' := [(o, .inr (5, [.int (iI cd), .int (iI z), .int (iI lv), .ref qT, .ref qC, .ref qF, .ref qY, .ref qZ, .ref qu, .ref qv, .ref qw, .ref qg, .ref qh, .ref qx, .ref qc, .ref qa, .ref qb, .ref qd, .int (iI fm), .ref qp, .ref qq])), (qx, eL t.2.1 54 u11)]) [0, 1] (by decide) rfl
                    exact retv (-1, u11) _ _ 342 _ _ d_Mo_squareSign_342 ⟨rfl, (by show -1 = _; rw [eV]; unfold rsZ; rw [if_neg (by omega), if_pos (by omega)])⟩ hP9 hD9 hS
            · have hn9 : X4 = 0 := by rw [h269] at hno; simpa using hno
              have c11 : (0 < sgn ((L * (szZ (2 * p + q))) - (((szZ od) * (szZ od)) * 2)) ↔ 0 < XX) ∧ (sgn ((L * (szZ (2 * p + q))) - (((szZ od) * (szZ od)) * 2)) ≤ 0 ↔ XX ≤ 0) := by rw [sgn_gt, sgn_le]; omega
              have c11i : -1 ≤ sgn ((L * (szZ (2 * p + q))) - (((szZ od) * (szZ od)) * 2)) ∧ sgn ((L * (szZ (2 * p + q))) - (((szZ od) * (szZ od)) * 2)) ≤ 1 := sgn_in _
              refine z_iconst hC d_Mo_squareSign_272 ?_
              refine z_goto (tgt := 278) hC d_Mo_squareSign_273 (by decide) ?_
              refine lv_istore (lv' := [(14, .int (iI 0)), (13, .int (iI (zB no))), (12, .int (iI 1)), (11, .int (iI (sgn ((L * (szZ (2 * p + q))) - (((szZ od) * (szZ od)) * 2))))), (10, .int (iI 0)), (8, .long (lI L)), (0, .ref o), (1, .long (lI od)), (3, .int (iI len)), (4, .long (lI p)), (6, .long (lI q))]) hC.1 hC.2.1 d_Mo_squareSign_278 hl (by decide) rfl (fun ls hl => ?_)
              refine lv_lload hC.1 hC.2.1 d_Mo_squareSign_280 (lv_at hl 10 rfl) ?_
              refine z_lconst (v := 0) hC d_Mo_squareSign_282 (by decide) ?_
              refine z_lcmp_ge (tgt := 291) hC d_Mo_squareSign_283 d_Mo_squareSign_284 (by decide) (by omega) (by decide) (fun h283 => ?_) (fun h283 => ?_)
              · refine lv_lload hC.1 hC.2.1 d_Mo_squareSign_291 (lv_at hl 10 rfl) ?_
                refine z_lconst (v := 0) hC d_Mo_squareSign_293 (by decide) ?_
                refine z_lcmp_le (tgt := 302) hC d_Mo_squareSign_294 d_Mo_squareSign_295 (by decide) (by omega) (by decide) (fun h294 => ?_) (fun h294 => ?_)
                · refine z_iconst hC d_Mo_squareSign_302 ?_
                  refine lv_istore (lv' := [(15, .int (iI 0)), (14, .int (iI 0)), (13, .int (iI (zB no))), (12, .int (iI 1)), (11, .int (iI (sgn ((L * (szZ (2 * p + q))) - (((szZ od) * (szZ od)) * 2))))), (10, .int (iI 0)), (8, .long (lI L)), (0, .ref o), (1, .long (lI od)), (3, .int (iI len)), (4, .long (lI p)), (6, .long (lI q))]) hC.1 hC.2.1 d_Mo_squareSign_303 hl (by decide) rfl (fun ls hl => ?_)
                  refine lv_iload hC.1 hC.2.1 d_Mo_squareSign_305 (lv_at hl 1 rfl) ?_
                  refine z_if_lt (tgt := 331) hC d_Mo_squareSign_307 (by decide) (by decide) (fun h => absurd h (by decide)) (fun _ => ?_)
                  refine lv_iload hC.1 hC.2.1 d_Mo_squareSign_310 (lv_at hl 0 rfl) ?_
                  refine z_if_lt (tgt := 331) hC d_Mo_squareSign_312 (by decide) (by decide) (fun h => absurd h (by decide)) (fun _ => ?_)
                  refine lv_iload hC.1 hC.2.1 d_Mo_squareSign_315 (lv_at hl 1 rfl) ?_
                  refine z_if_ne (tgt := 329) hC d_Mo_squareSign_317 (by decide) (by decide) (fun h => absurd h (by decide)) (fun _ => ?_)
                  refine lv_iload hC.1 hC.2.1 d_Mo_squareSign_320 (lv_at hl 0 rfl) ?_
                  refine z_if_ne (tgt := 329) hC d_Mo_squareSign_322 (by decide) (by decide) (fun h => absurd h (by decide)) (fun _ => ?_)
                  refine z_iconst hC d_Mo_squareSign_325 ?_
                  refine z_goto (tgt := 330) hC d_Mo_squareSign_326 (by decide) ?_
                  have hP9 := hP.sub (ws' := [(o, .inr (5, [.int (iI cd), .int (iI z), .int (iI lv), .ref qT, .ref qC, .ref qF, .ref qY, .ref qZ, .ref qu, .ref qv, .ref qw, .ref qg, .ref qh, .ref qx, .ref qc, .ref qa, .ref qb, .ref qd, .int (iI fm), .ref qp, .ref qq])), (qx, eL t.2.1 54 u11)]) [0, 1] rfl
                  have hD9 := hD.sub (ws' := [(o, .inr (5, [.int (iI cd), .int (iI z), .int (iI lv), .ref qT, .ref qC, .ref qF, .ref qY, .ref qZ, .ref qu, .ref qv, .ref qw, .ref qg, .ref qh, .ref qx, .ref qc, .ref qa, .ref qb, .ref qd, .int (iI fm), .ref qp, .ref qq])), (qx, eL t.2.1 54 u11)]) [0, 1] (by decide) rfl
                  exact retv (0, u11) _ _ 330 _ _ d_Mo_squareSign_330 ⟨rfl, (by show 0 = _; rw [eV]; unfold rsZ; rw [if_pos (by omega), if_pos (by omega)])⟩ hP9 hD9 hS
                · refine z_iconst hC d_Mo_squareSign_298 ?_
                  refine z_goto (tgt := 303) hC d_Mo_squareSign_299 (by decide) ?_
                  refine lv_istore (lv' := [(15, .int (iI 1)), (14, .int (iI 0)), (13, .int (iI (zB no))), (12, .int (iI 1)), (11, .int (iI (sgn ((L * (szZ (2 * p + q))) - (((szZ od) * (szZ od)) * 2))))), (10, .int (iI 0)), (8, .long (lI L)), (0, .ref o), (1, .long (lI od)), (3, .int (iI len)), (4, .long (lI p)), (6, .long (lI q))]) hC.1 hC.2.1 d_Mo_squareSign_303 hl (by decide) rfl (fun ls hl => ?_)
                  refine lv_iload hC.1 hC.2.1 d_Mo_squareSign_305 (lv_at hl 1 rfl) ?_
                  refine z_if_lt (tgt := 331) hC d_Mo_squareSign_307 (by decide) (by decide) (fun h => absurd h (by decide)) (fun _ => ?_)
                  refine lv_iload hC.1 hC.2.1 d_Mo_squareSign_310 (lv_at hl 0 rfl) ?_
                  refine z_if_lt (tgt := 331) hC d_Mo_squareSign_312 (by decide) (by decide) (fun h => absurd h (by decide)) (fun _ => ?_)
                  refine lv_iload hC.1 hC.2.1 d_Mo_squareSign_315 (lv_at hl 1 rfl) ?_
                  refine z_if_ne (tgt := 329) hC d_Mo_squareSign_317 (by decide) (by decide) (fun h => absurd h (by decide)) (fun _ => ?_)
                  refine lv_iload hC.1 hC.2.1 d_Mo_squareSign_320 (lv_at hl 0 rfl) ?_
                  refine z_if_ne (tgt := 329) hC d_Mo_squareSign_322 (by decide) (by decide) (fun _ => ?_) (fun h => absurd h (by decide))
                  refine z_iconst hC d_Mo_squareSign_329 ?_
                  have hP9 := hP.sub (ws' := [(o, .inr (5, [.int (iI cd), .int (iI z), .int (iI lv), .ref qT, .ref qC, .ref qF, .ref qY, .ref qZ, .ref qu, .ref qv, .ref qw, .ref qg, .ref qh, .ref qx, .ref qc, .ref qa, .ref qb, .ref qd, .int (iI fm), .ref qp, .ref qq])), (qx, eL t.2.1 54 u11)]) [0, 1] rfl
                  have hD9 := hD.sub (ws' := [(o, .inr (5, [.int (iI cd), .int (iI z), .int (iI lv), .ref qT, .ref qC, .ref qF, .ref qY, .ref qZ, .ref qu, .ref qv, .ref qw, .ref qg, .ref qh, .ref qx, .ref qc, .ref qa, .ref qb, .ref qd, .int (iI fm), .ref qp, .ref qq])), (qx, eL t.2.1 54 u11)]) [0, 1] (by decide) rfl
                  exact retv (1, u11) _ _ 330 _ _ d_Mo_squareSign_330 ⟨rfl, (by show 1 = _; rw [eV]; unfold rsZ; rw [if_pos (by omega), if_neg (by omega)])⟩ hP9 hD9 hS
              · refine z_iconst hC d_Mo_squareSign_287 ?_
                refine z_goto (tgt := 303) hC d_Mo_squareSign_288 (by decide) ?_
                refine lv_istore (lv' := [(15, .int (iI (-1))), (14, .int (iI 0)), (13, .int (iI (zB no))), (12, .int (iI 1)), (11, .int (iI (sgn ((L * (szZ (2 * p + q))) - (((szZ od) * (szZ od)) * 2))))), (10, .int (iI 0)), (8, .long (lI L)), (0, .ref o), (1, .long (lI od)), (3, .int (iI len)), (4, .long (lI p)), (6, .long (lI q))]) hC.1 hC.2.1 d_Mo_squareSign_303 hl (by decide) rfl (fun ls hl => ?_)
                refine lv_iload hC.1 hC.2.1 d_Mo_squareSign_305 (lv_at hl 1 rfl) ?_
                refine z_if_lt (tgt := 331) hC d_Mo_squareSign_307 (by decide) (by decide) (fun h => absurd h (by decide)) (fun _ => ?_)
                refine lv_iload hC.1 hC.2.1 d_Mo_squareSign_310 (lv_at hl 0 rfl) ?_
                refine z_if_lt (tgt := 331) hC d_Mo_squareSign_312 (by decide) (by decide) (fun _ => ?_) (fun h => absurd h (by decide))
                refine lv_iload hC.1 hC.2.1 d_Mo_squareSign_331 (lv_at hl 1 rfl) ?_
                refine z_if_gt (tgt := 343) hC d_Mo_squareSign_333 (by decide) (by decide) (fun h => absurd h (by decide)) (fun _ => ?_)
                refine lv_iload hC.1 hC.2.1 d_Mo_squareSign_336 (lv_at hl 0 rfl) ?_
                refine z_if_gt (tgt := 343) hC d_Mo_squareSign_338 (by decide) (by decide) (fun h => absurd h (by decide)) (fun _ => ?_)
                refine z_iconst hC d_Mo_squareSign_341 ?_
                have hP9 := hP.sub (ws' := [(o, .inr (5, [.int (iI cd), .int (iI z), .int (iI lv), .ref qT, .ref qC, .ref qF, .ref qY, .ref qZ, .ref qu, .ref qv, .ref qw, .ref qg, .ref qh, .ref qx, .ref qc, .ref qa, .ref qb, .ref qd, .int (iI fm), .ref qp, .ref qq])), (qx, eL t.2.1 54 u11)]) [0, 1] rfl
                have hD9 := hD.sub (ws' := [(o, .inr (5, [.int (iI cd), .int (iI z), .int (iI lv), .ref qT, .ref qC, .ref qF, .ref qY, .ref qZ, .ref qu, .ref qv, .ref qw, .ref qg, .ref qh, .ref qx, .ref qc, .ref qa, .ref qb, .ref qd, .int (iI fm), .ref qp, .ref qq])), (qx, eL t.2.1 54 u11)]) [0, 1] (by decide) rfl
                exact retv (-1, u11) _ _ 342 _ _ d_Mo_squareSign_342 ⟨rfl, (by show -1 = _; rw [eV]; unfold rsZ; rw [if_neg (by omega), if_pos (by omega)])⟩ hP9 hD9 hS
          · refine lv_iload hC.1 hC.2.1 d_Mo_squareSign_234 (lv_at hl 1 rfl) ?_
            refine z_if_eqB (tgt := 258) hC d_Mo_squareSign_236 (by decide) (fun h236 => ?_) (fun h236 => ?_)
            · refine z_iconst hC d_Mo_squareSign_258 ?_
              refine lv_istore (lv' := [(13, .int (iI 0)), (14, .int (iI i)), (12, .int (iI 1)), (11, .int (iI (sgn ((L * (szZ (2 * p + q))) - (((szZ od) * (szZ od)) * 2))))), (10, .int (iI 0)), (8, .long (lI L)), (0, .ref o), (1, .long (lI od)), (3, .int (iI len)), (4, .long (lI p)), (6, .long (lI q))]) hC.1 hC.2.1 d_Mo_squareSign_259 hl (by decide) rfl (fun ls hl => ?_)
              refine lv_iinc (v := iI (i + 1)) (lv' := [(14, .int (iI (i + 1))), (13, .int (iI 0)), (12, .int (iI 1)), (11, .int (iI (sgn ((L * (szZ (2 * p + q))) - (((szZ od) * (szZ od)) * 2))))), (10, .int (iI 0)), (8, .long (lI L)), (0, .ref o), (1, .long (lI od)), (3, .int (iI len)), (4, .long (lI p)), (6, .long (lI q))]) hC.1 hC.2.1 d_Mo_squareSign_261 hl (k := 1) rfl (z_inc (by omega)) (by decide) rfl (fun ls hl => ?_)
              refine z_goto (tgt := 227) hC d_Mo_squareSign_264 (by decide) ?_
              exact ih227 false (i + 1) _ _ _ (by omega) (by omega) (by rw [anyZ_s (by omega)]; rw [h236] at eno; have q : anyZ i.toNat (fun m => decide (¬ u11 (m + 36) = 0)) = true := (by revert eno; cases anyZ i.toNat (fun m => decide (¬ u11 (m + 36) = 0)) <;> simp); rw [q]; rfl) (hP.sub (ws' := [(o, .inr (5, [.int (iI cd), .int (iI z), .int (iI lv), .ref qT, .ref qC, .ref qF, .ref qY, .ref qZ, .ref qu, .ref qv, .ref qw, .ref qg, .ref qh, .ref qx, .ref qc, .ref qa, .ref qb, .ref qd, .int (iI fm), .ref qp, .ref qq])), (qx, eL t.2.1 54 u11)]) [0, 1] rfl) (hD.sub (ws' := [(o, .inr (5, [.int (iI cd), .int (iI z), .int (iI lv), .ref qT, .ref qC, .ref qF, .ref qY, .ref qZ, .ref qu, .ref qv, .ref qw, .ref qg, .ref qh, .ref qx, .ref qc, .ref qa, .ref qb, .ref qd, .int (iI fm), .ref qp, .ref qq])), (qx, eL t.2.1 54 u11)]) [0, 1] (by decide) rfl) hS (lv_sub hl [0, 1, 2, 3, 4, 5, 6, 7, 8, 9, 10] rfl)
            · have d4 := b4_u11.1 i (by omega) (by omega)
              rw [show (9 : Int) * 4 + i = i + 36 by omega] at d4
              refine lv_aload_n hC.1 hC.2.1 d_Mo_squareSign_239 rfl (lv_at hl 6 rfl) ?_
              refine z_get (ci := 5) (C := R_Mo) (T := F_Mo) (N := 21) (v := .ref qx) hC in_Mo hK hP 0 rfl rfl 13 (by decide) k_466 rfl d_Mo_squareSign_240 ?_
              refine z_bipush hC d_Mo_squareSign_243 (by decide) ?_
              refine lv_iload hC.1 hC.2.1 d_Mo_squareSign_245 (lv_at hl 0 rfl) ?_
              refine z_iadd hC d_Mo_squareSign_247 ?_
              refine z_topi (z := i + 36) (by omega) ?_
              refine z_lald hC hK hP 1 rfl (by omega) d_Mo_squareSign_248 ?_
              refine z_lconst (v := 0) hC d_Mo_squareSign_249 (by decide) ?_
              refine z_lcmp_ne (tgt := 258) hC d_Mo_squareSign_250 d_Mo_squareSign_251 (by decide) (by omega) (by decide) (fun h250 => ?_) (fun h250 => ?_)
              · refine z_iconst hC d_Mo_squareSign_258 ?_
                refine lv_istore (lv' := [(13, .int (iI 0)), (14, .int (iI i)), (12, .int (iI 1)), (11, .int (iI (sgn ((L * (szZ (2 * p + q))) - (((szZ od) * (szZ od)) * 2))))), (10, .int (iI 0)), (8, .long (lI L)), (0, .ref o), (1, .long (lI od)), (3, .int (iI len)), (4, .long (lI p)), (6, .long (lI q))]) hC.1 hC.2.1 d_Mo_squareSign_259 hl (by decide) rfl (fun ls hl => ?_)
                refine lv_iinc (v := iI (i + 1)) (lv' := [(14, .int (iI (i + 1))), (13, .int (iI 0)), (12, .int (iI 1)), (11, .int (iI (sgn ((L * (szZ (2 * p + q))) - (((szZ od) * (szZ od)) * 2))))), (10, .int (iI 0)), (8, .long (lI L)), (0, .ref o), (1, .long (lI od)), (3, .int (iI len)), (4, .long (lI p)), (6, .long (lI q))]) hC.1 hC.2.1 d_Mo_squareSign_261 hl (k := 1) rfl (z_inc (by omega)) (by decide) rfl (fun ls hl => ?_)
                refine z_goto (tgt := 227) hC d_Mo_squareSign_264 (by decide) ?_
                exact ih227 false (i + 1) _ _ _ (by omega) (by omega) (any_st1 (by omega) eno h236 false (by simp; omega)) (hP.sub (ws' := [(o, .inr (5, [.int (iI cd), .int (iI z), .int (iI lv), .ref qT, .ref qC, .ref qF, .ref qY, .ref qZ, .ref qu, .ref qv, .ref qw, .ref qg, .ref qh, .ref qx, .ref qc, .ref qa, .ref qb, .ref qd, .int (iI fm), .ref qp, .ref qq])), (qx, eL t.2.1 54 u11)]) [0, 1] rfl) (hD.sub (ws' := [(o, .inr (5, [.int (iI cd), .int (iI z), .int (iI lv), .ref qT, .ref qC, .ref qF, .ref qY, .ref qZ, .ref qu, .ref qv, .ref qw, .ref qg, .ref qh, .ref qx, .ref qc, .ref qa, .ref qb, .ref qd, .int (iI fm), .ref qp, .ref qq])), (qx, eL t.2.1 54 u11)]) [0, 1] (by decide) rfl) hS (lv_sub hl [0, 1, 2, 3, 4, 5, 6, 7, 8, 9, 10] rfl)
              · refine z_iconst hC d_Mo_squareSign_254 ?_
                refine z_goto (tgt := 259) hC d_Mo_squareSign_255 (by decide) ?_
                refine lv_istore (lv' := [(13, .int (iI 1)), (14, .int (iI i)), (12, .int (iI 1)), (11, .int (iI (sgn ((L * (szZ (2 * p + q))) - (((szZ od) * (szZ od)) * 2))))), (10, .int (iI 0)), (8, .long (lI L)), (0, .ref o), (1, .long (lI od)), (3, .int (iI len)), (4, .long (lI p)), (6, .long (lI q))]) hC.1 hC.2.1 d_Mo_squareSign_259 hl (by decide) rfl (fun ls hl => ?_)
                refine lv_iinc (v := iI (i + 1)) (lv' := [(14, .int (iI (i + 1))), (13, .int (iI 1)), (12, .int (iI 1)), (11, .int (iI (sgn ((L * (szZ (2 * p + q))) - (((szZ od) * (szZ od)) * 2))))), (10, .int (iI 0)), (8, .long (lI L)), (0, .ref o), (1, .long (lI od)), (3, .int (iI len)), (4, .long (lI p)), (6, .long (lI q))]) hC.1 hC.2.1 d_Mo_squareSign_261 hl (k := 1) rfl (z_inc (by omega)) (by decide) rfl (fun ls hl => ?_)
                refine z_goto (tgt := 227) hC d_Mo_squareSign_264 (by decide) ?_
                exact ih227 true (i + 1) _ _ _ (by omega) (by omega) (any_st1 (by omega) eno h236 true (by simp; omega)) (hP.sub (ws' := [(o, .inr (5, [.int (iI cd), .int (iI z), .int (iI lv), .ref qT, .ref qC, .ref qF, .ref qY, .ref qZ, .ref qu, .ref qv, .ref qw, .ref qg, .ref qh, .ref qx, .ref qc, .ref qa, .ref qb, .ref qd, .int (iI fm), .ref qp, .ref qq])), (qx, eL t.2.1 54 u11)]) [0, 1] rfl) (hD.sub (ws' := [(o, .inr (5, [.int (iI cd), .int (iI z), .int (iI lv), .ref qT, .ref qC, .ref qF, .ref qY, .ref qZ, .ref qu, .ref qv, .ref qw, .ref qg, .ref qh, .ref qx, .ref qc, .ref qa, .ref qb, .ref qd, .int (iI fm), .ref qp, .ref qq])), (qx, eL t.2.1 54 u11)]) [0, 1] (by decide) rfl) hS (lv_sub hl [0, 1, 2, 3, 4, 5, 6, 7, 8, 9, 10] rfl)
      exact L227 (9 - 0 + 1 : Int).toNat true 0 _ _ _ (by omega) (by omega) (by rfl) hP hD hS (lv_sub hl [0, 1, 2, 3, 4, 5, 6, 7, 8, 9, 10] rfl)
    · refine z_iconst hC d_Mo_squareSign_121 ?_
      refine z_goto (tgt := 126) hC d_Mo_squareSign_122 (by decide) ?_
      refine lv_istore (lv' := [(12, .int (iI 2)), (11, .int (iI (sgn ((L * (szZ (2 * p + q))) - (((szZ od) * (szZ od)) * 2))))), (10, .int (iI 0)), (8, .long (lI L)), (0, .ref o), (1, .long (lI od)), (3, .int (iI len)), (4, .long (lI p)), (6, .long (lI q))]) hC.1 hC.2.1 d_Mo_squareSign_126 hl (by decide) rfl (fun ls hl => ?_)
      refine z_iconst hC d_Mo_squareSign_128 ?_
      refine lv_istore (lv' := [(13, .int (iI 0)), (12, .int (iI 2)), (11, .int (iI (sgn ((L * (szZ (2 * p + q))) - (((szZ od) * (szZ od)) * 2))))), (10, .int (iI 0)), (8, .long (lI L)), (0, .ref o), (1, .long (lI od)), (3, .int (iI len)), (4, .long (lI p)), (6, .long (lI q))]) hC.1 hC.2.1 d_Mo_squareSign_129 hl (by decide) rfl (fun ls hl => ?_)
      refine lv_iload hC.1 hC.2.1 d_Mo_squareSign_131 (lv_at hl 0 rfl) ?_
      refine z_bipush hC d_Mo_squareSign_133 (by decide) ?_
      refine z_icmp_ge (tgt := 167) hC d_Mo_squareSign_135 (by decide) (by decide) (by decide) (fun h => absurd h (by decide)) (fun _ => ?_)
      refine lv_aload_n hC.1 hC.2.1 d_Mo_squareSign_138 rfl (lv_at hl 5 rfl) ?_
      refine z_get (ci := 5) (C := R_Mo) (T := F_Mo) (N := 21) (v := .ref qx) hC in_Mo hK hP 0 rfl rfl 13 (by decide) k_466 rfl d_Mo_squareSign_139 ?_
      refine z_bipush hC d_Mo_squareSign_142 (by decide) ?_
      refine lv_iload hC.1 hC.2.1 d_Mo_squareSign_144 (lv_at hl 0 rfl) ?_
      refine z_iadd hC d_Mo_squareSign_146 ?_
      refine z_topi (z := 36) (by omega) ?_
      refine lv_aload_n hC.1 hC.2.1 d_Mo_squareSign_147 rfl (lv_at hl 5 rfl) ?_
      refine z_get (ci := 5) (C := R_Mo) (T := F_Mo) (N := 21) (v := .ref qx) hC in_Mo hK hP 0 rfl rfl 13 (by decide) k_466 rfl d_Mo_squareSign_148 ?_
      refine z_bipush hC d_Mo_squareSign_151 (by decide) ?_
      refine lv_iload hC.1 hC.2.1 d_Mo_squareSign_153 (lv_at hl 1 rfl) ?_
      refine z_imul hC d_Mo_squareSign_155 ?_
      refine z_topi (z := 18) (by omega) ?_
      refine lv_iload hC.1 hC.2.1 d_Mo_squareSign_156 (lv_at hl 0 rfl) ?_
      refine z_iadd hC d_Mo_squareSign_158 ?_
      refine z_topi (z := 18) (by omega) ?_
      refine z_lald hC hK hP 1 rfl (by omega) d_Mo_squareSign_159 ?_
      refine z_last (ws' := [(o, .inr (5, [.int (iI cd), .int (iI z), .int (iI lv), .ref qT, .ref qC, .ref qF, .ref qY, .ref qZ, .ref qu, .ref qv, .ref qw, .ref qg, .ref qh, .ref qx, .ref qc, .ref qa, .ref qb, .ref qd, .int (iI fm), .ref qp, .ref qq])), (qx, eL t.2.1 54 (uZ u7 36 (u7 18)))]) hC hK hP hD hS 1 rfl (by omega) rfl d_Mo_squareSign_160 (fun H locs hP hD hS => ?_)
      refine lv_iinc (v := iI 1) (lv' := [(13, .int (iI 1)), (12, .int (iI 2)), (11, .int (iI (sgn ((L * (szZ (2 * p + q))) - (((szZ od) * (szZ od)) * 2))))), (10, .int (iI 0)), (8, .long (lI L)), (0, .ref o), (1, .long (lI od)), (3, .int (iI len)), (4, .long (lI p)), (6, .long (lI q))]) hC.1 hC.2.1 d_Mo_squareSign_161 hl (k := 0) rfl (z_inc (by omega)) (by decide) rfl (fun ls hl => ?_)
      refine z_goto (tgt := 131) hC d_Mo_squareSign_164 (by decide) ?_
      refine lv_iload hC.1 hC.2.1 d_Mo_squareSign_131 (lv_at hl 0 rfl) ?_
      refine z_bipush hC d_Mo_squareSign_133 (by decide) ?_
      refine z_icmp_ge (tgt := 167) hC d_Mo_squareSign_135 (by decide) (by decide) (by decide) (fun h => absurd h (by decide)) (fun _ => ?_)
      refine lv_aload_n hC.1 hC.2.1 d_Mo_squareSign_138 rfl (lv_at hl 5 rfl) ?_
      refine z_get (ci := 5) (C := R_Mo) (T := F_Mo) (N := 21) (v := .ref qx) hC in_Mo hK hP 0 rfl rfl 13 (by decide) k_466 rfl d_Mo_squareSign_139 ?_
      refine z_bipush hC d_Mo_squareSign_142 (by decide) ?_
      refine lv_iload hC.1 hC.2.1 d_Mo_squareSign_144 (lv_at hl 0 rfl) ?_
      refine z_iadd hC d_Mo_squareSign_146 ?_
      refine z_topi (z := 37) (by omega) ?_
      refine lv_aload_n hC.1 hC.2.1 d_Mo_squareSign_147 rfl (lv_at hl 5 rfl) ?_
      refine z_get (ci := 5) (C := R_Mo) (T := F_Mo) (N := 21) (v := .ref qx) hC in_Mo hK hP 0 rfl rfl 13 (by decide) k_466 rfl d_Mo_squareSign_148 ?_
      refine z_bipush hC d_Mo_squareSign_151 (by decide) ?_
      refine lv_iload hC.1 hC.2.1 d_Mo_squareSign_153 (lv_at hl 1 rfl) ?_
      refine z_imul hC d_Mo_squareSign_155 ?_
      refine z_topi (z := 18) (by omega) ?_
      refine lv_iload hC.1 hC.2.1 d_Mo_squareSign_156 (lv_at hl 0 rfl) ?_
      refine z_iadd hC d_Mo_squareSign_158 ?_
      refine z_topi (z := 19) (by omega) ?_
      refine z_lald hC hK hP 1 rfl (by omega) d_Mo_squareSign_159 ?_
      refine z_topl (z := u7 19) (by rw [uZ_n (by omega)]) ?_
      refine z_last (ws' := [(o, .inr (5, [.int (iI cd), .int (iI z), .int (iI lv), .ref qT, .ref qC, .ref qF, .ref qY, .ref qZ, .ref qu, .ref qv, .ref qw, .ref qg, .ref qh, .ref qx, .ref qc, .ref qa, .ref qb, .ref qd, .int (iI fm), .ref qp, .ref qq])), (qx, eL t.2.1 54 (uZ (uZ u7 36 (u7 18)) 37 (u7 19)))]) hC hK hP hD hS 1 rfl (by omega) rfl d_Mo_squareSign_160 (fun H locs hP hD hS => ?_)
      refine lv_iinc (v := iI 2) (lv' := [(13, .int (iI 2)), (12, .int (iI 2)), (11, .int (iI (sgn ((L * (szZ (2 * p + q))) - (((szZ od) * (szZ od)) * 2))))), (10, .int (iI 0)), (8, .long (lI L)), (0, .ref o), (1, .long (lI od)), (3, .int (iI len)), (4, .long (lI p)), (6, .long (lI q))]) hC.1 hC.2.1 d_Mo_squareSign_161 hl (k := 0) rfl (z_inc (by omega)) (by decide) rfl (fun ls hl => ?_)
      refine z_goto (tgt := 131) hC d_Mo_squareSign_164 (by decide) ?_
      refine lv_iload hC.1 hC.2.1 d_Mo_squareSign_131 (lv_at hl 0 rfl) ?_
      refine z_bipush hC d_Mo_squareSign_133 (by decide) ?_
      refine z_icmp_ge (tgt := 167) hC d_Mo_squareSign_135 (by decide) (by decide) (by decide) (fun h => absurd h (by decide)) (fun _ => ?_)
      refine lv_aload_n hC.1 hC.2.1 d_Mo_squareSign_138 rfl (lv_at hl 5 rfl) ?_
      refine z_get (ci := 5) (C := R_Mo) (T := F_Mo) (N := 21) (v := .ref qx) hC in_Mo hK hP 0 rfl rfl 13 (by decide) k_466 rfl d_Mo_squareSign_139 ?_
      refine z_bipush hC d_Mo_squareSign_142 (by decide) ?_
      refine lv_iload hC.1 hC.2.1 d_Mo_squareSign_144 (lv_at hl 0 rfl) ?_
      refine z_iadd hC d_Mo_squareSign_146 ?_
      refine z_topi (z := 38) (by omega) ?_
      refine lv_aload_n hC.1 hC.2.1 d_Mo_squareSign_147 rfl (lv_at hl 5 rfl) ?_
      refine z_get (ci := 5) (C := R_Mo) (T := F_Mo) (N := 21) (v := .ref qx) hC in_Mo hK hP 0 rfl rfl 13 (by decide) k_466 rfl d_Mo_squareSign_148 ?_
      refine z_bipush hC d_Mo_squareSign_151 (by decide) ?_
      refine lv_iload hC.1 hC.2.1 d_Mo_squareSign_153 (lv_at hl 1 rfl) ?_
      refine z_imul hC d_Mo_squareSign_155 ?_
      refine z_topi (z := 18) (by omega) ?_
      refine lv_iload hC.1 hC.2.1 d_Mo_squareSign_156 (lv_at hl 0 rfl) ?_
      refine z_iadd hC d_Mo_squareSign_158 ?_
      refine z_topi (z := 20) (by omega) ?_
      refine z_lald hC hK hP 1 rfl (by omega) d_Mo_squareSign_159 ?_
      refine z_topl (z := u7 20) (by rw [uZ_n (by omega), uZ_n (by omega)]) ?_
      refine z_last (ws' := [(o, .inr (5, [.int (iI cd), .int (iI z), .int (iI lv), .ref qT, .ref qC, .ref qF, .ref qY, .ref qZ, .ref qu, .ref qv, .ref qw, .ref qg, .ref qh, .ref qx, .ref qc, .ref qa, .ref qb, .ref qd, .int (iI fm), .ref qp, .ref qq])), (qx, eL t.2.1 54 (uZ (uZ (uZ u7 36 (u7 18)) 37 (u7 19)) 38 (u7 20)))]) hC hK hP hD hS 1 rfl (by omega) rfl d_Mo_squareSign_160 (fun H locs hP hD hS => ?_)
      refine lv_iinc (v := iI 3) (lv' := [(13, .int (iI 3)), (12, .int (iI 2)), (11, .int (iI (sgn ((L * (szZ (2 * p + q))) - (((szZ od) * (szZ od)) * 2))))), (10, .int (iI 0)), (8, .long (lI L)), (0, .ref o), (1, .long (lI od)), (3, .int (iI len)), (4, .long (lI p)), (6, .long (lI q))]) hC.1 hC.2.1 d_Mo_squareSign_161 hl (k := 0) rfl (z_inc (by omega)) (by decide) rfl (fun ls hl => ?_)
      refine z_goto (tgt := 131) hC d_Mo_squareSign_164 (by decide) ?_
      refine lv_iload hC.1 hC.2.1 d_Mo_squareSign_131 (lv_at hl 0 rfl) ?_
      refine z_bipush hC d_Mo_squareSign_133 (by decide) ?_
      refine z_icmp_ge (tgt := 167) hC d_Mo_squareSign_135 (by decide) (by decide) (by decide) (fun h => absurd h (by decide)) (fun _ => ?_)
      refine lv_aload_n hC.1 hC.2.1 d_Mo_squareSign_138 rfl (lv_at hl 5 rfl) ?_
      refine z_get (ci := 5) (C := R_Mo) (T := F_Mo) (N := 21) (v := .ref qx) hC in_Mo hK hP 0 rfl rfl 13 (by decide) k_466 rfl d_Mo_squareSign_139 ?_
      refine z_bipush hC d_Mo_squareSign_142 (by decide) ?_
      refine lv_iload hC.1 hC.2.1 d_Mo_squareSign_144 (lv_at hl 0 rfl) ?_
      refine z_iadd hC d_Mo_squareSign_146 ?_
      refine z_topi (z := 39) (by omega) ?_
      refine lv_aload_n hC.1 hC.2.1 d_Mo_squareSign_147 rfl (lv_at hl 5 rfl) ?_
      refine z_get (ci := 5) (C := R_Mo) (T := F_Mo) (N := 21) (v := .ref qx) hC in_Mo hK hP 0 rfl rfl 13 (by decide) k_466 rfl d_Mo_squareSign_148 ?_
      refine z_bipush hC d_Mo_squareSign_151 (by decide) ?_
      refine lv_iload hC.1 hC.2.1 d_Mo_squareSign_153 (lv_at hl 1 rfl) ?_
      refine z_imul hC d_Mo_squareSign_155 ?_
      refine z_topi (z := 18) (by omega) ?_
      refine lv_iload hC.1 hC.2.1 d_Mo_squareSign_156 (lv_at hl 0 rfl) ?_
      refine z_iadd hC d_Mo_squareSign_158 ?_
      refine z_topi (z := 21) (by omega) ?_
      refine z_lald hC hK hP 1 rfl (by omega) d_Mo_squareSign_159 ?_
      refine z_topl (z := u7 21) (by rw [uZ_n (by omega), uZ_n (by omega), uZ_n (by omega)]) ?_
      refine z_last (ws' := [(o, .inr (5, [.int (iI cd), .int (iI z), .int (iI lv), .ref qT, .ref qC, .ref qF, .ref qY, .ref qZ, .ref qu, .ref qv, .ref qw, .ref qg, .ref qh, .ref qx, .ref qc, .ref qa, .ref qb, .ref qd, .int (iI fm), .ref qp, .ref qq])), (qx, eL t.2.1 54 (uZ (uZ (uZ (uZ u7 36 (u7 18)) 37 (u7 19)) 38 (u7 20)) 39 (u7 21)))]) hC hK hP hD hS 1 rfl (by omega) rfl d_Mo_squareSign_160 (fun H locs hP hD hS => ?_)
      refine lv_iinc (v := iI 4) (lv' := [(13, .int (iI 4)), (12, .int (iI 2)), (11, .int (iI (sgn ((L * (szZ (2 * p + q))) - (((szZ od) * (szZ od)) * 2))))), (10, .int (iI 0)), (8, .long (lI L)), (0, .ref o), (1, .long (lI od)), (3, .int (iI len)), (4, .long (lI p)), (6, .long (lI q))]) hC.1 hC.2.1 d_Mo_squareSign_161 hl (k := 0) rfl (z_inc (by omega)) (by decide) rfl (fun ls hl => ?_)
      refine z_goto (tgt := 131) hC d_Mo_squareSign_164 (by decide) ?_
      refine lv_iload hC.1 hC.2.1 d_Mo_squareSign_131 (lv_at hl 0 rfl) ?_
      refine z_bipush hC d_Mo_squareSign_133 (by decide) ?_
      refine z_icmp_ge (tgt := 167) hC d_Mo_squareSign_135 (by decide) (by decide) (by decide) (fun h => absurd h (by decide)) (fun _ => ?_)
      refine lv_aload_n hC.1 hC.2.1 d_Mo_squareSign_138 rfl (lv_at hl 5 rfl) ?_
      refine z_get (ci := 5) (C := R_Mo) (T := F_Mo) (N := 21) (v := .ref qx) hC in_Mo hK hP 0 rfl rfl 13 (by decide) k_466 rfl d_Mo_squareSign_139 ?_
      refine z_bipush hC d_Mo_squareSign_142 (by decide) ?_
      refine lv_iload hC.1 hC.2.1 d_Mo_squareSign_144 (lv_at hl 0 rfl) ?_
      refine z_iadd hC d_Mo_squareSign_146 ?_
      refine z_topi (z := 40) (by omega) ?_
      refine lv_aload_n hC.1 hC.2.1 d_Mo_squareSign_147 rfl (lv_at hl 5 rfl) ?_
      refine z_get (ci := 5) (C := R_Mo) (T := F_Mo) (N := 21) (v := .ref qx) hC in_Mo hK hP 0 rfl rfl 13 (by decide) k_466 rfl d_Mo_squareSign_148 ?_
      refine z_bipush hC d_Mo_squareSign_151 (by decide) ?_
      refine lv_iload hC.1 hC.2.1 d_Mo_squareSign_153 (lv_at hl 1 rfl) ?_
      refine z_imul hC d_Mo_squareSign_155 ?_
      refine z_topi (z := 18) (by omega) ?_
      refine lv_iload hC.1 hC.2.1 d_Mo_squareSign_156 (lv_at hl 0 rfl) ?_
      refine z_iadd hC d_Mo_squareSign_158 ?_
      refine z_topi (z := 22) (by omega) ?_
      refine z_lald hC hK hP 1 rfl (by omega) d_Mo_squareSign_159 ?_
      refine z_topl (z := u7 22) (by rw [uZ_n (by omega), uZ_n (by omega), uZ_n (by omega), uZ_n (by omega)]) ?_
      refine z_last (ws' := [(o, .inr (5, [.int (iI cd), .int (iI z), .int (iI lv), .ref qT, .ref qC, .ref qF, .ref qY, .ref qZ, .ref qu, .ref qv, .ref qw, .ref qg, .ref qh, .ref qx, .ref qc, .ref qa, .ref qb, .ref qd, .int (iI fm), .ref qp, .ref qq])), (qx, eL t.2.1 54 (uZ (uZ (uZ (uZ (uZ u7 36 (u7 18)) 37 (u7 19)) 38 (u7 20)) 39 (u7 21)) 40 (u7 22)))]) hC hK hP hD hS 1 rfl (by omega) rfl d_Mo_squareSign_160 (fun H locs hP hD hS => ?_)
      refine lv_iinc (v := iI 5) (lv' := [(13, .int (iI 5)), (12, .int (iI 2)), (11, .int (iI (sgn ((L * (szZ (2 * p + q))) - (((szZ od) * (szZ od)) * 2))))), (10, .int (iI 0)), (8, .long (lI L)), (0, .ref o), (1, .long (lI od)), (3, .int (iI len)), (4, .long (lI p)), (6, .long (lI q))]) hC.1 hC.2.1 d_Mo_squareSign_161 hl (k := 0) rfl (z_inc (by omega)) (by decide) rfl (fun ls hl => ?_)
      refine z_goto (tgt := 131) hC d_Mo_squareSign_164 (by decide) ?_
      refine lv_iload hC.1 hC.2.1 d_Mo_squareSign_131 (lv_at hl 0 rfl) ?_
      refine z_bipush hC d_Mo_squareSign_133 (by decide) ?_
      refine z_icmp_ge (tgt := 167) hC d_Mo_squareSign_135 (by decide) (by decide) (by decide) (fun h => absurd h (by decide)) (fun _ => ?_)
      refine lv_aload_n hC.1 hC.2.1 d_Mo_squareSign_138 rfl (lv_at hl 5 rfl) ?_
      refine z_get (ci := 5) (C := R_Mo) (T := F_Mo) (N := 21) (v := .ref qx) hC in_Mo hK hP 0 rfl rfl 13 (by decide) k_466 rfl d_Mo_squareSign_139 ?_
      refine z_bipush hC d_Mo_squareSign_142 (by decide) ?_
      refine lv_iload hC.1 hC.2.1 d_Mo_squareSign_144 (lv_at hl 0 rfl) ?_
      refine z_iadd hC d_Mo_squareSign_146 ?_
      refine z_topi (z := 41) (by omega) ?_
      refine lv_aload_n hC.1 hC.2.1 d_Mo_squareSign_147 rfl (lv_at hl 5 rfl) ?_
      refine z_get (ci := 5) (C := R_Mo) (T := F_Mo) (N := 21) (v := .ref qx) hC in_Mo hK hP 0 rfl rfl 13 (by decide) k_466 rfl d_Mo_squareSign_148 ?_
      refine z_bipush hC d_Mo_squareSign_151 (by decide) ?_
      refine lv_iload hC.1 hC.2.1 d_Mo_squareSign_153 (lv_at hl 1 rfl) ?_
      refine z_imul hC d_Mo_squareSign_155 ?_
      refine z_topi (z := 18) (by omega) ?_
      refine lv_iload hC.1 hC.2.1 d_Mo_squareSign_156 (lv_at hl 0 rfl) ?_
      refine z_iadd hC d_Mo_squareSign_158 ?_
      refine z_topi (z := 23) (by omega) ?_
      refine z_lald hC hK hP 1 rfl (by omega) d_Mo_squareSign_159 ?_
      refine z_topl (z := u7 23) (by rw [uZ_n (by omega), uZ_n (by omega), uZ_n (by omega), uZ_n (by omega), uZ_n (by omega)]) ?_
      refine z_last (ws' := [(o, .inr (5, [.int (iI cd), .int (iI z), .int (iI lv), .ref qT, .ref qC, .ref qF, .ref qY, .ref qZ, .ref qu, .ref qv, .ref qw, .ref qg, .ref qh, .ref qx, .ref qc, .ref qa, .ref qb, .ref qd, .int (iI fm), .ref qp, .ref qq])), (qx, eL t.2.1 54 (uZ (uZ (uZ (uZ (uZ (uZ u7 36 (u7 18)) 37 (u7 19)) 38 (u7 20)) 39 (u7 21)) 40 (u7 22)) 41 (u7 23)))]) hC hK hP hD hS 1 rfl (by omega) rfl d_Mo_squareSign_160 (fun H locs hP hD hS => ?_)
      refine lv_iinc (v := iI 6) (lv' := [(13, .int (iI 6)), (12, .int (iI 2)), (11, .int (iI (sgn ((L * (szZ (2 * p + q))) - (((szZ od) * (szZ od)) * 2))))), (10, .int (iI 0)), (8, .long (lI L)), (0, .ref o), (1, .long (lI od)), (3, .int (iI len)), (4, .long (lI p)), (6, .long (lI q))]) hC.1 hC.2.1 d_Mo_squareSign_161 hl (k := 0) rfl (z_inc (by omega)) (by decide) rfl (fun ls hl => ?_)
      refine z_goto (tgt := 131) hC d_Mo_squareSign_164 (by decide) ?_
      refine lv_iload hC.1 hC.2.1 d_Mo_squareSign_131 (lv_at hl 0 rfl) ?_
      refine z_bipush hC d_Mo_squareSign_133 (by decide) ?_
      refine z_icmp_ge (tgt := 167) hC d_Mo_squareSign_135 (by decide) (by decide) (by decide) (fun h => absurd h (by decide)) (fun _ => ?_)
      refine lv_aload_n hC.1 hC.2.1 d_Mo_squareSign_138 rfl (lv_at hl 5 rfl) ?_
      refine z_get (ci := 5) (C := R_Mo) (T := F_Mo) (N := 21) (v := .ref qx) hC in_Mo hK hP 0 rfl rfl 13 (by decide) k_466 rfl d_Mo_squareSign_139 ?_
      refine z_bipush hC d_Mo_squareSign_142 (by decide) ?_
      refine lv_iload hC.1 hC.2.1 d_Mo_squareSign_144 (lv_at hl 0 rfl) ?_
      refine z_iadd hC d_Mo_squareSign_146 ?_
      refine z_topi (z := 42) (by omega) ?_
      refine lv_aload_n hC.1 hC.2.1 d_Mo_squareSign_147 rfl (lv_at hl 5 rfl) ?_
      refine z_get (ci := 5) (C := R_Mo) (T := F_Mo) (N := 21) (v := .ref qx) hC in_Mo hK hP 0 rfl rfl 13 (by decide) k_466 rfl d_Mo_squareSign_148 ?_
      refine z_bipush hC d_Mo_squareSign_151 (by decide) ?_
      refine lv_iload hC.1 hC.2.1 d_Mo_squareSign_153 (lv_at hl 1 rfl) ?_
      refine z_imul hC d_Mo_squareSign_155 ?_
      refine z_topi (z := 18) (by omega) ?_
      refine lv_iload hC.1 hC.2.1 d_Mo_squareSign_156 (lv_at hl 0 rfl) ?_
      refine z_iadd hC d_Mo_squareSign_158 ?_
      refine z_topi (z := 24) (by omega) ?_
      refine z_lald hC hK hP 1 rfl (by omega) d_Mo_squareSign_159 ?_
      refine z_topl (z := u7 24) (by rw [uZ_n (by omega), uZ_n (by omega), uZ_n (by omega), uZ_n (by omega), uZ_n (by omega), uZ_n (by omega)]) ?_
      refine z_last (ws' := [(o, .inr (5, [.int (iI cd), .int (iI z), .int (iI lv), .ref qT, .ref qC, .ref qF, .ref qY, .ref qZ, .ref qu, .ref qv, .ref qw, .ref qg, .ref qh, .ref qx, .ref qc, .ref qa, .ref qb, .ref qd, .int (iI fm), .ref qp, .ref qq])), (qx, eL t.2.1 54 (uZ (uZ (uZ (uZ (uZ (uZ (uZ u7 36 (u7 18)) 37 (u7 19)) 38 (u7 20)) 39 (u7 21)) 40 (u7 22)) 41 (u7 23)) 42 (u7 24)))]) hC hK hP hD hS 1 rfl (by omega) rfl d_Mo_squareSign_160 (fun H locs hP hD hS => ?_)
      refine lv_iinc (v := iI 7) (lv' := [(13, .int (iI 7)), (12, .int (iI 2)), (11, .int (iI (sgn ((L * (szZ (2 * p + q))) - (((szZ od) * (szZ od)) * 2))))), (10, .int (iI 0)), (8, .long (lI L)), (0, .ref o), (1, .long (lI od)), (3, .int (iI len)), (4, .long (lI p)), (6, .long (lI q))]) hC.1 hC.2.1 d_Mo_squareSign_161 hl (k := 0) rfl (z_inc (by omega)) (by decide) rfl (fun ls hl => ?_)
      refine z_goto (tgt := 131) hC d_Mo_squareSign_164 (by decide) ?_
      refine lv_iload hC.1 hC.2.1 d_Mo_squareSign_131 (lv_at hl 0 rfl) ?_
      refine z_bipush hC d_Mo_squareSign_133 (by decide) ?_
      refine z_icmp_ge (tgt := 167) hC d_Mo_squareSign_135 (by decide) (by decide) (by decide) (fun h => absurd h (by decide)) (fun _ => ?_)
      refine lv_aload_n hC.1 hC.2.1 d_Mo_squareSign_138 rfl (lv_at hl 5 rfl) ?_
      refine z_get (ci := 5) (C := R_Mo) (T := F_Mo) (N := 21) (v := .ref qx) hC in_Mo hK hP 0 rfl rfl 13 (by decide) k_466 rfl d_Mo_squareSign_139 ?_
      refine z_bipush hC d_Mo_squareSign_142 (by decide) ?_
      refine lv_iload hC.1 hC.2.1 d_Mo_squareSign_144 (lv_at hl 0 rfl) ?_
      refine z_iadd hC d_Mo_squareSign_146 ?_
      refine z_topi (z := 43) (by omega) ?_
      refine lv_aload_n hC.1 hC.2.1 d_Mo_squareSign_147 rfl (lv_at hl 5 rfl) ?_
      refine z_get (ci := 5) (C := R_Mo) (T := F_Mo) (N := 21) (v := .ref qx) hC in_Mo hK hP 0 rfl rfl 13 (by decide) k_466 rfl d_Mo_squareSign_148 ?_
      refine z_bipush hC d_Mo_squareSign_151 (by decide) ?_
      refine lv_iload hC.1 hC.2.1 d_Mo_squareSign_153 (lv_at hl 1 rfl) ?_
      refine z_imul hC d_Mo_squareSign_155 ?_
      refine z_topi (z := 18) (by omega) ?_
      refine lv_iload hC.1 hC.2.1 d_Mo_squareSign_156 (lv_at hl 0 rfl) ?_
      refine z_iadd hC d_Mo_squareSign_158 ?_
      refine z_topi (z := 25) (by omega) ?_
      refine z_lald hC hK hP 1 rfl (by omega) d_Mo_squareSign_159 ?_
      refine z_topl (z := u7 25) (by rw [uZ_n (by omega), uZ_n (by omega), uZ_n (by omega), uZ_n (by omega), uZ_n (by omega), uZ_n (by omega), uZ_n (by omega)]) ?_
      refine z_last (ws' := [(o, .inr (5, [.int (iI cd), .int (iI z), .int (iI lv), .ref qT, .ref qC, .ref qF, .ref qY, .ref qZ, .ref qu, .ref qv, .ref qw, .ref qg, .ref qh, .ref qx, .ref qc, .ref qa, .ref qb, .ref qd, .int (iI fm), .ref qp, .ref qq])), (qx, eL t.2.1 54 (uZ (uZ (uZ (uZ (uZ (uZ (uZ (uZ u7 36 (u7 18)) 37 (u7 19)) 38 (u7 20)) 39 (u7 21)) 40 (u7 22)) 41 (u7 23)) 42 (u7 24)) 43 (u7 25)))]) hC hK hP hD hS 1 rfl (by omega) rfl d_Mo_squareSign_160 (fun H locs hP hD hS => ?_)
      refine lv_iinc (v := iI 8) (lv' := [(13, .int (iI 8)), (12, .int (iI 2)), (11, .int (iI (sgn ((L * (szZ (2 * p + q))) - (((szZ od) * (szZ od)) * 2))))), (10, .int (iI 0)), (8, .long (lI L)), (0, .ref o), (1, .long (lI od)), (3, .int (iI len)), (4, .long (lI p)), (6, .long (lI q))]) hC.1 hC.2.1 d_Mo_squareSign_161 hl (k := 0) rfl (z_inc (by omega)) (by decide) rfl (fun ls hl => ?_)
      refine z_goto (tgt := 131) hC d_Mo_squareSign_164 (by decide) ?_
      refine lv_iload hC.1 hC.2.1 d_Mo_squareSign_131 (lv_at hl 0 rfl) ?_
      refine z_bipush hC d_Mo_squareSign_133 (by decide) ?_
      refine z_icmp_ge (tgt := 167) hC d_Mo_squareSign_135 (by decide) (by decide) (by decide) (fun h => absurd h (by decide)) (fun _ => ?_)
      refine lv_aload_n hC.1 hC.2.1 d_Mo_squareSign_138 rfl (lv_at hl 5 rfl) ?_
      refine z_get (ci := 5) (C := R_Mo) (T := F_Mo) (N := 21) (v := .ref qx) hC in_Mo hK hP 0 rfl rfl 13 (by decide) k_466 rfl d_Mo_squareSign_139 ?_
      refine z_bipush hC d_Mo_squareSign_142 (by decide) ?_
      refine lv_iload hC.1 hC.2.1 d_Mo_squareSign_144 (lv_at hl 0 rfl) ?_
      refine z_iadd hC d_Mo_squareSign_146 ?_
      refine z_topi (z := 44) (by omega) ?_
      refine lv_aload_n hC.1 hC.2.1 d_Mo_squareSign_147 rfl (lv_at hl 5 rfl) ?_
      refine z_get (ci := 5) (C := R_Mo) (T := F_Mo) (N := 21) (v := .ref qx) hC in_Mo hK hP 0 rfl rfl 13 (by decide) k_466 rfl d_Mo_squareSign_148 ?_
      refine z_bipush hC d_Mo_squareSign_151 (by decide) ?_
      refine lv_iload hC.1 hC.2.1 d_Mo_squareSign_153 (lv_at hl 1 rfl) ?_
      refine z_imul hC d_Mo_squareSign_155 ?_
      refine z_topi (z := 18) (by omega) ?_
      refine lv_iload hC.1 hC.2.1 d_Mo_squareSign_156 (lv_at hl 0 rfl) ?_
      refine z_iadd hC d_Mo_squareSign_158 ?_
      refine z_topi (z := 26) (by omega) ?_
      refine z_lald hC hK hP 1 rfl (by omega) d_Mo_squareSign_159 ?_
      refine z_topl (z := u7 26) (by rw [uZ_n (by omega), uZ_n (by omega), uZ_n (by omega), uZ_n (by omega), uZ_n (by omega), uZ_n (by omega), uZ_n (by omega), uZ_n (by omega)]) ?_
      refine z_last (ws' := [(o, .inr (5, [.int (iI cd), .int (iI z), .int (iI lv), .ref qT, .ref qC, .ref qF, .ref qY, .ref qZ, .ref qu, .ref qv, .ref qw, .ref qg, .ref qh, .ref qx, .ref qc, .ref qa, .ref qb, .ref qd, .int (iI fm), .ref qp, .ref qq])), (qx, eL t.2.1 54 (uZ (uZ (uZ (uZ (uZ (uZ (uZ (uZ (uZ u7 36 (u7 18)) 37 (u7 19)) 38 (u7 20)) 39 (u7 21)) 40 (u7 22)) 41 (u7 23)) 42 (u7 24)) 43 (u7 25)) 44 (u7 26)))]) hC hK hP hD hS 1 rfl (by omega) rfl d_Mo_squareSign_160 (fun H locs hP hD hS => ?_)
      refine lv_iinc (v := iI 9) (lv' := [(13, .int (iI 9)), (12, .int (iI 2)), (11, .int (iI (sgn ((L * (szZ (2 * p + q))) - (((szZ od) * (szZ od)) * 2))))), (10, .int (iI 0)), (8, .long (lI L)), (0, .ref o), (1, .long (lI od)), (3, .int (iI len)), (4, .long (lI p)), (6, .long (lI q))]) hC.1 hC.2.1 d_Mo_squareSign_161 hl (k := 0) rfl (z_inc (by omega)) (by decide) rfl (fun ls hl => ?_)
      refine z_goto (tgt := 131) hC d_Mo_squareSign_164 (by decide) ?_
      refine lv_iload hC.1 hC.2.1 d_Mo_squareSign_131 (lv_at hl 0 rfl) ?_
      refine z_bipush hC d_Mo_squareSign_133 (by decide) ?_
      refine z_icmp_ge (tgt := 167) hC d_Mo_squareSign_135 (by decide) (by decide) (by decide) (fun _ => ?_) (fun h => absurd h (by decide))
      have cpq : ∀ i : Int, 0 ≤ i → i < 9 → (uZ (uZ (uZ (uZ (uZ (uZ (uZ (uZ (uZ u7 36 (u7 18)) 37 (u7 19)) 38 (u7 20)) 39 (u7 21)) 40 (u7 22)) 41 (u7 23)) 42 (u7 24)) 43 (u7 25)) 44 (u7 26)) (36 + i) = u7 (9 * 2 + i) := nine (uZ_nt (by omega) (uZ_nt (by omega) (uZ_nt (by omega) (uZ_nt (by omega) (uZ_nt (by omega) (uZ_nt (by omega) (uZ_nt (by omega) (uZ_nt (by omega) (uZ_et (by omega)))))))))) (uZ_nt (by omega) (uZ_nt (by omega) (uZ_nt (by omega) (uZ_nt (by omega) (uZ_nt (by omega) (uZ_nt (by omega) (uZ_nt (by omega) (uZ_et (by omega))))))))) (uZ_nt (by omega) (uZ_nt (by omega) (uZ_nt (by omega) (uZ_nt (by omega) (uZ_nt (by omega) (uZ_nt (by omega) (uZ_et (by omega)))))))) (uZ_nt (by omega) (uZ_nt (by omega) (uZ_nt (by omega) (uZ_nt (by omega) (uZ_nt (by omega) (uZ_et (by omega))))))) (uZ_nt (by omega) (uZ_nt (by omega) (uZ_nt (by omega) (uZ_nt (by omega) (uZ_et (by omega)))))) (uZ_nt (by omega) (uZ_nt (by omega) (uZ_nt (by omega) (uZ_et (by omega))))) (uZ_nt (by omega) (uZ_nt (by omega) (uZ_et (by omega)))) (uZ_nt (by omega) (uZ_et (by omega))) (uZ_et (by omega))
      have cpf : ∀ k, k < 9 * 4 ∨ 9 * 4 + 9 ≤ k → (uZ (uZ (uZ (uZ (uZ (uZ (uZ (uZ (uZ u7 36 (u7 18)) 37 (u7 19)) 38 (u7 20)) 39 (u7 21)) 40 (u7 22)) 41 (u7 23)) 42 (u7 24)) 43 (u7 25)) 44 (u7 26)) k = u7 k := fun k hk => (uZ_nt (by omega) (uZ_nt (by omega) (uZ_nt (by omega) (uZ_nt (by omega) (uZ_nt (by omega) (uZ_nt (by omega) (uZ_nt (by omega) (uZ_nt (by omega) (uZ_nt (by omega) rfl)))))))))
      obtain ⟨Wc, eWc⟩ : ∃ G : Int → Int, G = (uZ (uZ (uZ (uZ (uZ (uZ (uZ (uZ (uZ u7 36 (u7 18)) 37 (u7 19)) 38 (u7 20)) 39 (u7 21)) 40 (u7 22)) 41 (u7 23)) 42 (u7 24)) 43 (u7 25)) 44 (u7 26)) := ⟨_, rfl⟩
      rw [← eWc] at hP hD
      have b4_c : bk Wc (9 * 4) (L * (szZ (2 * p + q))) := by rw [eWc]; exact bk_cp b2_u7 cpq
      have b2_c : bk Wc (9 * 2) (L * (szZ (2 * p + q))) := by rw [eWc]; exact bk_keep b2_u7 cpf (by omega)
      have b3_c : bk Wc (9 * 3) ((szZ od) * (szZ od)) := by rw [eWc]; exact bk_keep b3_u7 cpf (by omega)
      have b0_c : bk Wc (9 * 0) 2 := by rw [eWc]; exact bk_keep b0_u7 cpf (by omega)
      have b1_c : bk Wc (9 * 1) (((szZ od) * (szZ od)) * 2) := by rw [eWc]; exact bk_keep b1_u7 cpf (by omega)
      have cge : (((szZ od) * (szZ od)) * 2) ≤ (L * (szZ (2 * p + q))) := by have q := h118; unfold sgn at q; (repeat' split at q) <;> omega
      obtain ⟨X4, eX4⟩ : ∃ z : Int, z = (L * (szZ (2 * p + q))) - (((szZ od) * (szZ od)) * 2) := ⟨_, rfl⟩
      have hX : XX = X4 ∧ 0 ≤ X4 ∧ X4 ≤ 210000000000000000000000000000 := by omega
      have szX : szZ XX = X4 := by unfold szZ; split <;> omega
      have n5 := Int.mul_nonneg (show 0 ≤ X4 by omega) (show 0 ≤ X4 by omega)
      have m5 := mul_bd (a := X4) (b := X4) (A := 210000000000000000000000000000) (B := 210000000000000000000000000000) (by omega) (by omega)
      refine lv_iload hC.1 hC.2.1 d_Mo_squareSign_167 (lv_at hl 3 rfl) ?_
      refine z_if_eq (tgt := 181) hC d_Mo_squareSign_169 (by decide) (by decide) (fun _ => ?_) (fun h => absurd h (by decide))
      refine lv_aload_n hC.1 hC.2.1 d_Mo_squareSign_181 rfl (lv_at hl 5 rfl) ?_
      refine z_iconst hC d_Mo_squareSign_182 ?_
      refine lv_iload hC.1 hC.2.1 d_Mo_squareSign_183 (lv_at hl 1 rfl) ?_
      refine z_iconst hC d_Mo_squareSign_185 ?_
      refine z_icmp_ne (tgt := 193) hC d_Mo_squareSign_186 (by decide) (by decide) (by decide) (fun h => absurd h (by decide)) (fun _ => ?_)
      refine z_iconst hC d_Mo_squareSign_189 ?_
      refine z_goto (tgt := 194) hC d_Mo_squareSign_190 (by decide) ?_
      refine z_mVv (As := [.int (iI 4), .int (iI 1)]) (rest := []) (wr := []) hC (c_Mo_lessen l D t ts o qT qC qF qY qZ qu qv qw qg qh qx qc qa qb qd qp qq cd z lv fm Wc 4 1 (L * (szZ (2 * p + q))) (((szZ od) * (szZ od)) * 2) X4 (by decide) (by decide) (by decide) b4_c b1_c (by omega) (by have := p9; omega) _) (cw_V hC k_759 k_761 kp_66 k_6 k_762 ye_Mo_lessen (by decide)) hP hD hK hE hS hA [0, 1] [] (by decide) rfl rfl (by decide) (by decide) 0 (ci := 5) rfl rfl rfl rfl hl.1 rfl (Nat.le_of_ble_eq_true rfl) ⟨Nat.le_of_ble_eq_true rfl, Nat.le_of_ble_eq_true rfl⟩ d_Mo_squareSign_194 (fun u32 H locs eu32 hP hD hS => ?_)
      have b2_u32 : bk u32 (9 * 2) (L * (szZ (2 * p + q))) := bk_keep b2_c eu32.2 (by omega)
      have b3_u32 : bk u32 (9 * 3) ((szZ od) * (szZ od)) := bk_keep b3_c eu32.2 (by omega)
      have b0_u32 : bk u32 (9 * 0) 2 := bk_keep b0_c eu32.2 (by omega)
      have b1_u32 : bk u32 (9 * 1) (((szZ od) * (szZ od)) * 2) := bk_keep b1_c eu32.2 (by omega)
      have b4_u32 : bk u32 (9 * 4) X4 := eu32.1
      have hP : va_P D classes [(o, .inr (5, [.int (iI cd), .int (iI z), .int (iI lv), .ref qT, .ref qC, .ref qF, .ref qY, .ref qZ, .ref qu, .ref qv, .ref qw, .ref qg, .ref qh, .ref qx, .ref qc, .ref qa, .ref qb, .ref qd, .int (iI fm), .ref qp, .ref qq])), (qx, eL t.2.1 54 u32)] H := hP
      have hD : va_D A [(o, .inr (5, [.int (iI cd), .int (iI z), .int (iI lv), .ref qT, .ref qC, .ref qF, .ref qY, .ref qZ, .ref qu, .ref qv, .ref qw, .ref qg, .ref qh, .ref qx, .ref qc, .ref qa, .ref qb, .ref qd, .int (iI fm), .ref qp, .ref qq])), (qx, eL t.2.1 54 u32)] := hD
      refine lv_aload_n hC.1 hC.2.1 d_Mo_squareSign_197 rfl (lv_at hl 5 rfl) ?_
      refine z_iconst hC d_Mo_squareSign_198 ?_
      refine lv_lload hC.1 hC.2.1 d_Mo_squareSign_199 (lv_at hl 4 rfl) ?_
      refine z_mVv (As := [.int (iI 0), .long (lI L)]) (rest := []) (wr := []) hC (c_Mo_be l D t ts o qT qC qF qY qZ qu qv qw qg qh qx qc qa qb qd qp qq cd z lv fm u32 0 L (by decide) (by omega) _) (cw_V hC k_585 k_587 kp_34 k_6 k_588 ye_Mo_be (by decide)) hP hD hK hE hS hA [0, 1] [] (by decide) rfl rfl (by decide) (by decide) 0 (ci := 5) rfl rfl rfl rfl hl.1 rfl (Nat.le_of_ble_eq_true rfl) ⟨Nat.le_of_ble_eq_true rfl, Nat.le_of_ble_eq_true rfl⟩ d_Mo_squareSign_201 (fun u33 H locs eu33 hP hD hS => ?_)
      have b2_u33 : bk u33 (9 * 2) (L * (szZ (2 * p + q))) := bk_keep b2_u32 eu33.2 (by omega)
      have b3_u33 : bk u33 (9 * 3) ((szZ od) * (szZ od)) := bk_keep b3_u32 eu33.2 (by omega)
      have b1_u33 : bk u33 (9 * 1) (((szZ od) * (szZ od)) * 2) := bk_keep b1_u32 eu33.2 (by omega)
      have b4_u33 : bk u33 (9 * 4) X4 := bk_keep b4_u32 eu33.2 (by omega)
      have b0_u33 : bk u33 (9 * 0) L := eu33.1
      have hP : va_P D classes [(o, .inr (5, [.int (iI cd), .int (iI z), .int (iI lv), .ref qT, .ref qC, .ref qF, .ref qY, .ref qZ, .ref qu, .ref qv, .ref qw, .ref qg, .ref qh, .ref qx, .ref qc, .ref qa, .ref qb, .ref qd, .int (iI fm), .ref qp, .ref qq])), (qx, eL t.2.1 54 u33)] H := hP
      have hD : va_D A [(o, .inr (5, [.int (iI cd), .int (iI z), .int (iI lv), .ref qT, .ref qC, .ref qF, .ref qY, .ref qZ, .ref qu, .ref qv, .ref qw, .ref qg, .ref qh, .ref qx, .ref qc, .ref qa, .ref qb, .ref qd, .int (iI fm), .ref qp, .ref qq])), (qx, eL t.2.1 54 u33)] := hD
      refine lv_aload_n hC.1 hC.2.1 d_Mo_squareSign_204 rfl (lv_at hl 5 rfl) ?_
      refine z_iconst hC d_Mo_squareSign_205 ?_
      refine lv_lload hC.1 hC.2.1 d_Mo_squareSign_206 (lv_at hl 9 rfl) ?_
      refine z_roSl (As := [.long (lI q)]) (rest := [.int (iI 1), .ref o]) hC (c_Mo_size l D t ts q (by omega)) (cw_S hC k_552 k_553 k_6 k_554 ye_Mo_size (by decide)) hP hK hE hS [] rfl rfl hl.1 rfl (Nat.le_of_ble_eq_true rfl) ⟨Nat.le_of_ble_eq_true rfl, Nat.le_of_ble_eq_true rfl⟩ d_Mo_squareSign_208 ?_
      refine z_mVv (As := [.int (iI 1), .long (lI (szZ q))]) (rest := []) (wr := []) hC (c_Mo_be l D t ts o qT qC qF qY qZ qu qv qw qg qh qx qc qa qb qd qp qq cd z lv fm u33 1 (szZ q) (by decide) (by have := szZ_in (x := q) (by omega); omega) _) (cw_V hC k_585 k_587 kp_34 k_6 k_588 ye_Mo_be (by decide)) hP hD hK hE hS hA [0, 1] [] (by decide) rfl rfl (by decide) (by decide) 0 (ci := 5) rfl rfl rfl rfl hl.1 rfl (Nat.le_of_ble_eq_true rfl) ⟨Nat.le_of_ble_eq_true rfl, Nat.le_of_ble_eq_true rfl⟩ d_Mo_squareSign_211 (fun u34 H locs eu34 hP hD hS => ?_)
      have b2_u34 : bk u34 (9 * 2) (L * (szZ (2 * p + q))) := bk_keep b2_u33 eu34.2 (by omega)
      have b3_u34 : bk u34 (9 * 3) ((szZ od) * (szZ od)) := bk_keep b3_u33 eu34.2 (by omega)
      have b4_u34 : bk u34 (9 * 4) X4 := bk_keep b4_u33 eu34.2 (by omega)
      have b0_u34 : bk u34 (9 * 0) L := bk_keep b0_u33 eu34.2 (by omega)
      have b1_u34 : bk u34 (9 * 1) (szZ q) := eu34.1
      have hP : va_P D classes [(o, .inr (5, [.int (iI cd), .int (iI z), .int (iI lv), .ref qT, .ref qC, .ref qF, .ref qY, .ref qZ, .ref qu, .ref qv, .ref qw, .ref qg, .ref qh, .ref qx, .ref qc, .ref qa, .ref qb, .ref qd, .int (iI fm), .ref qp, .ref qq])), (qx, eL t.2.1 54 u34)] H := hP
      have hD : va_D A [(o, .inr (5, [.int (iI cd), .int (iI z), .int (iI lv), .ref qT, .ref qC, .ref qF, .ref qY, .ref qZ, .ref qu, .ref qv, .ref qw, .ref qg, .ref qh, .ref qx, .ref qc, .ref qa, .ref qb, .ref qd, .int (iI fm), .ref qp, .ref qq])), (qx, eL t.2.1 54 u34)] := hD
      refine lv_aload_n hC.1 hC.2.1 d_Mo_squareSign_214 rfl (lv_at hl 5 rfl) ?_
      refine z_iconst hC d_Mo_squareSign_215 ?_
      refine z_iconst hC d_Mo_squareSign_216 ?_
      refine z_iconst hC d_Mo_squareSign_217 ?_
      refine z_mVv (As := [.int (iI 2), .int (iI 0), .int (iI 1)]) (rest := []) (wr := []) hC (c_Mo_product l D t ts o qT qC qF qY qZ qu qv qw qg qh qx qc qa qb qd qp qq cd z lv fm u34 2 0 1 L (szZ q) (by decide) (by decide) (by decide) (by decide) (by decide) b0_u34 b1_u34 (by omega) (by omega) (by have := p9; have := mul_bd (a := L) (b := szZ q) (A := 100000000000000) (B := 100000000000000) (by omega) (by omega); omega) _) (cw_V hC k_590 k_592 kp_35 k_6 k_593 ye_Mo_product (by decide)) hP hD hK hE hS hA [0, 1] [] (by decide) rfl rfl (by decide) (by decide) 0 (ci := 5) rfl rfl rfl rfl hl.1 rfl (Nat.le_of_ble_eq_true rfl) ⟨Nat.le_of_ble_eq_true rfl, Nat.le_of_ble_eq_true rfl⟩ d_Mo_squareSign_218 (fun u35 H locs eu35 hP hD hS => ?_)
      have b3_u35 : bk u35 (9 * 3) ((szZ od) * (szZ od)) := bk_keep b3_u34 eu35.2 (by omega)
      have b4_u35 : bk u35 (9 * 4) X4 := bk_keep b4_u34 eu35.2 (by omega)
      have b0_u35 : bk u35 (9 * 0) L := bk_keep b0_u34 eu35.2 (by omega)
      have b1_u35 : bk u35 (9 * 1) (szZ q) := bk_keep b1_u34 eu35.2 (by omega)
      have b2_u35 : bk u35 (9 * 2) (L * (szZ q)) := eu35.1
      have hP : va_P D classes [(o, .inr (5, [.int (iI cd), .int (iI z), .int (iI lv), .ref qT, .ref qC, .ref qF, .ref qY, .ref qZ, .ref qu, .ref qv, .ref qw, .ref qg, .ref qh, .ref qx, .ref qc, .ref qa, .ref qb, .ref qd, .int (iI fm), .ref qp, .ref qq])), (qx, eL t.2.1 54 u35)] H := hP
      have hD : va_D A [(o, .inr (5, [.int (iI cd), .int (iI z), .int (iI lv), .ref qT, .ref qC, .ref qF, .ref qY, .ref qZ, .ref qu, .ref qv, .ref qw, .ref qg, .ref qh, .ref qx, .ref qc, .ref qa, .ref qb, .ref qd, .int (iI fm), .ref qp, .ref qq])), (qx, eL t.2.1 54 u35)] := hD
      refine z_iconst hC d_Mo_squareSign_221 ?_
      refine lv_istore (lv' := [(13, .int (iI 1)), (12, .int (iI 2)), (11, .int (iI (sgn ((L * (szZ (2 * p + q))) - (((szZ od) * (szZ od)) * 2))))), (10, .int (iI 0)), (8, .long (lI L)), (0, .ref o), (1, .long (lI od)), (3, .int (iI len)), (4, .long (lI p)), (6, .long (lI q))]) hC.1 hC.2.1 d_Mo_squareSign_222 hl (by decide) rfl (fun ls hl => ?_)
      refine z_iconst hC d_Mo_squareSign_224 ?_
      refine lv_istore (lv' := [(14, .int (iI 0)), (13, .int (iI 1)), (12, .int (iI 2)), (11, .int (iI (sgn ((L * (szZ (2 * p + q))) - (((szZ od) * (szZ od)) * 2))))), (10, .int (iI 0)), (8, .long (lI L)), (0, .ref o), (1, .long (lI od)), (3, .int (iI len)), (4, .long (lI p)), (6, .long (lI q))]) hC.1 hC.2.1 d_Mo_squareSign_225 hl (by decide) rfl (fun ls hl => ?_)
      have L227 : ∀ (fu : Nat) (no : Bool) (i : Int) (H : Heap) (locs : List Loc) (ls : Array Slot), 9 - i + 1 ≤ (fu : Int) → (0 ≤ i ∧ i ≤ 9) → (no = !anyZ i.toNat (fun m => decide (¬ u35 (m + 36) = 0))) → va_P D classes [(o, .inr (5, [.int (iI cd), .int (iI z), .int (iI lv), .ref qT, .ref qC, .ref qF, .ref qY, .ref qZ, .ref qu, .ref qv, .ref qw, .ref qg, .ref qh, .ref qx, .ref qc, .ref qa, .ref qb, .ref qd, .int (iI fm), .ref qp, .ref qq])), (qx, eL t.2.1 54 u35)] H → va_D A [(o, .inr (5, [.int (iI cd), .int (iI z), .int (iI lv), .ref qT, .ref qC, .ref qF, .ref qY, .ref qZ, .ref qu, .ref qv, .ref qw, .ref qg, .ref qh, .ref qx, .ref qc, .ref qa, .ref qb, .ref qd, .int (iI fm), .ref qp, .ref qq])), (qx, eL t.2.1 54 u35)] → va_S A zs.heap H locs → lv_has ls 16 [(14, .int (iI i)), (13, .int (iI (zB no))), (12, .int (iI 2)), (11, .int (iI (sgn ((L * (szZ (2 * p + q))) - (((szZ od) * (szZ od)) * 2))))), (10, .int (iI 0)), (8, .long (lI L)), (0, .ref o), (1, .long (lI od)), (3, .int (iI len)), (4, .long (lI p)), (6, .long (lI q))] → W zp l ze rm_Mo_squareSign zs zm [.ref o, .long (lI od), .int (iI len), .long (lI p), .long (lI q)].toArray zb zt zc H locs 0 0 zQ (F0 zm 227 ls []) := by
        intro fu
        induction fu with
        | zero =>
          intro no i H locs ls hm227 hi eno hP hD hS hl
          exact absurd hm227 (by omega)
        | succ fu ih227 =>
          intro no i H locs ls hm227 hi eno hP hD hS hl
          refine lv_iload hC.1 hC.2.1 d_Mo_squareSign_227 (lv_at hl 0 rfl) ?_
          refine z_bipush hC d_Mo_squareSign_229 (by decide) ?_
          refine z_icmp_ge (tgt := 267) hC d_Mo_squareSign_231 (by decide) (by omega) (by decide) (fun h231 => ?_) (fun h231 => ?_)
          · have hno : no = decide (X4 = 0) := by rw [eno, show i = 9 by omega]; exact bk_none b4_u35
            have fx : 0 ≤ XX ∧ XX ≤ 0 ∨ ¬ X4 = 0 := by omega
            refine lv_iload hC.1 hC.2.1 d_Mo_squareSign_267 (lv_at hl 1 rfl) ?_
            refine z_if_eqB (tgt := 276) hC d_Mo_squareSign_269 (by decide) (fun h269 => ?_) (fun h269 => ?_)
            · have hn9 : ¬ X4 = 0 := by rw [h269] at hno; simpa using hno
              have c11 : (0 < sgn ((L * (szZ (2 * p + q))) - (((szZ od) * (szZ od)) * 2)) ↔ 0 < XX) ∧ (sgn ((L * (szZ (2 * p + q))) - (((szZ od) * (szZ od)) * 2)) ≤ 0 ↔ XX ≤ 0) := by rw [sgn_gt, sgn_le]; omega
              have c11i : -1 ≤ sgn ((L * (szZ (2 * p + q))) - (((szZ od) * (szZ od)) * 2)) ∧ sgn ((L * (szZ (2 * p + q))) - (((szZ od) * (szZ od)) * 2)) ≤ 1 := sgn_in _
              refine lv_iload hC.1 hC.2.1 d_Mo_squareSign_276 (lv_at hl 3 rfl) ?_
              refine lv_istore (lv' := [(14, .int (iI (sgn ((L * (szZ (2 * p + q))) - (((szZ od) * (szZ od)) * 2))))), (13, .int (iI (zB no))), (12, .int (iI 2)), (11, .int (iI (sgn ((L * (szZ (2 * p + q))) - (((szZ od) * (szZ od)) * 2))))), (10, .int (iI 0)), (8, .long (lI L)), (0, .ref o), (1, .long (lI od)), (3, .int (iI len)), (4, .long (lI p)), (6, .long (lI q))]) hC.1 hC.2.1 d_Mo_squareSign_278 hl (by decide) rfl (fun ls hl => ?_)
              refine lv_lload hC.1 hC.2.1 d_Mo_squareSign_280 (lv_at hl 10 rfl) ?_
              refine z_lconst (v := 0) hC d_Mo_squareSign_282 (by decide) ?_
              refine z_lcmp_ge (tgt := 291) hC d_Mo_squareSign_283 d_Mo_squareSign_284 (by decide) (by omega) (by decide) (fun h283 => ?_) (fun h283 => ?_)
              · refine lv_lload hC.1 hC.2.1 d_Mo_squareSign_291 (lv_at hl 10 rfl) ?_
                refine z_lconst (v := 0) hC d_Mo_squareSign_293 (by decide) ?_
                refine z_lcmp_le (tgt := 302) hC d_Mo_squareSign_294 d_Mo_squareSign_295 (by decide) (by omega) (by decide) (fun h294 => ?_) (fun h294 => ?_)
                · refine z_iconst hC d_Mo_squareSign_302 ?_
                  refine lv_istore (lv' := [(15, .int (iI 0)), (14, .int (iI (sgn ((L * (szZ (2 * p + q))) - (((szZ od) * (szZ od)) * 2))))), (13, .int (iI (zB no))), (12, .int (iI 2)), (11, .int (iI (sgn ((L * (szZ (2 * p + q))) - (((szZ od) * (szZ od)) * 2))))), (10, .int (iI 0)), (8, .long (lI L)), (0, .ref o), (1, .long (lI od)), (3, .int (iI len)), (4, .long (lI p)), (6, .long (lI q))]) hC.1 hC.2.1 d_Mo_squareSign_303 hl (by decide) rfl (fun ls hl => ?_)
                  refine lv_iload hC.1 hC.2.1 d_Mo_squareSign_305 (lv_at hl 1 rfl) ?_
                  refine z_if_lt (tgt := 331) hC d_Mo_squareSign_307 (by decide) (by have := sgn_in ((L * (szZ (2 * p + q))) - (((szZ od) * (szZ od)) * 2)); omega) (fun h307 => ?_) (fun h307 => ?_)
                  · refine lv_iload hC.1 hC.2.1 d_Mo_squareSign_331 (lv_at hl 1 rfl) ?_
                    refine z_if_gt (tgt := 343) hC d_Mo_squareSign_333 (by decide) (by have := sgn_in ((L * (szZ (2 * p + q))) - (((szZ od) * (szZ od)) * 2)); omega) (fun h333 => ?_) (fun h333 => ?_)
                    · refine lv_aload_n hC.1 hC.2.1 d_Mo_squareSign_343 rfl (lv_at hl 7 rfl) ?_
                      refine z_iconst hC d_Mo_squareSign_344 ?_
                      refine z_iconst hC d_Mo_squareSign_345 ?_
                      refine z_iconst hC d_Mo_squareSign_346 ?_
                      refine z_mVv (As := [.int (iI 5), .int (iI 4), .int (iI 4)]) (rest := []) (wr := []) hC (c_Mo_product l D t ts o qT qC qF qY qZ qu qv qw qg qh qx qc qa qb qd qp qq cd z lv fm u35 5 4 4 X4 X4 (by decide) (by decide) (by decide) (by decide) (by decide) b4_u35 b4_u35 (by omega) (by omega) (by have := p9; have := mul_bd (a := X4) (b := X4) (A := 210000000000000000000000000000) (B := 210000000000000000000000000000) (by omega) (by omega); omega) _) (cw_V hC k_590 k_592 kp_35 k_6 k_593 ye_Mo_product (by decide)) hP hD hK hE hS hA [0, 1] [] (by decide) rfl rfl (by decide) (by decide) 0 (ci := 5) rfl rfl rfl rfl hl.1 rfl (Nat.le_of_ble_eq_true rfl) ⟨Nat.le_of_ble_eq_true rfl, Nat.le_of_ble_eq_true rfl⟩ d_Mo_squareSign_347 (fun u36 H locs eu36 hP hD hS => ?_)
                      have b3_u36 : bk u36 (9 * 3) ((szZ od) * (szZ od)) := bk_keep b3_u35 eu36.2 (by omega)
                      have b4_u36 : bk u36 (9 * 4) X4 := bk_keep b4_u35 eu36.2 (by omega)
                      have b0_u36 : bk u36 (9 * 0) L := bk_keep b0_u35 eu36.2 (by omega)
                      have b1_u36 : bk u36 (9 * 1) (szZ q) := bk_keep b1_u35 eu36.2 (by omega)
                      have b2_u36 : bk u36 (9 * 2) (L * (szZ q)) := bk_keep b2_u35 eu36.2 (by omega)
                      have b5_u36 : bk u36 (9 * 5) (X4 * X4) := eu36.1
                      have hP : va_P D classes [(o, .inr (5, [.int (iI cd), .int (iI z), .int (iI lv), .ref qT, .ref qC, .ref qF, .ref qY, .ref qZ, .ref qu, .ref qv, .ref qw, .ref qg, .ref qh, .ref qx, .ref qc, .ref qa, .ref qb, .ref qd, .int (iI fm), .ref qp, .ref qq])), (qx, eL t.2.1 54 u36)] H := hP
                      have hD : va_D A [(o, .inr (5, [.int (iI cd), .int (iI z), .int (iI lv), .ref qT, .ref qC, .ref qF, .ref qY, .ref qZ, .ref qu, .ref qv, .ref qw, .ref qg, .ref qh, .ref qx, .ref qc, .ref qa, .ref qb, .ref qd, .int (iI fm), .ref qp, .ref qq])), (qx, eL t.2.1 54 u36)] := hD
                      refine lv_aload_n hC.1 hC.2.1 d_Mo_squareSign_350 rfl (lv_at hl 7 rfl) ?_
                      refine z_iconst hC d_Mo_squareSign_351 ?_
                      refine z_iconst hC d_Mo_squareSign_352 ?_
                      refine z_iconst hC d_Mo_squareSign_353 ?_
                      refine z_mVv (As := [.int (iI 3), .int (iI 2), .int (iI 2)]) (rest := []) (wr := []) hC (c_Mo_product l D t ts o qT qC qF qY qZ qu qv qw qg qh qx qc qa qb qd qp qq cd z lv fm u36 3 2 2 (L * (szZ q)) (L * (szZ q)) (by decide) (by decide) (by decide) (by decide) (by decide) b2_u36 b2_u36 (by omega) (by omega) (by have := p9; have := mul_bd (a := L * (szZ q)) (b := L * (szZ q)) (A := 10000000000000000000000000000) (B := 10000000000000000000000000000) (by omega) (by omega); omega) _) (cw_V hC k_590 k_592 kp_35 k_6 k_593 ye_Mo_product (by decide)) hP hD hK hE hS hA [0, 1] [] (by decide) rfl rfl (by decide) (by decide) 0 (ci := 5) rfl rfl rfl rfl hl.1 rfl (Nat.le_of_ble_eq_true rfl) ⟨Nat.le_of_ble_eq_true rfl, Nat.le_of_ble_eq_true rfl⟩ d_Mo_squareSign_354 (fun u37 H locs eu37 hP hD hS => ?_)
                      have b4_u37 : bk u37 (9 * 4) X4 := bk_keep b4_u36 eu37.2 (by omega)
                      have b0_u37 : bk u37 (9 * 0) L := bk_keep b0_u36 eu37.2 (by omega)
                      have b1_u37 : bk u37 (9 * 1) (szZ q) := bk_keep b1_u36 eu37.2 (by omega)
                      have b2_u37 : bk u37 (9 * 2) (L * (szZ q)) := bk_keep b2_u36 eu37.2 (by omega)
                      have b5_u37 : bk u37 (9 * 5) (X4 * X4) := bk_keep b5_u36 eu37.2 (by omega)
                      have b3_u37 : bk u37 (9 * 3) ((L * (szZ q)) * (L * (szZ q))) := eu37.1
                      have hP : va_P D classes [(o, .inr (5, [.int (iI cd), .int (iI z), .int (iI lv), .ref qT, .ref qC, .ref qF, .ref qY, .ref qZ, .ref qu, .ref qv, .ref qw, .ref qg, .ref qh, .ref qx, .ref qc, .ref qa, .ref qb, .ref qd, .int (iI fm), .ref qp, .ref qq])), (qx, eL t.2.1 54 u37)] H := hP
                      have hD : va_D A [(o, .inr (5, [.int (iI cd), .int (iI z), .int (iI lv), .ref qT, .ref qC, .ref qF, .ref qY, .ref qZ, .ref qu, .ref qv, .ref qw, .ref qg, .ref qh, .ref qx, .ref qc, .ref qa, .ref qb, .ref qd, .int (iI fm), .ref qp, .ref qq])), (qx, eL t.2.1 54 u37)] := hD
                      refine lv_aload_n hC.1 hC.2.1 d_Mo_squareSign_357 rfl (lv_at hl 7 rfl) ?_
                      refine z_iconst hC d_Mo_squareSign_358 ?_
                      refine z_ldc2 hC k_594 d_Mo_squareSign_359 ?_
                      refine z_mVv (As := [.int (iI 0), .long (lI 5)]) (rest := []) (wr := []) hC (c_Mo_be l D t ts o qT qC qF qY qZ qu qv qw qg qh qx qc qa qb qd qp qq cd z lv fm u37 0 5 (by decide) (by decide) _) (cw_V hC k_585 k_587 kp_34 k_6 k_588 ye_Mo_be (by decide)) hP hD hK hE hS hA [0, 1] [] (by decide) rfl rfl (by decide) (by decide) 0 (ci := 5) rfl rfl rfl rfl hl.1 rfl (Nat.le_of_ble_eq_true rfl) ⟨Nat.le_of_ble_eq_true rfl, Nat.le_of_ble_eq_true rfl⟩ d_Mo_squareSign_362 (fun u38 H locs eu38 hP hD hS => ?_)
                      have b4_u38 : bk u38 (9 * 4) X4 := bk_keep b4_u37 eu38.2 (by omega)
                      have b1_u38 : bk u38 (9 * 1) (szZ q) := bk_keep b1_u37 eu38.2 (by omega)
                      have b2_u38 : bk u38 (9 * 2) (L * (szZ q)) := bk_keep b2_u37 eu38.2 (by omega)
                      have b5_u38 : bk u38 (9 * 5) (X4 * X4) := bk_keep b5_u37 eu38.2 (by omega)
                      have b3_u38 : bk u38 (9 * 3) ((L * (szZ q)) * (L * (szZ q))) := bk_keep b3_u37 eu38.2 (by omega)
                      have b0_u38 : bk u38 (9 * 0) 5 := eu38.1
                      have hP : va_P D classes [(o, .inr (5, [.int (iI cd), .int (iI z), .int (iI lv), .ref qT, .ref qC, .ref qF, .ref qY, .ref qZ, .ref qu, .ref qv, .ref qw, .ref qg, .ref qh, .ref qx, .ref qc, .ref qa, .ref qb, .ref qd, .int (iI fm), .ref qp, .ref qq])), (qx, eL t.2.1 54 u38)] H := hP
                      have hD : va_D A [(o, .inr (5, [.int (iI cd), .int (iI z), .int (iI lv), .ref qT, .ref qC, .ref qF, .ref qY, .ref qZ, .ref qu, .ref qv, .ref qw, .ref qg, .ref qh, .ref qx, .ref qc, .ref qa, .ref qb, .ref qd, .int (iI fm), .ref qp, .ref qq])), (qx, eL t.2.1 54 u38)] := hD
                      refine lv_aload_n hC.1 hC.2.1 d_Mo_squareSign_365 rfl (lv_at hl 7 rfl) ?_
                      refine z_iconst hC d_Mo_squareSign_366 ?_
                      refine z_iconst hC d_Mo_squareSign_367 ?_
                      refine z_iconst hC d_Mo_squareSign_368 ?_
                      refine z_mVv (As := [.int (iI 1), .int (iI 3), .int (iI 0)]) (rest := []) (wr := []) hC (c_Mo_product l D t ts o qT qC qF qY qZ qu qv qw qg qh qx qc qa qb qd qp qq cd z lv fm u38 1 3 0 ((L * (szZ q)) * (L * (szZ q))) 5 (by decide) (by decide) (by decide) (by decide) (by decide) b3_u38 b0_u38 (by omega) (by omega) (by have := p9; omega) _) (cw_V hC k_590 k_592 kp_35 k_6 k_593 ye_Mo_product (by decide)) hP hD hK hE hS hA [0, 1] [] (by decide) rfl rfl (by decide) (by decide) 0 (ci := 5) rfl rfl rfl rfl hl.1 rfl (Nat.le_of_ble_eq_true rfl) ⟨Nat.le_of_ble_eq_true rfl, Nat.le_of_ble_eq_true rfl⟩ d_Mo_squareSign_369 (fun u39 H locs eu39 hP hD hS => ?_)
                      have b4_u39 : bk u39 (9 * 4) X4 := bk_keep b4_u38 eu39.2 (by omega)
                      have b2_u39 : bk u39 (9 * 2) (L * (szZ q)) := bk_keep b2_u38 eu39.2 (by omega)
                      have b5_u39 : bk u39 (9 * 5) (X4 * X4) := bk_keep b5_u38 eu39.2 (by omega)
                      have b3_u39 : bk u39 (9 * 3) ((L * (szZ q)) * (L * (szZ q))) := bk_keep b3_u38 eu39.2 (by omega)
                      have b0_u39 : bk u39 (9 * 0) 5 := bk_keep b0_u38 eu39.2 (by omega)
                      have b1_u39 : bk u39 (9 * 1) (((L * (szZ q)) * (L * (szZ q))) * 5) := eu39.1
                      have hP : va_P D classes [(o, .inr (5, [.int (iI cd), .int (iI z), .int (iI lv), .ref qT, .ref qC, .ref qF, .ref qY, .ref qZ, .ref qu, .ref qv, .ref qw, .ref qg, .ref qh, .ref qx, .ref qc, .ref qa, .ref qb, .ref qd, .int (iI fm), .ref qp, .ref qq])), (qx, eL t.2.1 54 u39)] H := hP
                      have hD : va_D A [(o, .inr (5, [.int (iI cd), .int (iI z), .int (iI lv), .ref qT, .ref qC, .ref qF, .ref qY, .ref qZ, .ref qu, .ref qv, .ref qw, .ref qg, .ref qh, .ref qx, .ref qc, .ref qa, .ref qb, .ref qd, .int (iI fm), .ref qp, .ref qq])), (qx, eL t.2.1 54 u39)] := hD
                      refine lv_aload_n hC.1 hC.2.1 d_Mo_squareSign_372 rfl (lv_at hl 7 rfl) ?_
                      refine z_iconst hC d_Mo_squareSign_373 ?_
                      refine z_iconst hC d_Mo_squareSign_374 ?_
                      refine z_roVi (As := [.int (iI 5), .int (iI 1)]) (rest := []) hC (c_Mo_compare l D t ts o qT qC qF qY qZ qu qv qw qg qh qx qc qa qb qd qp qq cd z lv fm u39 5 1 (X4 * X4) (((L * (szZ q)) * (L * (szZ q))) * 5) (by decide) (by decide) b5_u39 b1_u39) (cw_V hC k_595 k_597 kp_36 k_6 k_598 ye_Mo_compare (by decide)) hP hK hE hS [0, 1] rfl 0 (ci := 5) rfl rfl rfl rfl hl.1 rfl (Nat.le_of_ble_eq_true rfl) ⟨Nat.le_of_ble_eq_true rfl, Nat.le_of_ble_eq_true rfl⟩ d_Mo_squareSign_375 ?_
                      have h378s := sgn_in (X4 * X4 - (L * szZ q) * (L * szZ q) * 5)
                      refine z_if_le (tgt := 385) hC d_Mo_squareSign_378 (by decide) (by have := sgn_in ((X4 * X4) - (((L * (szZ q)) * (L * (szZ q))) * 5)); omega) (fun h378 => ?_) (fun h378 => ?_)
                      · refine z_iconst hC d_Mo_squareSign_385 ?_
                        refine lv_iload hC.1 hC.2.1 d_Mo_squareSign_386 (lv_at hl 1 rfl) ?_
                        refine z_if_le (tgt := 395) hC d_Mo_squareSign_388 (by decide) (by have := sgn_in ((L * (szZ (2 * p + q))) - (((szZ od) * (szZ od)) * 2)); omega) (fun h388 => ?_) (fun h388 => ?_)
                        · refine z_iconst hC d_Mo_squareSign_395 ?_
                          refine z_icmp_ne (tgt := 403) hC d_Mo_squareSign_396 (by decide) (by decide) (by decide) (fun h => absurd h (by decide)) (fun _ => ?_)
                          refine z_iconst hC d_Mo_squareSign_399 ?_
                          refine z_goto (tgt := 404) hC d_Mo_squareSign_400 (by decide) ?_
                          have hP9 := hP.sub (ws' := [(o, .inr (5, [.int (iI cd), .int (iI z), .int (iI lv), .ref qT, .ref qC, .ref qF, .ref qY, .ref qZ, .ref qu, .ref qv, .ref qw, .ref qg, .ref qh, .ref qx, .ref qc, .ref qa, .ref qb, .ref qd, .int (iI fm), .ref qp, .ref qq])), (qx, eL t.2.1 54 u39)]) [0, 1] rfl
                          have hD9 := hD.sub (ws' := [(o, .inr (5, [.int (iI cd), .int (iI z), .int (iI lv), .ref qT, .ref qC, .ref qF, .ref qY, .ref qZ, .ref qu, .ref qv, .ref qw, .ref qg, .ref qh, .ref qx, .ref qc, .ref qa, .ref qb, .ref qd, .int (iI fm), .ref qp, .ref qq])), (qx, eL t.2.1 54 u39)]) [0, 1] (by decide) rfl
                          exact retv (1, u39) _ _ 404 _ _ d_Mo_squareSign_404 ⟨rfl, (by show 1 = _; rw [eV]; unfold rsZ; rw [if_neg (by omega), if_neg (by omega), if_pos (by rw [szX, q4]; (first | rw [sgn_gt] at h378 | rw [sgn_le] at h378); simp; omega)])⟩ hP9 hD9 hS
                        · refine z_iconst hC d_Mo_squareSign_391 ?_
                          refine z_goto (tgt := 396) hC d_Mo_squareSign_392 (by decide) ?_
                          refine z_icmp_ne (tgt := 403) hC d_Mo_squareSign_396 (by decide) (by decide) (by decide) (fun _ => ?_) (fun h => absurd h (by decide))
                          refine z_iconst hC d_Mo_squareSign_403 ?_
                          have hP9 := hP.sub (ws' := [(o, .inr (5, [.int (iI cd), .int (iI z), .int (iI lv), .ref qT, .ref qC, .ref qF, .ref qY, .ref qZ, .ref qu, .ref qv, .ref qw, .ref qg, .ref qh, .ref qx, .ref qc, .ref qa, .ref qb, .ref qd, .int (iI fm), .ref qp, .ref qq])), (qx, eL t.2.1 54 u39)]) [0, 1] rfl
                          have hD9 := hD.sub (ws' := [(o, .inr (5, [.int (iI cd), .int (iI z), .int (iI lv), .ref qT, .ref qC, .ref qF, .ref qY, .ref qZ, .ref qu, .ref qv, .ref qw, .ref qg, .ref qh, .ref qx, .ref qc, .ref qa, .ref qb, .ref qd, .int (iI fm), .ref qp, .ref qq])), (qx, eL t.2.1 54 u39)]) [0, 1] (by decide) rfl
                          exact retv (-1, u39) _ _ 404 _ _ d_Mo_squareSign_404 ⟨rfl, (by show -1 = _; rw [eV]; unfold rsZ; rw [if_neg (by omega), if_neg (by omega), if_neg (by rw [szX, q4]; (first | rw [sgn_gt] at h378 | rw [sgn_le] at h378); simp; omega)])⟩ hP9 hD9 hS
                      · refine z_iconst hC d_Mo_squareSign_381 ?_
                        refine z_goto (tgt := 386) hC d_Mo_squareSign_382 (by decide) ?_
                        refine lv_iload hC.1 hC.2.1 d_Mo_squareSign_386 (lv_at hl 1 rfl) ?_
                        refine z_if_le (tgt := 395) hC d_Mo_squareSign_388 (by decide) (by have := sgn_in ((L * (szZ (2 * p + q))) - (((szZ od) * (szZ od)) * 2)); omega) (fun h388 => ?_) (fun h388 => ?_)
                        · refine z_iconst hC d_Mo_squareSign_395 ?_
                          refine z_icmp_ne (tgt := 403) hC d_Mo_squareSign_396 (by decide) (by decide) (by decide) (fun _ => ?_) (fun h => absurd h (by decide))
                          refine z_iconst hC d_Mo_squareSign_403 ?_
                          have hP9 := hP.sub (ws' := [(o, .inr (5, [.int (iI cd), .int (iI z), .int (iI lv), .ref qT, .ref qC, .ref qF, .ref qY, .ref qZ, .ref qu, .ref qv, .ref qw, .ref qg, .ref qh, .ref qx, .ref qc, .ref qa, .ref qb, .ref qd, .int (iI fm), .ref qp, .ref qq])), (qx, eL t.2.1 54 u39)]) [0, 1] rfl
                          have hD9 := hD.sub (ws' := [(o, .inr (5, [.int (iI cd), .int (iI z), .int (iI lv), .ref qT, .ref qC, .ref qF, .ref qY, .ref qZ, .ref qu, .ref qv, .ref qw, .ref qg, .ref qh, .ref qx, .ref qc, .ref qa, .ref qb, .ref qd, .int (iI fm), .ref qp, .ref qq])), (qx, eL t.2.1 54 u39)]) [0, 1] (by decide) rfl
                          exact retv (-1, u39) _ _ 404 _ _ d_Mo_squareSign_404 ⟨rfl, (by show -1 = _; rw [eV]; unfold rsZ; rw [if_neg (by omega), if_neg (by omega), if_neg (by rw [szX, q4]; (first | rw [sgn_gt] at h378 | rw [sgn_le] at h378); simp; omega)])⟩ hP9 hD9 hS
                        · refine z_iconst hC d_Mo_squareSign_391 ?_
                          refine z_goto (tgt := 396) hC d_Mo_squareSign_392 (by decide) ?_
                          refine z_icmp_ne (tgt := 403) hC d_Mo_squareSign_396 (by decide) (by decide) (by decide) (fun h => absurd h (by decide)) (fun _ => ?_)
                          refine z_iconst hC d_Mo_squareSign_399 ?_
                          refine z_goto (tgt := 404) hC d_Mo_squareSign_400 (by decide) ?_
                          have hP9 := hP.sub (ws' := [(o, .inr (5, [.int (iI cd), .int (iI z), .int (iI lv), .ref qT, .ref qC, .ref qF, .ref qY, .ref qZ, .ref qu, .ref qv, .ref qw, .ref qg, .ref qh, .ref qx, .ref qc, .ref qa, .ref qb, .ref qd, .int (iI fm), .ref qp, .ref qq])), (qx, eL t.2.1 54 u39)]) [0, 1] rfl
                          have hD9 := hD.sub (ws' := [(o, .inr (5, [.int (iI cd), .int (iI z), .int (iI lv), .ref qT, .ref qC, .ref qF, .ref qY, .ref qZ, .ref qu, .ref qv, .ref qw, .ref qg, .ref qh, .ref qx, .ref qc, .ref qa, .ref qb, .ref qd, .int (iI fm), .ref qp, .ref qq])), (qx, eL t.2.1 54 u39)]) [0, 1] (by decide) rfl
                          exact retv (1, u39) _ _ 404 _ _ d_Mo_squareSign_404 ⟨rfl, (by show 1 = _; rw [eV]; unfold rsZ; rw [if_neg (by omega), if_neg (by omega), if_pos (by rw [szX, q4]; (first | rw [sgn_gt] at h378 | rw [sgn_le] at h378); simp; omega)])⟩ hP9 hD9 hS
                    · refine lv_iload hC.1 hC.2.1 d_Mo_squareSign_336 (lv_at hl 0 rfl) ?_
                      refine z_if_gt (tgt := 343) hC d_Mo_squareSign_338 (by decide) (by decide) (fun h => absurd h (by decide)) (fun _ => ?_)
                      refine z_iconst hC d_Mo_squareSign_341 ?_
                      have hP9 := hP.sub (ws' := [(o, .inr (5, [.int (iI cd), .int (iI z), .int (iI lv), .ref qT, .ref qC, .ref qF, .ref qY, .ref qZ, .ref qu, .ref qv, .ref qw, .ref qg, .ref qh, .ref qx, .ref qc, .ref qa, .ref qb, .ref qd, .int (iI fm), .ref qp, .ref qq])), (qx, eL t.2.1 54 u35)]) [0, 1] rfl
                      have hD9 := hD.sub (ws' := [(o, .inr (5, [.int (iI cd), .int (iI z), .int (iI lv), .ref qT, .ref qC, .ref qF, .ref qY, .ref qZ, .ref qu, .ref qv, .ref qw, .ref qg, .ref qh, .ref qx, .ref qc, .ref qa, .ref qb, .ref qd, .int (iI fm), .ref qp, .ref qq])), (qx, eL t.2.1 54 u35)]) [0, 1] (by decide) rfl
                      exact retv (-1, u35) _ _ 342 _ _ d_Mo_squareSign_342 ⟨rfl, (by show -1 = _; rw [eV]; unfold rsZ; rw [if_neg (by omega), if_pos (by omega)])⟩ hP9 hD9 hS
                  · refine lv_iload hC.1 hC.2.1 d_Mo_squareSign_310 (lv_at hl 0 rfl) ?_
                    refine z_if_lt (tgt := 331) hC d_Mo_squareSign_312 (by decide) (by decide) (fun h => absurd h (by decide)) (fun _ => ?_)
                    refine lv_iload hC.1 hC.2.1 d_Mo_squareSign_315 (lv_at hl 1 rfl) ?_
                    refine z_if_ne (tgt := 329) hC d_Mo_squareSign_317 (by decide) (by have := sgn_in ((L * (szZ (2 * p + q))) - (((szZ od) * (szZ od)) * 2)); omega) (fun h317 => ?_) (fun h317 => ?_)
                    · refine z_iconst hC d_Mo_squareSign_329 ?_
                      have hP9 := hP.sub (ws' := [(o, .inr (5, [.int (iI cd), .int (iI z), .int (iI lv), .ref qT, .ref qC, .ref qF, .ref qY, .ref qZ, .ref qu, .ref qv, .ref qw, .ref qg, .ref qh, .ref qx, .ref qc, .ref qa, .ref qb, .ref qd, .int (iI fm), .ref qp, .ref qq])), (qx, eL t.2.1 54 u35)]) [0, 1] rfl
                      have hD9 := hD.sub (ws' := [(o, .inr (5, [.int (iI cd), .int (iI z), .int (iI lv), .ref qT, .ref qC, .ref qF, .ref qY, .ref qZ, .ref qu, .ref qv, .ref qw, .ref qg, .ref qh, .ref qx, .ref qc, .ref qa, .ref qb, .ref qd, .int (iI fm), .ref qp, .ref qq])), (qx, eL t.2.1 54 u35)]) [0, 1] (by decide) rfl
                      exact retv (1, u35) _ _ 330 _ _ d_Mo_squareSign_330 ⟨rfl, (by show 1 = _; rw [eV]; unfold rsZ; rw [if_pos (by omega), if_neg (by omega)])⟩ hP9 hD9 hS
                    · refine lv_iload hC.1 hC.2.1 d_Mo_squareSign_320 (lv_at hl 0 rfl) ?_
                      refine z_if_ne (tgt := 329) hC d_Mo_squareSign_322 (by decide) (by decide) (fun h => absurd h (by decide)) (fun _ => ?_)
                      refine z_iconst hC d_Mo_squareSign_325 ?_
                      refine z_goto (tgt := 330) hC d_Mo_squareSign_326 (by decide) ?_
                      have hP9 := hP.sub (ws' := [(o, .inr (5, [.int (iI cd), .int (iI z), .int (iI lv), .ref qT, .ref qC, .ref qF, .ref qY, .ref qZ, .ref qu, .ref qv, .ref qw, .ref qg, .ref qh, .ref qx, .ref qc, .ref qa, .ref qb, .ref qd, .int (iI fm), .ref qp, .ref qq])), (qx, eL t.2.1 54 u35)]) [0, 1] rfl
                      have hD9 := hD.sub (ws' := [(o, .inr (5, [.int (iI cd), .int (iI z), .int (iI lv), .ref qT, .ref qC, .ref qF, .ref qY, .ref qZ, .ref qu, .ref qv, .ref qw, .ref qg, .ref qh, .ref qx, .ref qc, .ref qa, .ref qb, .ref qd, .int (iI fm), .ref qp, .ref qq])), (qx, eL t.2.1 54 u35)]) [0, 1] (by decide) rfl
                      exact retv (0, u35) _ _ 330 _ _ d_Mo_squareSign_330 ⟨rfl, (by show 0 = _; rw [eV]; unfold rsZ; rw [if_pos (by omega), if_pos (by omega)])⟩ hP9 hD9 hS
                · refine z_iconst hC d_Mo_squareSign_298 ?_
                  refine z_goto (tgt := 303) hC d_Mo_squareSign_299 (by decide) ?_
                  refine lv_istore (lv' := [(15, .int (iI 1)), (14, .int (iI (sgn ((L * (szZ (2 * p + q))) - (((szZ od) * (szZ od)) * 2))))), (13, .int (iI (zB no))), (12, .int (iI 2)), (11, .int (iI (sgn ((L * (szZ (2 * p + q))) - (((szZ od) * (szZ od)) * 2))))), (10, .int (iI 0)), (8, .long (lI L)), (0, .ref o), (1, .long (lI od)), (3, .int (iI len)), (4, .long (lI p)), (6, .long (lI q))]) hC.1 hC.2.1 d_Mo_squareSign_303 hl (by decide) rfl (fun ls hl => ?_)
                  refine lv_iload hC.1 hC.2.1 d_Mo_squareSign_305 (lv_at hl 1 rfl) ?_
                  refine z_if_lt (tgt := 331) hC d_Mo_squareSign_307 (by decide) (by have := sgn_in ((L * (szZ (2 * p + q))) - (((szZ od) * (szZ od)) * 2)); omega) (fun h307 => ?_) (fun h307 => ?_)
                  · refine lv_iload hC.1 hC.2.1 d_Mo_squareSign_331 (lv_at hl 1 rfl) ?_
                    refine z_if_gt (tgt := 343) hC d_Mo_squareSign_333 (by decide) (by have := sgn_in ((L * (szZ (2 * p + q))) - (((szZ od) * (szZ od)) * 2)); omega) (fun h333 => ?_) (fun h333 => ?_)
                    · refine lv_aload_n hC.1 hC.2.1 d_Mo_squareSign_343 rfl (lv_at hl 7 rfl) ?_
                      refine z_iconst hC d_Mo_squareSign_344 ?_
                      refine z_iconst hC d_Mo_squareSign_345 ?_
                      refine z_iconst hC d_Mo_squareSign_346 ?_
                      refine z_mVv (As := [.int (iI 5), .int (iI 4), .int (iI 4)]) (rest := []) (wr := []) hC (c_Mo_product l D t ts o qT qC qF qY qZ qu qv qw qg qh qx qc qa qb qd qp qq cd z lv fm u35 5 4 4 X4 X4 (by decide) (by decide) (by decide) (by decide) (by decide) b4_u35 b4_u35 (by omega) (by omega) (by have := p9; have := mul_bd (a := X4) (b := X4) (A := 210000000000000000000000000000) (B := 210000000000000000000000000000) (by omega) (by omega); omega) _) (cw_V hC k_590 k_592 kp_35 k_6 k_593 ye_Mo_product (by decide)) hP hD hK hE hS hA [0, 1] [] (by decide) rfl rfl (by decide) (by decide) 0 (ci := 5) rfl rfl rfl rfl hl.1 rfl (Nat.le_of_ble_eq_true rfl) ⟨Nat.le_of_ble_eq_true rfl, Nat.le_of_ble_eq_true rfl⟩ d_Mo_squareSign_347 (fun u40 H locs eu40 hP hD hS => ?_)
                      have b3_u40 : bk u40 (9 * 3) ((szZ od) * (szZ od)) := bk_keep b3_u35 eu40.2 (by omega)
                      have b4_u40 : bk u40 (9 * 4) X4 := bk_keep b4_u35 eu40.2 (by omega)
                      have b0_u40 : bk u40 (9 * 0) L := bk_keep b0_u35 eu40.2 (by omega)
                      have b1_u40 : bk u40 (9 * 1) (szZ q) := bk_keep b1_u35 eu40.2 (by omega)
                      have b2_u40 : bk u40 (9 * 2) (L * (szZ q)) := bk_keep b2_u35 eu40.2 (by omega)
                      have b5_u40 : bk u40 (9 * 5) (X4 * X4) := eu40.1
                      have hP : va_P D classes [(o, .inr (5, [.int (iI cd), .int (iI z), .int (iI lv), .ref qT, .ref qC, .ref qF, .ref qY, .ref qZ, .ref qu, .ref qv, .ref qw, .ref qg, .ref qh, .ref qx, .ref qc, .ref qa, .ref qb, .ref qd, .int (iI fm), .ref qp, .ref qq])), (qx, eL t.2.1 54 u40)] H := hP
                      have hD : va_D A [(o, .inr (5, [.int (iI cd), .int (iI z), .int (iI lv), .ref qT, .ref qC, .ref qF, .ref qY, .ref qZ, .ref qu, .ref qv, .ref qw, .ref qg, .ref qh, .ref qx, .ref qc, .ref qa, .ref qb, .ref qd, .int (iI fm), .ref qp, .ref qq])), (qx, eL t.2.1 54 u40)] := hD
                      refine lv_aload_n hC.1 hC.2.1 d_Mo_squareSign_350 rfl (lv_at hl 7 rfl) ?_
                      refine z_iconst hC d_Mo_squareSign_351 ?_
                      refine z_iconst hC d_Mo_squareSign_352 ?_
                      refine z_iconst hC d_Mo_squareSign_353 ?_
                      refine z_mVv (As := [.int (iI 3), .int (iI 2), .int (iI 2)]) (rest := []) (wr := []) hC (c_Mo_product l D t ts o qT qC qF qY qZ qu qv qw qg qh qx qc qa qb qd qp qq cd z lv fm u40 3 2 2 (L * (szZ q)) (L * (szZ q)) (by decide) (by decide) (by decide) (by decide) (by decide) b2_u40 b2_u40 (by omega) (by omega) (by have := p9; have := mul_bd (a := L * (szZ q)) (b := L * (szZ q)) (A := 10000000000000000000000000000) (B := 10000000000000000000000000000) (by omega) (by omega); omega) _) (cw_V hC k_590 k_592 kp_35 k_6 k_593 ye_Mo_product (by decide)) hP hD hK hE hS hA [0, 1] [] (by decide) rfl rfl (by decide) (by decide) 0 (ci := 5) rfl rfl rfl rfl hl.1 rfl (Nat.le_of_ble_eq_true rfl) ⟨Nat.le_of_ble_eq_true rfl, Nat.le_of_ble_eq_true rfl⟩ d_Mo_squareSign_354 (fun u41 H locs eu41 hP hD hS => ?_)
                      have b4_u41 : bk u41 (9 * 4) X4 := bk_keep b4_u40 eu41.2 (by omega)
                      have b0_u41 : bk u41 (9 * 0) L := bk_keep b0_u40 eu41.2 (by omega)
                      have b1_u41 : bk u41 (9 * 1) (szZ q) := bk_keep b1_u40 eu41.2 (by omega)
                      have b2_u41 : bk u41 (9 * 2) (L * (szZ q)) := bk_keep b2_u40 eu41.2 (by omega)
                      have b5_u41 : bk u41 (9 * 5) (X4 * X4) := bk_keep b5_u40 eu41.2 (by omega)
                      have b3_u41 : bk u41 (9 * 3) ((L * (szZ q)) * (L * (szZ q))) := eu41.1
                      have hP : va_P D classes [(o, .inr (5, [.int (iI cd), .int (iI z), .int (iI lv), .ref qT, .ref qC, .ref qF, .ref qY, .ref qZ, .ref qu, .ref qv, .ref qw, .ref qg, .ref qh, .ref qx, .ref qc, .ref qa, .ref qb, .ref qd, .int (iI fm), .ref qp, .ref qq])), (qx, eL t.2.1 54 u41)] H := hP
                      have hD : va_D A [(o, .inr (5, [.int (iI cd), .int (iI z), .int (iI lv), .ref qT, .ref qC, .ref qF, .ref qY, .ref qZ, .ref qu, .ref qv, .ref qw, .ref qg, .ref qh, .ref qx, .ref qc, .ref qa, .ref qb, .ref qd, .int (iI fm), .ref qp, .ref qq])), (qx, eL t.2.1 54 u41)] := hD
                      refine lv_aload_n hC.1 hC.2.1 d_Mo_squareSign_357 rfl (lv_at hl 7 rfl) ?_
                      refine z_iconst hC d_Mo_squareSign_358 ?_
                      refine z_ldc2 hC k_594 d_Mo_squareSign_359 ?_
                      refine z_mVv (As := [.int (iI 0), .long (lI 5)]) (rest := []) (wr := []) hC (c_Mo_be l D t ts o qT qC qF qY qZ qu qv qw qg qh qx qc qa qb qd qp qq cd z lv fm u41 0 5 (by decide) (by decide) _) (cw_V hC k_585 k_587 kp_34 k_6 k_588 ye_Mo_be (by decide)) hP hD hK hE hS hA [0, 1] [] (by decide) rfl rfl (by decide) (by decide) 0 (ci := 5) rfl rfl rfl rfl hl.1 rfl (Nat.le_of_ble_eq_true rfl) ⟨Nat.le_of_ble_eq_true rfl, Nat.le_of_ble_eq_true rfl⟩ d_Mo_squareSign_362 (fun u42 H locs eu42 hP hD hS => ?_)
                      have b4_u42 : bk u42 (9 * 4) X4 := bk_keep b4_u41 eu42.2 (by omega)
                      have b1_u42 : bk u42 (9 * 1) (szZ q) := bk_keep b1_u41 eu42.2 (by omega)
                      have b2_u42 : bk u42 (9 * 2) (L * (szZ q)) := bk_keep b2_u41 eu42.2 (by omega)
                      have b5_u42 : bk u42 (9 * 5) (X4 * X4) := bk_keep b5_u41 eu42.2 (by omega)
                      have b3_u42 : bk u42 (9 * 3) ((L * (szZ q)) * (L * (szZ q))) := bk_keep b3_u41 eu42.2 (by omega)
                      have b0_u42 : bk u42 (9 * 0) 5 := eu42.1
                      have hP : va_P D classes [(o, .inr (5, [.int (iI cd), .int (iI z), .int (iI lv), .ref qT, .ref qC, .ref qF, .ref qY, .ref qZ, .ref qu, .ref qv, .ref qw, .ref qg, .ref qh, .ref qx, .ref qc, .ref qa, .ref qb, .ref qd, .int (iI fm), .ref qp, .ref qq])), (qx, eL t.2.1 54 u42)] H := hP
                      have hD : va_D A [(o, .inr (5, [.int (iI cd), .int (iI z), .int (iI lv), .ref qT, .ref qC, .ref qF, .ref qY, .ref qZ, .ref qu, .ref qv, .ref qw, .ref qg, .ref qh, .ref qx, .ref qc, .ref qa, .ref qb, .ref qd, .int (iI fm), .ref qp, .ref qq])), (qx, eL t.2.1 54 u42)] := hD
                      refine lv_aload_n hC.1 hC.2.1 d_Mo_squareSign_365 rfl (lv_at hl 7 rfl) ?_
                      refine z_iconst hC d_Mo_squareSign_366 ?_
                      refine z_iconst hC d_Mo_squareSign_367 ?_
                      refine z_iconst hC d_Mo_squareSign_368 ?_
                      refine z_mVv (As := [.int (iI 1), .int (iI 3), .int (iI 0)]) (rest := []) (wr := []) hC (c_Mo_product l D t ts o qT qC qF qY qZ qu qv qw qg qh qx qc qa qb qd qp qq cd z lv fm u42 1 3 0 ((L * (szZ q)) * (L * (szZ q))) 5 (by decide) (by decide) (by decide) (by decide) (by decide) b3_u42 b0_u42 (by omega) (by omega) (by have := p9; omega) _) (cw_V hC k_590 k_592 kp_35 k_6 k_593 ye_Mo_product (by decide)) hP hD hK hE hS hA [0, 1] [] (by decide) rfl rfl (by decide) (by decide) 0 (ci := 5) rfl rfl rfl rfl hl.1 rfl (Nat.le_of_ble_eq_true rfl) ⟨Nat.le_of_ble_eq_true rfl, Nat.le_of_ble_eq_true rfl⟩ d_Mo_squareSign_369 (fun u43 H locs eu43 hP hD hS => ?_)
                      have b4_u43 : bk u43 (9 * 4) X4 := bk_keep b4_u42 eu43.2 (by omega)
                      have b2_u43 : bk u43 (9 * 2) (L * (szZ q)) := bk_keep b2_u42 eu43.2 (by omega)
                      have b5_u43 : bk u43 (9 * 5) (X4 * X4) := bk_keep b5_u42 eu43.2 (by omega)
                      have b3_u43 : bk u43 (9 * 3) ((L * (szZ q)) * (L * (szZ q))) := bk_keep b3_u42 eu43.2 (by omega)
                      have b0_u43 : bk u43 (9 * 0) 5 := bk_keep b0_u42 eu43.2 (by omega)
                      have b1_u43 : bk u43 (9 * 1) (((L * (szZ q)) * (L * (szZ q))) * 5) := eu43.1
                      have hP : va_P D classes [(o, .inr (5, [.int (iI cd), .int (iI z), .int (iI lv), .ref qT, .ref qC, .ref qF, .ref qY, .ref qZ, .ref qu, .ref qv, .ref qw, .ref qg, .ref qh, .ref qx, .ref qc, .ref qa, .ref qb, .ref qd, .int (iI fm), .ref qp, .ref qq])), (qx, eL t.2.1 54 u43)] H := hP
                      have hD : va_D A [(o, .inr (5, [.int (iI cd), .int (iI z), .int (iI lv), .ref qT, .ref qC, .ref qF, .ref qY, .ref qZ, .ref qu, .ref qv, .ref qw, .ref qg, .ref qh, .ref qx, .ref qc, .ref qa, .ref qb, .ref qd, .int (iI fm), .ref qp, .ref qq])), (qx, eL t.2.1 54 u43)] := hD
                      refine lv_aload_n hC.1 hC.2.1 d_Mo_squareSign_372 rfl (lv_at hl 7 rfl) ?_
                      refine z_iconst hC d_Mo_squareSign_373 ?_
                      refine z_iconst hC d_Mo_squareSign_374 ?_
                      refine z_roVi (As := [.int (iI 5), .int (iI 1)]) (rest := []) hC (c_Mo_compare l D t ts o qT qC qF qY qZ qu qv qw qg qh qx qc qa qb qd qp qq cd z lv fm u43 5 1 (X4 * X4) (((L * (szZ q)) * (L * (szZ q))) * 5) (by decide) (by decide) b5_u43 b1_u43) (cw_V hC k_595 k_597 kp_36 k_6 k_598 ye_Mo_compare (by decide)) hP hK hE hS [0, 1] rfl 0 (ci := 5) rfl rfl rfl rfl hl.1 rfl (Nat.le_of_ble_eq_true rfl) ⟨Nat.le_of_ble_eq_true rfl, Nat.le_of_ble_eq_true rfl⟩ d_Mo_squareSign_375 ?_
                      have h378s := sgn_in (X4 * X4 - (L * szZ q) * (L * szZ q) * 5)
                      refine z_if_le (tgt := 385) hC d_Mo_squareSign_378 (by decide) (by have := sgn_in ((X4 * X4) - (((L * (szZ q)) * (L * (szZ q))) * 5)); omega) (fun h378 => ?_) (fun h378 => ?_)
                      · refine z_iconst hC d_Mo_squareSign_385 ?_
                        refine lv_iload hC.1 hC.2.1 d_Mo_squareSign_386 (lv_at hl 1 rfl) ?_
                        refine z_if_le (tgt := 395) hC d_Mo_squareSign_388 (by decide) (by have := sgn_in ((L * (szZ (2 * p + q))) - (((szZ od) * (szZ od)) * 2)); omega) (fun h388 => ?_) (fun h388 => ?_)
                        · refine z_iconst hC d_Mo_squareSign_395 ?_
                          refine z_icmp_ne (tgt := 403) hC d_Mo_squareSign_396 (by decide) (by decide) (by decide) (fun h => absurd h (by decide)) (fun _ => ?_)
                          refine z_iconst hC d_Mo_squareSign_399 ?_
                          refine z_goto (tgt := 404) hC d_Mo_squareSign_400 (by decide) ?_
                          have hP9 := hP.sub (ws' := [(o, .inr (5, [.int (iI cd), .int (iI z), .int (iI lv), .ref qT, .ref qC, .ref qF, .ref qY, .ref qZ, .ref qu, .ref qv, .ref qw, .ref qg, .ref qh, .ref qx, .ref qc, .ref qa, .ref qb, .ref qd, .int (iI fm), .ref qp, .ref qq])), (qx, eL t.2.1 54 u43)]) [0, 1] rfl
                          have hD9 := hD.sub (ws' := [(o, .inr (5, [.int (iI cd), .int (iI z), .int (iI lv), .ref qT, .ref qC, .ref qF, .ref qY, .ref qZ, .ref qu, .ref qv, .ref qw, .ref qg, .ref qh, .ref qx, .ref qc, .ref qa, .ref qb, .ref qd, .int (iI fm), .ref qp, .ref qq])), (qx, eL t.2.1 54 u43)]) [0, 1] (by decide) rfl
                          exact retv (1, u43) _ _ 404 _ _ d_Mo_squareSign_404 ⟨rfl, (by show 1 = _; rw [eV]; unfold rsZ; rw [if_neg (by omega), if_neg (by omega), if_pos (by rw [szX, q4]; (first | rw [sgn_gt] at h378 | rw [sgn_le] at h378); simp; omega)])⟩ hP9 hD9 hS
                        · refine z_iconst hC d_Mo_squareSign_391 ?_
                          refine z_goto (tgt := 396) hC d_Mo_squareSign_392 (by decide) ?_
                          refine z_icmp_ne (tgt := 403) hC d_Mo_squareSign_396 (by decide) (by decide) (by decide) (fun _ => ?_) (fun h => absurd h (by decide))
                          refine z_iconst hC d_Mo_squareSign_403 ?_
                          have hP9 := hP.sub (ws' := [(o, .inr (5, [.int (iI cd), .int (iI z), .int (iI lv), .ref qT, .ref qC, .ref qF, .ref qY, .ref qZ, .ref qu, .ref qv, .ref qw, .ref qg, .ref qh, .ref qx, .ref qc, .ref qa, .ref qb, .ref qd, .int (iI fm), .ref qp, .ref qq])), (qx, eL t.2.1 54 u43)]) [0, 1] rfl
                          have hD9 := hD.sub (ws' := [(o, .inr (5, [.int (iI cd), .int (iI z), .int (iI lv), .ref qT, .ref qC, .ref qF, .ref qY, .ref qZ, .ref qu, .ref qv, .ref qw, .ref qg, .ref qh, .ref qx, .ref qc, .ref qa, .ref qb, .ref qd, .int (iI fm), .ref qp, .ref qq])), (qx, eL t.2.1 54 u43)]) [0, 1] (by decide) rfl
                          exact retv (-1, u43) _ _ 404 _ _ d_Mo_squareSign_404 ⟨rfl, (by show -1 = _; rw [eV]; unfold rsZ; rw [if_neg (by omega), if_neg (by omega), if_neg (by rw [szX, q4]; (first | rw [sgn_gt] at h378 | rw [sgn_le] at h378); simp; omega)])⟩ hP9 hD9 hS
                      · refine z_iconst hC d_Mo_squareSign_381 ?_
                        refine z_goto (tgt := 386) hC d_Mo_squareSign_382 (by decide) ?_
                        refine lv_iload hC.1 hC.2.1 d_Mo_squareSign_386 (lv_at hl 1 rfl) ?_
                        refine z_if_le (tgt := 395) hC d_Mo_squareSign_388 (by decide) (by have := sgn_in ((L * (szZ (2 * p + q))) - (((szZ od) * (szZ od)) * 2)); omega) (fun h388 => ?_) (fun h388 => ?_)
                        · refine z_iconst hC d_Mo_squareSign_395 ?_
                          refine z_icmp_ne (tgt := 403) hC d_Mo_squareSign_396 (by decide) (by decide) (by decide) (fun _ => ?_) (fun h => absurd h (by decide))
                          refine z_iconst hC d_Mo_squareSign_403 ?_
                          have hP9 := hP.sub (ws' := [(o, .inr (5, [.int (iI cd), .int (iI z), .int (iI lv), .ref qT, .ref qC, .ref qF, .ref qY, .ref qZ, .ref qu, .ref qv, .ref qw, .ref qg, .ref qh, .ref qx, .ref qc, .ref qa, .ref qb, .ref qd, .int (iI fm), .ref qp, .ref qq])), (qx, eL t.2.1 54 u43)]) [0, 1] rfl
                          have hD9 := hD.sub (ws' := [(o, .inr (5, [.int (iI cd), .int (iI z), .int (iI lv), .ref qT, .ref qC, .ref qF, .ref qY, .ref qZ, .ref qu, .ref qv, .ref qw, .ref qg, .ref qh, .ref qx, .ref qc, .ref qa, .ref qb, .ref qd, .int (iI fm), .ref qp, .ref qq])), (qx, eL t.2.1 54 u43)]) [0, 1] (by decide) rfl
                          exact retv (-1, u43) _ _ 404 _ _ d_Mo_squareSign_404 ⟨rfl, (by show -1 = _; rw [eV]; unfold rsZ; rw [if_neg (by omega), if_neg (by omega), if_neg (by rw [szX, q4]; (first | rw [sgn_gt] at h378 | rw [sgn_le] at h378); simp; omega)])⟩ hP9 hD9 hS
                        · refine z_iconst hC d_Mo_squareSign_391 ?_
                          refine z_goto (tgt := 396) hC d_Mo_squareSign_392 (by decide) ?_
                          refine z_icmp_ne (tgt := 403) hC d_Mo_squareSign_396 (by decide) (by decide) (by decide) (fun h => absurd h (by decide)) (fun _ => ?_)
                          refine z_iconst hC d_Mo_squareSign_399 ?_
                          refine z_goto (tgt := 404) hC d_Mo_squareSign_400 (by decide) ?_
                          have hP9 := hP.sub (ws' := [(o, .inr (5, [.int (iI cd), .int (iI z), .int (iI lv), .ref qT, .ref qC, .ref qF, .ref qY, .ref qZ, .ref qu, .ref qv, .ref qw, .ref qg, .ref qh, .ref qx, .ref qc, .ref qa, .ref qb, .ref qd, .int (iI fm), .ref qp, .ref qq])), (qx, eL t.2.1 54 u43)]) [0, 1] rfl
                          have hD9 := hD.sub (ws' := [(o, .inr (5, [.int (iI cd), .int (iI z), .int (iI lv), .ref qT, .ref qC, .ref qF, .ref qY, .ref qZ, .ref qu, .ref qv, .ref qw, .ref qg, .ref qh, .ref qx, .ref qc, .ref qa, .ref qb, .ref qd, .int (iI fm), .ref qp, .ref qq])), (qx, eL t.2.1 54 u43)]) [0, 1] (by decide) rfl
                          exact retv (1, u43) _ _ 404 _ _ d_Mo_squareSign_404 ⟨rfl, (by show 1 = _; rw [eV]; unfold rsZ; rw [if_neg (by omega), if_neg (by omega), if_pos (by rw [szX, q4]; (first | rw [sgn_gt] at h378 | rw [sgn_le] at h378); simp; omega)])⟩ hP9 hD9 hS
                    · refine lv_iload hC.1 hC.2.1 d_Mo_squareSign_336 (lv_at hl 0 rfl) ?_
                      refine z_if_gt (tgt := 343) hC d_Mo_squareSign_338 (by decide) (by decide) (fun _ => ?_) (fun h => absurd h (by decide))
                      refine lv_aload_n hC.1 hC.2.1 d_Mo_squareSign_343 rfl (lv_at hl 7 rfl) ?_
                      refine z_iconst hC d_Mo_squareSign_344 ?_
                      refine z_iconst hC d_Mo_squareSign_345 ?_
                      refine z_iconst hC d_Mo_squareSign_346 ?_
                      refine z_mVv (As := [.int (iI 5), .int (iI 4), .int (iI 4)]) (rest := []) (wr := []) hC (c_Mo_product l D t ts o qT qC qF qY qZ qu qv qw qg qh qx qc qa qb qd qp qq cd z lv fm u35 5 4 4 X4 X4 (by decide) (by decide) (by decide) (by decide) (by decide) b4_u35 b4_u35 (by omega) (by omega) (by have := p9; have := mul_bd (a := X4) (b := X4) (A := 210000000000000000000000000000) (B := 210000000000000000000000000000) (by omega) (by omega); omega) _) (cw_V hC k_590 k_592 kp_35 k_6 k_593 ye_Mo_product (by decide)) hP hD hK hE hS hA [0, 1] [] (by decide) rfl rfl (by decide) (by decide) 0 (ci := 5) rfl rfl rfl rfl hl.1 rfl (Nat.le_of_ble_eq_true rfl) ⟨Nat.le_of_ble_eq_true rfl, Nat.le_of_ble_eq_true rfl⟩ d_Mo_squareSign_347 (fun u44 H locs eu44 hP hD hS => ?_)
                      have b3_u44 : bk u44 (9 * 3) ((szZ od) * (szZ od)) := bk_keep b3_u35 eu44.2 (by omega)
                      have b4_u44 : bk u44 (9 * 4) X4 := bk_keep b4_u35 eu44.2 (by omega)
                      have b0_u44 : bk u44 (9 * 0) L := bk_keep b0_u35 eu44.2 (by omega)
                      have b1_u44 : bk u44 (9 * 1) (szZ q) := bk_keep b1_u35 eu44.2 (by omega)
                      have b2_u44 : bk u44 (9 * 2) (L * (szZ q)) := bk_keep b2_u35 eu44.2 (by omega)
                      have b5_u44 : bk u44 (9 * 5) (X4 * X4) := eu44.1
                      have hP : va_P D classes [(o, .inr (5, [.int (iI cd), .int (iI z), .int (iI lv), .ref qT, .ref qC, .ref qF, .ref qY, .ref qZ, .ref qu, .ref qv, .ref qw, .ref qg, .ref qh, .ref qx, .ref qc, .ref qa, .ref qb, .ref qd, .int (iI fm), .ref qp, .ref qq])), (qx, eL t.2.1 54 u44)] H := hP
                      have hD : va_D A [(o, .inr (5, [.int (iI cd), .int (iI z), .int (iI lv), .ref qT, .ref qC, .ref qF, .ref qY, .ref qZ, .ref qu, .ref qv, .ref qw, .ref qg, .ref qh, .ref qx, .ref qc, .ref qa, .ref qb, .ref qd, .int (iI fm), .ref qp, .ref qq])), (qx, eL t.2.1 54 u44)] := hD
                      refine lv_aload_n hC.1 hC.2.1 d_Mo_squareSign_350 rfl (lv_at hl 7 rfl) ?_
                      refine z_iconst hC d_Mo_squareSign_351 ?_
                      refine z_iconst hC d_Mo_squareSign_352 ?_
                      refine z_iconst hC d_Mo_squareSign_353 ?_
                      refine z_mVv (As := [.int (iI 3), .int (iI 2), .int (iI 2)]) (rest := []) (wr := []) hC (c_Mo_product l D t ts o qT qC qF qY qZ qu qv qw qg qh qx qc qa qb qd qp qq cd z lv fm u44 3 2 2 (L * (szZ q)) (L * (szZ q)) (by decide) (by decide) (by decide) (by decide) (by decide) b2_u44 b2_u44 (by omega) (by omega) (by have := p9; have := mul_bd (a := L * (szZ q)) (b := L * (szZ q)) (A := 10000000000000000000000000000) (B := 10000000000000000000000000000) (by omega) (by omega); omega) _) (cw_V hC k_590 k_592 kp_35 k_6 k_593 ye_Mo_product (by decide)) hP hD hK hE hS hA [0, 1] [] (by decide) rfl rfl (by decide) (by decide) 0 (ci := 5) rfl rfl rfl rfl hl.1 rfl (Nat.le_of_ble_eq_true rfl) ⟨Nat.le_of_ble_eq_true rfl, Nat.le_of_ble_eq_true rfl⟩ d_Mo_squareSign_354 (fun u45 H locs eu45 hP hD hS => ?_)
                      have b4_u45 : bk u45 (9 * 4) X4 := bk_keep b4_u44 eu45.2 (by omega)
                      have b0_u45 : bk u45 (9 * 0) L := bk_keep b0_u44 eu45.2 (by omega)
                      have b1_u45 : bk u45 (9 * 1) (szZ q) := bk_keep b1_u44 eu45.2 (by omega)
                      have b2_u45 : bk u45 (9 * 2) (L * (szZ q)) := bk_keep b2_u44 eu45.2 (by omega)
                      have b5_u45 : bk u45 (9 * 5) (X4 * X4) := bk_keep b5_u44 eu45.2 (by omega)
                      have b3_u45 : bk u45 (9 * 3) ((L * (szZ q)) * (L * (szZ q))) := eu45.1
                      have hP : va_P D classes [(o, .inr (5, [.int (iI cd), .int (iI z), .int (iI lv), .ref qT, .ref qC, .ref qF, .ref qY, .ref qZ, .ref qu, .ref qv, .ref qw, .ref qg, .ref qh, .ref qx, .ref qc, .ref qa, .ref qb, .ref qd, .int (iI fm), .ref qp, .ref qq])), (qx, eL t.2.1 54 u45)] H := hP
                      have hD : va_D A [(o, .inr (5, [.int (iI cd), .int (iI z), .int (iI lv), .ref qT, .ref qC, .ref qF, .ref qY, .ref qZ, .ref qu, .ref qv, .ref qw, .ref qg, .ref qh, .ref qx, .ref qc, .ref qa, .ref qb, .ref qd, .int (iI fm), .ref qp, .ref qq])), (qx, eL t.2.1 54 u45)] := hD
                      refine lv_aload_n hC.1 hC.2.1 d_Mo_squareSign_357 rfl (lv_at hl 7 rfl) ?_
                      refine z_iconst hC d_Mo_squareSign_358 ?_
                      refine z_ldc2 hC k_594 d_Mo_squareSign_359 ?_
                      refine z_mVv (As := [.int (iI 0), .long (lI 5)]) (rest := []) (wr := []) hC (c_Mo_be l D t ts o qT qC qF qY qZ qu qv qw qg qh qx qc qa qb qd qp qq cd z lv fm u45 0 5 (by decide) (by decide) _) (cw_V hC k_585 k_587 kp_34 k_6 k_588 ye_Mo_be (by decide)) hP hD hK hE hS hA [0, 1] [] (by decide) rfl rfl (by decide) (by decide) 0 (ci := 5) rfl rfl rfl rfl hl.1 rfl (Nat.le_of_ble_eq_true rfl) ⟨Nat.le_of_ble_eq_true rfl, Nat.le_of_ble_eq_true rfl⟩ d_Mo_squareSign_362 (fun u46 H locs eu46 hP hD hS => ?_)
                      have b4_u46 : bk u46 (9 * 4) X4 := bk_keep b4_u45 eu46.2 (by omega)
                      have b1_u46 : bk u46 (9 * 1) (szZ q) := bk_keep b1_u45 eu46.2 (by omega)
                      have b2_u46 : bk u46 (9 * 2) (L * (szZ q)) := bk_keep b2_u45 eu46.2 (by omega)
                      have b5_u46 : bk u46 (9 * 5) (X4 * X4) := bk_keep b5_u45 eu46.2 (by omega)
                      have b3_u46 : bk u46 (9 * 3) ((L * (szZ q)) * (L * (szZ q))) := bk_keep b3_u45 eu46.2 (by omega)
                      have b0_u46 : bk u46 (9 * 0) 5 := eu46.1
                      have hP : va_P D classes [(o, .inr (5, [.int (iI cd), .int (iI z), .int (iI lv), .ref qT, .ref qC, .ref qF, .ref qY, .ref qZ, .ref qu, .ref qv, .ref qw, .ref qg, .ref qh, .ref qx, .ref qc, .ref qa, .ref qb, .ref qd, .int (iI fm), .ref qp, .ref qq])), (qx, eL t.2.1 54 u46)] H := hP
                      have hD : va_D A [(o, .inr (5, [.int (iI cd), .int (iI z), .int (iI lv), .ref qT, .ref qC, .ref qF, .ref qY, .ref qZ, .ref qu, .ref qv, .ref qw, .ref qg, .ref qh, .ref qx, .ref qc, .ref qa, .ref qb, .ref qd, .int (iI fm), .ref qp, .ref qq])), (qx, eL t.2.1 54 u46)] := hD
                      refine lv_aload_n hC.1 hC.2.1 d_Mo_squareSign_365 rfl (lv_at hl 7 rfl) ?_
                      refine z_iconst hC d_Mo_squareSign_366 ?_
                      refine z_iconst hC d_Mo_squareSign_367 ?_
                      refine z_iconst hC d_Mo_squareSign_368 ?_
                      refine z_mVv (As := [.int (iI 1), .int (iI 3), .int (iI 0)]) (rest := []) (wr := []) hC (c_Mo_product l D t ts o qT qC qF qY qZ qu qv qw qg qh qx qc qa qb qd qp qq cd z lv fm u46 1 3 0 ((L * (szZ q)) * (L * (szZ q))) 5 (by decide) (by decide) (by decide) (by decide) (by decide) b3_u46 b0_u46 (by omega) (by omega) (by have := p9; omega) _) (cw_V hC k_590 k_592 kp_35 k_6 k_593 ye_Mo_product (by decide)) hP hD hK hE hS hA [0, 1] [] (by decide) rfl rfl (by decide) (by decide) 0 (ci := 5) rfl rfl rfl rfl hl.1 rfl (Nat.le_of_ble_eq_true rfl) ⟨Nat.le_of_ble_eq_true rfl, Nat.le_of_ble_eq_true rfl⟩ d_Mo_squareSign_369 (fun u47 H locs eu47 hP hD hS => ?_)
                      have b4_u47 : bk u47 (9 * 4) X4 := bk_keep b4_u46 eu47.2 (by omega)
                      have b2_u47 : bk u47 (9 * 2) (L * (szZ q)) := bk_keep b2_u46 eu47.2 (by omega)
                      have b5_u47 : bk u47 (9 * 5) (X4 * X4) := bk_keep b5_u46 eu47.2 (by omega)
                      have b3_u47 : bk u47 (9 * 3) ((L * (szZ q)) * (L * (szZ q))) := bk_keep b3_u46 eu47.2 (by omega)
                      have b0_u47 : bk u47 (9 * 0) 5 := bk_keep b0_u46 eu47.2 (by omega)
                      have b1_u47 : bk u47 (9 * 1) (((L * (szZ q)) * (L * (szZ q))) * 5) := eu47.1
                      have hP : va_P D classes [(o, .inr (5, [.int (iI cd), .int (iI z), .int (iI lv), .ref qT, .ref qC, .ref qF, .ref qY, .ref qZ, .ref qu, .ref qv, .ref qw, .ref qg, .ref qh, .ref qx, .ref qc, .ref qa, .ref qb, .ref qd, .int (iI fm), .ref qp, .ref qq])), (qx, eL t.2.1 54 u47)] H := hP
                      have hD : va_D A [(o, .inr (5, [.int (iI cd), .int (iI z), .int (iI lv), .ref qT, .ref qC, .ref qF, .ref qY, .ref qZ, .ref qu, .ref qv, .ref qw, .ref qg, .ref qh, .ref qx, .ref qc, .ref qa, .ref qb, .ref qd, .int (iI fm), .ref qp, .ref qq])), (qx, eL t.2.1 54 u47)] := hD
                      refine lv_aload_n hC.1 hC.2.1 d_Mo_squareSign_372 rfl (lv_at hl 7 rfl) ?_
                      refine z_iconst hC d_Mo_squareSign_373 ?_
                      refine z_iconst hC d_Mo_squareSign_374 ?_
                      refine z_roVi (As := [.int (iI 5), .int (iI 1)]) (rest := []) hC (c_Mo_compare l D t ts o qT qC qF qY qZ qu qv qw qg qh qx qc qa qb qd qp qq cd z lv fm u47 5 1 (X4 * X4) (((L * (szZ q)) * (L * (szZ q))) * 5) (by decide) (by decide) b5_u47 b1_u47) (cw_V hC k_595 k_597 kp_36 k_6 k_598 ye_Mo_compare (by decide)) hP hK hE hS [0, 1] rfl 0 (ci := 5) rfl rfl rfl rfl hl.1 rfl (Nat.le_of_ble_eq_true rfl) ⟨Nat.le_of_ble_eq_true rfl, Nat.le_of_ble_eq_true rfl⟩ d_Mo_squareSign_375 ?_
                      have h378s := sgn_in (X4 * X4 - (L * szZ q) * (L * szZ q) * 5)
                      refine z_if_le (tgt := 385) hC d_Mo_squareSign_378 (by decide) (by have := sgn_in ((X4 * X4) - (((L * (szZ q)) * (L * (szZ q))) * 5)); omega) (fun h378 => ?_) (fun h378 => ?_)
                      · refine z_iconst hC d_Mo_squareSign_385 ?_
                        refine lv_iload hC.1 hC.2.1 d_Mo_squareSign_386 (lv_at hl 1 rfl) ?_
                        refine z_if_le (tgt := 395) hC d_Mo_squareSign_388 (by decide) (by have := sgn_in ((L * (szZ (2 * p + q))) - (((szZ od) * (szZ od)) * 2)); omega) (fun h388 => ?_) (fun h388 => ?_)
                        · refine z_iconst hC d_Mo_squareSign_395 ?_
                          refine z_icmp_ne (tgt := 403) hC d_Mo_squareSign_396 (by decide) (by decide) (by decide) (fun h => absurd h (by decide)) (fun _ => ?_)
                          refine z_iconst hC d_Mo_squareSign_399 ?_
                          refine z_goto (tgt := 404) hC d_Mo_squareSign_400 (by decide) ?_
                          have hP9 := hP.sub (ws' := [(o, .inr (5, [.int (iI cd), .int (iI z), .int (iI lv), .ref qT, .ref qC, .ref qF, .ref qY, .ref qZ, .ref qu, .ref qv, .ref qw, .ref qg, .ref qh, .ref qx, .ref qc, .ref qa, .ref qb, .ref qd, .int (iI fm), .ref qp, .ref qq])), (qx, eL t.2.1 54 u47)]) [0, 1] rfl
                          have hD9 := hD.sub (ws' := [(o, .inr (5, [.int (iI cd), .int (iI z), .int (iI lv), .ref qT, .ref qC, .ref qF, .ref qY, .ref qZ, .ref qu, .ref qv, .ref qw, .ref qg, .ref qh, .ref qx, .ref qc, .ref qa, .ref qb, .ref qd, .int (iI fm), .ref qp, .ref qq])), (qx, eL t.2.1 54 u47)]) [0, 1] (by decide) rfl
                          exact retv (1, u47) _ _ 404 _ _ d_Mo_squareSign_404 ⟨rfl, (by show 1 = _; rw [eV]; unfold rsZ; rw [if_neg (by omega), if_neg (by omega), if_pos (by rw [szX, q4]; (first | rw [sgn_gt] at h378 | rw [sgn_le] at h378); simp; omega)])⟩ hP9 hD9 hS
                        · refine z_iconst hC d_Mo_squareSign_391 ?_
                          refine z_goto (tgt := 396) hC d_Mo_squareSign_392 (by decide) ?_
                          refine z_icmp_ne (tgt := 403) hC d_Mo_squareSign_396 (by decide) (by decide) (by decide) (fun _ => ?_) (fun h => absurd h (by decide))
                          refine z_iconst hC d_Mo_squareSign_403 ?_
                          have hP9 := hP.sub (ws' := [(o, .inr (5, [.int (iI cd), .int (iI z), .int (iI lv), .ref qT, .ref qC, .ref qF, .ref qY, .ref qZ, .ref qu, .ref qv, .ref qw, .ref qg, .ref qh, .ref qx, .ref qc, .ref qa, .ref qb, .ref qd, .int (iI fm), .ref qp, .ref qq])), (qx, eL t.2.1 54 u47)]) [0, 1] rfl
                          have hD9 := hD.sub (ws' := [(o, .inr (5, [.int (iI cd), .int (iI z), .int (iI lv), .ref qT, .ref qC, .ref qF, .ref qY, .ref qZ, .ref qu, .ref qv, .ref qw, .ref qg, .ref qh, .ref qx, .ref qc, .ref qa, .ref qb, .ref qd, .int (iI fm), .ref qp, .ref qq])), (qx, eL t.2.1 54 u47)]) [0, 1] (by decide) rfl
                          exact retv (-1, u47) _ _ 404 _ _ d_Mo_squareSign_404 ⟨rfl, (by show -1 = _; rw [eV]; unfold rsZ; rw [if_neg (by omega), if_neg (by omega), if_neg (by rw [szX, q4]; (first | rw [sgn_gt] at h378 | rw [sgn_le] at h378); simp; omega)])⟩ hP9 hD9 hS
                      · refine z_iconst hC d_Mo_squareSign_381 ?_
                        refine z_goto (tgt := 386) hC d_Mo_squareSign_382 (by decide) ?_
                        refine lv_iload hC.1 hC.2.1 d_Mo_squareSign_386 (lv_at hl 1 rfl) ?_
                        refine z_if_le (tgt := 395) hC d_Mo_squareSign_388 (by decide) (by have := sgn_in ((L * (szZ (2 * p + q))) - (((szZ od) * (szZ od)) * 2)); omega) (fun h388 => ?_) (fun h388 => ?_)
                        · refine z_iconst hC d_Mo_squareSign_395 ?_
                          refine z_icmp_ne (tgt := 403) hC d_Mo_squareSign_396 (by decide) (by decide) (by decide) (fun _ => ?_) (fun h => absurd h (by decide))
                          refine z_iconst hC d_Mo_squareSign_403 ?_
                          have hP9 := hP.sub (ws' := [(o, .inr (5, [.int (iI cd), .int (iI z), .int (iI lv), .ref qT, .ref qC, .ref qF, .ref qY, .ref qZ, .ref qu, .ref qv, .ref qw, .ref qg, .ref qh, .ref qx, .ref qc, .ref qa, .ref qb, .ref qd, .int (iI fm), .ref qp, .ref qq])), (qx, eL t.2.1 54 u47)]) [0, 1] rfl
                          have hD9 := hD.sub (ws' := [(o, .inr (5, [.int (iI cd), .int (iI z), .int (iI lv), .ref qT, .ref qC, .ref qF, .ref qY, .ref qZ, .ref qu, .ref qv, .ref qw, .ref qg, .ref qh, .ref qx, .ref qc, .ref qa, .ref qb, .ref qd, .int (iI fm), .ref qp, .ref qq])), (qx, eL t.2.1 54 u47)]) [0, 1] (by decide) rfl
                          exact retv (-1, u47) _ _ 404 _ _ d_Mo_squareSign_404 ⟨rfl, (by show -1 = _; rw [eV]; unfold rsZ; rw [if_neg (by omega), if_neg (by omega), if_neg (by rw [szX, q4]; (first | rw [sgn_gt] at h378 | rw [sgn_le] at h378); simp; omega)])⟩ hP9 hD9 hS
                        · refine z_iconst hC d_Mo_squareSign_391 ?_
                          refine z_goto (tgt := 396) hC d_Mo_squareSign_392 (by decide) ?_
                          refine z_icmp_ne (tgt := 403) hC d_Mo_squareSign_396 (by decide) (by decide) (by decide) (fun h => absurd h (by decide)) (fun _ => ?_)
                          refine z_iconst hC d_Mo_squareSign_399 ?_
                          refine z_goto (tgt := 404) hC d_Mo_squareSign_400 (by decide) ?_
                          have hP9 := hP.sub (ws' := [(o, .inr (5, [.int (iI cd), .int (iI z), .int (iI lv), .ref qT, .ref qC, .ref qF, .ref qY, .ref qZ, .ref qu, .ref qv, .ref qw, .ref qg, .ref qh, .ref qx, .ref qc, .ref qa, .ref qb, .ref qd, .int (iI fm), .ref qp, .ref qq])), (qx, eL t.2.1 54 u47)]) [0, 1] rfl
                          have hD9 := hD.sub (ws' := [(o, .inr (5, [.int (iI cd), .int (iI z), .int (iI lv), .ref qT, .ref qC, .ref qF, .ref qY, .ref qZ, .ref qu, .ref qv, .ref qw, .ref qg, .ref qh, .ref qx, .ref qc, .ref qa, .ref qb, .ref qd, .int (iI fm), .ref qp, .ref qq])), (qx, eL t.2.1 54 u47)]) [0, 1] (by decide) rfl
                          exact retv (1, u47) _ _ 404 _ _ d_Mo_squareSign_404 ⟨rfl, (by show 1 = _; rw [eV]; unfold rsZ; rw [if_neg (by omega), if_neg (by omega), if_pos (by rw [szX, q4]; (first | rw [sgn_gt] at h378 | rw [sgn_le] at h378); simp; omega)])⟩ hP9 hD9 hS
                  · refine lv_iload hC.1 hC.2.1 d_Mo_squareSign_310 (lv_at hl 0 rfl) ?_
                    refine z_if_lt (tgt := 331) hC d_Mo_squareSign_312 (by decide) (by decide) (fun h => absurd h (by decide)) (fun _ => ?_)
                    refine lv_iload hC.1 hC.2.1 d_Mo_squareSign_315 (lv_at hl 1 rfl) ?_
                    refine z_if_ne (tgt := 329) hC d_Mo_squareSign_317 (by decide) (by have := sgn_in ((L * (szZ (2 * p + q))) - (((szZ od) * (szZ od)) * 2)); omega) (fun h317 => ?_) (fun h317 => ?_)
                    · refine z_iconst hC d_Mo_squareSign_329 ?_
                      have hP9 := hP.sub (ws' := [(o, .inr (5, [.int (iI cd), .int (iI z), .int (iI lv), .ref qT, .ref qC, .ref qF, .ref qY, .ref qZ, .ref qu, .ref qv, .ref qw, .ref qg, .ref qh, .ref qx, .ref qc, .ref qa, .ref qb, .ref qd, .int (iI fm), .ref qp, .ref qq])), (qx, eL t.2.1 54 u35)]) [0, 1] rfl
                      have hD9 := hD.sub (ws' := [(o, .inr (5, [.int (iI cd), .int (iI z), .int (iI lv), .ref qT, .ref qC, .ref qF, .ref qY, .ref qZ, .ref qu, .ref qv, .ref qw, .ref qg, .ref qh, .ref qx, .ref qc, .ref qa, .ref qb, .ref qd, .int (iI fm), .ref qp, .ref qq])), (qx, eL t.2.1 54 u35)]) [0, 1] (by decide) rfl
                      exact retv (1, u35) _ _ 330 _ _ d_Mo_squareSign_330 ⟨rfl, (by show 1 = _; rw [eV]; unfold rsZ; rw [if_pos (by omega), if_neg (by omega)])⟩ hP9 hD9 hS
                    · refine lv_iload hC.1 hC.2.1 d_Mo_squareSign_320 (lv_at hl 0 rfl) ?_
                      refine z_if_ne (tgt := 329) hC d_Mo_squareSign_322 (by decide) (by decide) (fun _ => ?_) (fun h => absurd h (by decide))
                      refine z_iconst hC d_Mo_squareSign_329 ?_
                      have hP9 := hP.sub (ws' := [(o, .inr (5, [.int (iI cd), .int (iI z), .int (iI lv), .ref qT, .ref qC, .ref qF, .ref qY, .ref qZ, .ref qu, .ref qv, .ref qw, .ref qg, .ref qh, .ref qx, .ref qc, .ref qa, .ref qb, .ref qd, .int (iI fm), .ref qp, .ref qq])), (qx, eL t.2.1 54 u35)]) [0, 1] rfl
                      have hD9 := hD.sub (ws' := [(o, .inr (5, [.int (iI cd), .int (iI z), .int (iI lv), .ref qT, .ref qC, .ref qF, .ref qY, .ref qZ, .ref qu, .ref qv, .ref qw, .ref qg, .ref qh, .ref qx, .ref qc, .ref qa, .ref qb, .ref qd, .int (iI fm), .ref qp, .ref qq])), (qx, eL t.2.1 54 u35)]) [0, 1] (by decide) rfl
                      exact retv (1, u35) _ _ 330 _ _ d_Mo_squareSign_330 ⟨rfl, (by show 1 = _; rw [eV]; unfold rsZ; rw [if_pos (by omega), if_neg (by omega)])⟩ hP9 hD9 hS
              · refine z_iconst hC d_Mo_squareSign_287 ?_
                refine z_goto (tgt := 303) hC d_Mo_squareSign_288 (by decide) ?_
                refine lv_istore (lv' := [(15, .int (iI (-1))), (14, .int (iI (sgn ((L * (szZ (2 * p + q))) - (((szZ od) * (szZ od)) * 2))))), (13, .int (iI (zB no))), (12, .int (iI 2)), (11, .int (iI (sgn ((L * (szZ (2 * p + q))) - (((szZ od) * (szZ od)) * 2))))), (10, .int (iI 0)), (8, .long (lI L)), (0, .ref o), (1, .long (lI od)), (3, .int (iI len)), (4, .long (lI p)), (6, .long (lI q))]) hC.1 hC.2.1 d_Mo_squareSign_303 hl (by decide) rfl (fun ls hl => ?_)
                refine lv_iload hC.1 hC.2.1 d_Mo_squareSign_305 (lv_at hl 1 rfl) ?_
                refine z_if_lt (tgt := 331) hC d_Mo_squareSign_307 (by decide) (by have := sgn_in ((L * (szZ (2 * p + q))) - (((szZ od) * (szZ od)) * 2)); omega) (fun h307 => ?_) (fun h307 => ?_)
                · refine lv_iload hC.1 hC.2.1 d_Mo_squareSign_331 (lv_at hl 1 rfl) ?_
                  refine z_if_gt (tgt := 343) hC d_Mo_squareSign_333 (by decide) (by have := sgn_in ((L * (szZ (2 * p + q))) - (((szZ od) * (szZ od)) * 2)); omega) (fun h333 => ?_) (fun h333 => ?_)
                  · refine lv_aload_n hC.1 hC.2.1 d_Mo_squareSign_343 rfl (lv_at hl 7 rfl) ?_
                    refine z_iconst hC d_Mo_squareSign_344 ?_
                    refine z_iconst hC d_Mo_squareSign_345 ?_
                    refine z_iconst hC d_Mo_squareSign_346 ?_
                    refine z_mVv (As := [.int (iI 5), .int (iI 4), .int (iI 4)]) (rest := []) (wr := []) hC (c_Mo_product l D t ts o qT qC qF qY qZ qu qv qw qg qh qx qc qa qb qd qp qq cd z lv fm u35 5 4 4 X4 X4 (by decide) (by decide) (by decide) (by decide) (by decide) b4_u35 b4_u35 (by omega) (by omega) (by have := p9; have := mul_bd (a := X4) (b := X4) (A := 210000000000000000000000000000) (B := 210000000000000000000000000000) (by omega) (by omega); omega) _) (cw_V hC k_590 k_592 kp_35 k_6 k_593 ye_Mo_product (by decide)) hP hD hK hE hS hA [0, 1] [] (by decide) rfl rfl (by decide) (by decide) 0 (ci := 5) rfl rfl rfl rfl hl.1 rfl (Nat.le_of_ble_eq_true rfl) ⟨Nat.le_of_ble_eq_true rfl, Nat.le_of_ble_eq_true rfl⟩ d_Mo_squareSign_347 (fun u48 H locs eu48 hP hD hS => ?_)
                    have b3_u48 : bk u48 (9 * 3) ((szZ od) * (szZ od)) := bk_keep b3_u35 eu48.2 (by omega)
                    have b4_u48 : bk u48 (9 * 4) X4 := bk_keep b4_u35 eu48.2 (by omega)
                    have b0_u48 : bk u48 (9 * 0) L := bk_keep b0_u35 eu48.2 (by omega)
                    have b1_u48 : bk u48 (9 * 1) (szZ q) := bk_keep b1_u35 eu48.2 (by omega)
                    have b2_u48 : bk u48 (9 * 2) (L * (szZ q)) := bk_keep b2_u35 eu48.2 (by omega)
                    have b5_u48 : bk u48 (9 * 5) (X4 * X4) := eu48.1
                    have hP : va_P D classes [(o, .inr (5, [.int (iI cd), .int (iI z), .int (iI lv), .ref qT, .ref qC, .ref qF, .ref qY, .ref qZ, .ref qu, .ref qv, .ref qw, .ref qg, .ref qh, .ref qx, .ref qc, .ref qa, .ref qb, .ref qd, .int (iI fm), .ref qp, .ref qq])), (qx, eL t.2.1 54 u48)] H := hP
                    have hD : va_D A [(o, .inr (5, [.int (iI cd), .int (iI z), .int (iI lv), .ref qT, .ref qC, .ref qF, .ref qY, .ref qZ, .ref qu, .ref qv, .ref qw, .ref qg, .ref qh, .ref qx, .ref qc, .ref qa, .ref qb, .ref qd, .int (iI fm), .ref qp, .ref qq])), (qx, eL t.2.1 54 u48)] := hD
                    refine lv_aload_n hC.1 hC.2.1 d_Mo_squareSign_350 rfl (lv_at hl 7 rfl) ?_
                    refine z_iconst hC d_Mo_squareSign_351 ?_
                    refine z_iconst hC d_Mo_squareSign_352 ?_
                    refine z_iconst hC d_Mo_squareSign_353 ?_
                    refine z_mVv (As := [.int (iI 3), .int (iI 2), .int (iI 2)]) (rest := []) (wr := []) hC (c_Mo_product l D t ts o qT qC qF qY qZ qu qv qw qg qh qx qc qa qb qd qp qq cd z lv fm u48 3 2 2 (L * (szZ q)) (L * (szZ q)) (by decide) (by decide) (by decide) (by decide) (by decide) b2_u48 b2_u48 (by omega) (by omega) (by have := p9; have := mul_bd (a := L * (szZ q)) (b := L * (szZ q)) (A := 10000000000000000000000000000) (B := 10000000000000000000000000000) (by omega) (by omega); omega) _) (cw_V hC k_590 k_592 kp_35 k_6 k_593 ye_Mo_product (by decide)) hP hD hK hE hS hA [0, 1] [] (by decide) rfl rfl (by decide) (by decide) 0 (ci := 5) rfl rfl rfl rfl hl.1 rfl (Nat.le_of_ble_eq_true rfl) ⟨Nat.le_of_ble_eq_true rfl, Nat.le_of_ble_eq_true rfl⟩ d_Mo_squareSign_354 (fun u49 H locs eu49 hP hD hS => ?_)
                    have b4_u49 : bk u49 (9 * 4) X4 := bk_keep b4_u48 eu49.2 (by omega)
                    have b0_u49 : bk u49 (9 * 0) L := bk_keep b0_u48 eu49.2 (by omega)
                    have b1_u49 : bk u49 (9 * 1) (szZ q) := bk_keep b1_u48 eu49.2 (by omega)
                    have b2_u49 : bk u49 (9 * 2) (L * (szZ q)) := bk_keep b2_u48 eu49.2 (by omega)
                    have b5_u49 : bk u49 (9 * 5) (X4 * X4) := bk_keep b5_u48 eu49.2 (by omega)
                    have b3_u49 : bk u49 (9 * 3) ((L * (szZ q)) * (L * (szZ q))) := eu49.1
                    have hP : va_P D classes [(o, .inr (5, [.int (iI cd), .int (iI z), .int (iI lv), .ref qT, .ref qC, .ref qF, .ref qY, .ref qZ, .ref qu, .ref qv, .ref qw, .ref qg, .ref qh, .ref qx, .ref qc, .ref qa, .ref qb, .ref qd, .int (iI fm), .ref qp, .ref qq])), (qx, eL t.2.1 54 u49)] H := hP
                    have hD : va_D A [(o, .inr (5, [.int (iI cd), .int (iI z), .int (iI lv), .ref qT, .ref qC, .ref qF, .ref qY, .ref qZ, .ref qu, .ref qv, .ref qw, .ref qg, .ref qh, .ref qx, .ref qc, .ref qa, .ref qb, .ref qd, .int (iI fm), .ref qp, .ref qq])), (qx, eL t.2.1 54 u49)] := hD
                    refine lv_aload_n hC.1 hC.2.1 d_Mo_squareSign_357 rfl (lv_at hl 7 rfl) ?_
                    refine z_iconst hC d_Mo_squareSign_358 ?_
                    refine z_ldc2 hC k_594 d_Mo_squareSign_359 ?_
                    refine z_mVv (As := [.int (iI 0), .long (lI 5)]) (rest := []) (wr := []) hC (c_Mo_be l D t ts o qT qC qF qY qZ qu qv qw qg qh qx qc qa qb qd qp qq cd z lv fm u49 0 5 (by decide) (by decide) _) (cw_V hC k_585 k_587 kp_34 k_6 k_588 ye_Mo_be (by decide)) hP hD hK hE hS hA [0, 1] [] (by decide) rfl rfl (by decide) (by decide) 0 (ci := 5) rfl rfl rfl rfl hl.1 rfl (Nat.le_of_ble_eq_true rfl) ⟨Nat.le_of_ble_eq_true rfl, Nat.le_of_ble_eq_true rfl⟩ d_Mo_squareSign_362 (fun u50 H locs eu50 hP hD hS => ?_)
                    have b4_u50 : bk u50 (9 * 4) X4 := bk_keep b4_u49 eu50.2 (by omega)
                    have b1_u50 : bk u50 (9 * 1) (szZ q) := bk_keep b1_u49 eu50.2 (by omega)
                    have b2_u50 : bk u50 (9 * 2) (L * (szZ q)) := bk_keep b2_u49 eu50.2 (by omega)
                    have b5_u50 : bk u50 (9 * 5) (X4 * X4) := bk_keep b5_u49 eu50.2 (by omega)
                    have b3_u50 : bk u50 (9 * 3) ((L * (szZ q)) * (L * (szZ q))) := bk_keep b3_u49 eu50.2 (by omega)
                    have b0_u50 : bk u50 (9 * 0) 5 := eu50.1
                    have hP : va_P D classes [(o, .inr (5, [.int (iI cd), .int (iI z), .int (iI lv), .ref qT, .ref qC, .ref qF, .ref qY, .ref qZ, .ref qu, .ref qv, .ref qw, .ref qg, .ref qh, .ref qx, .ref qc, .ref qa, .ref qb, .ref qd, .int (iI fm), .ref qp, .ref qq])), (qx, eL t.2.1 54 u50)] H := hP
                    have hD : va_D A [(o, .inr (5, [.int (iI cd), .int (iI z), .int (iI lv), .ref qT, .ref qC, .ref qF, .ref qY, .ref qZ, .ref qu, .ref qv, .ref qw, .ref qg, .ref qh, .ref qx, .ref qc, .ref qa, .ref qb, .ref qd, .int (iI fm), .ref qp, .ref qq])), (qx, eL t.2.1 54 u50)] := hD
                    refine lv_aload_n hC.1 hC.2.1 d_Mo_squareSign_365 rfl (lv_at hl 7 rfl) ?_
                    refine z_iconst hC d_Mo_squareSign_366 ?_
                    refine z_iconst hC d_Mo_squareSign_367 ?_
                    refine z_iconst hC d_Mo_squareSign_368 ?_
                    refine z_mVv (As := [.int (iI 1), .int (iI 3), .int (iI 0)]) (rest := []) (wr := []) hC (c_Mo_product l D t ts o qT qC qF qY qZ qu qv qw qg qh qx qc qa qb qd qp qq cd z lv fm u50 1 3 0 ((L * (szZ q)) * (L * (szZ q))) 5 (by decide) (by decide) (by decide) (by decide) (by decide) b3_u50 b0_u50 (by omega) (by omega) (by have := p9; omega) _) (cw_V hC k_590 k_592 kp_35 k_6 k_593 ye_Mo_product (by decide)) hP hD hK hE hS hA [0, 1] [] (by decide) rfl rfl (by decide) (by decide) 0 (ci := 5) rfl rfl rfl rfl hl.1 rfl (Nat.le_of_ble_eq_true rfl) ⟨Nat.le_of_ble_eq_true rfl, Nat.le_of_ble_eq_true rfl⟩ d_Mo_squareSign_369 (fun u51 H locs eu51 hP hD hS => ?_)
                    have b4_u51 : bk u51 (9 * 4) X4 := bk_keep b4_u50 eu51.2 (by omega)
                    have b2_u51 : bk u51 (9 * 2) (L * (szZ q)) := bk_keep b2_u50 eu51.2 (by omega)
                    have b5_u51 : bk u51 (9 * 5) (X4 * X4) := bk_keep b5_u50 eu51.2 (by omega)
                    have b3_u51 : bk u51 (9 * 3) ((L * (szZ q)) * (L * (szZ q))) := bk_keep b3_u50 eu51.2 (by omega)
                    have b0_u51 : bk u51 (9 * 0) 5 := bk_keep b0_u50 eu51.2 (by omega)
                    have b1_u51 : bk u51 (9 * 1) (((L * (szZ q)) * (L * (szZ q))) * 5) := eu51.1
                    have hP : va_P D classes [(o, .inr (5, [.int (iI cd), .int (iI z), .int (iI lv), .ref qT, .ref qC, .ref qF, .ref qY, .ref qZ, .ref qu, .ref qv, .ref qw, .ref qg, .ref qh, .ref qx, .ref qc, .ref qa, .ref qb, .ref qd, .int (iI fm), .ref qp, .ref qq])), (qx, eL t.2.1 54 u51)] H := hP
                    have hD : va_D A [(o, .inr (5, [.int (iI cd), .int (iI z), .int (iI lv), .ref qT, .ref qC, .ref qF, .ref qY, .ref qZ, .ref qu, .ref qv, .ref qw, .ref qg, .ref qh, .ref qx, .ref qc, .ref qa, .ref qb, .ref qd, .int (iI fm), .ref qp, .ref qq])), (qx, eL t.2.1 54 u51)] := hD
                    refine lv_aload_n hC.1 hC.2.1 d_Mo_squareSign_372 rfl (lv_at hl 7 rfl) ?_
                    refine z_iconst hC d_Mo_squareSign_373 ?_
                    refine z_iconst hC d_Mo_squareSign_374 ?_
                    refine z_roVi (As := [.int (iI 5), .int (iI 1)]) (rest := []) hC (c_Mo_compare l D t ts o qT qC qF qY qZ qu qv qw qg qh qx qc qa qb qd qp qq cd z lv fm u51 5 1 (X4 * X4) (((L * (szZ q)) * (L * (szZ q))) * 5) (by decide) (by decide) b5_u51 b1_u51) (cw_V hC k_595 k_597 kp_36 k_6 k_598 ye_Mo_compare (by decide)) hP hK hE hS [0, 1] rfl 0 (ci := 5) rfl rfl rfl rfl hl.1 rfl (Nat.le_of_ble_eq_true rfl) ⟨Nat.le_of_ble_eq_true rfl, Nat.le_of_ble_eq_true rfl⟩ d_Mo_squareSign_375 ?_
                    have h378s := sgn_in (X4 * X4 - (L * szZ q) * (L * szZ q) * 5)
                    refine z_if_le (tgt := 385) hC d_Mo_squareSign_378 (by decide) (by have := sgn_in ((X4 * X4) - (((L * (szZ q)) * (L * (szZ q))) * 5)); omega) (fun h378 => ?_) (fun h378 => ?_)
                    · refine z_iconst hC d_Mo_squareSign_385 ?_
                      refine lv_iload hC.1 hC.2.1 d_Mo_squareSign_386 (lv_at hl 1 rfl) ?_
                      refine z_if_le (tgt := 395) hC d_Mo_squareSign_388 (by decide) (by have := sgn_in ((L * (szZ (2 * p + q))) - (((szZ od) * (szZ od)) * 2)); omega) (fun h388 => ?_) (fun h388 => ?_)
                      · refine z_iconst hC d_Mo_squareSign_395 ?_
                        refine z_icmp_ne (tgt := 403) hC d_Mo_squareSign_396 (by decide) (by decide) (by decide) (fun h => absurd h (by decide)) (fun _ => ?_)
                        refine z_iconst hC d_Mo_squareSign_399 ?_
                        refine z_goto (tgt := 404) hC d_Mo_squareSign_400 (by decide) ?_
                        have hP9 := hP.sub (ws' := [(o, .inr (5, [.int (iI cd), .int (iI z), .int (iI lv), .ref qT, .ref qC, .ref qF, .ref qY, .ref qZ, .ref qu, .ref qv, .ref qw, .ref qg, .ref qh, .ref qx, .ref qc, .ref qa, .ref qb, .ref qd, .int (iI fm), .ref qp, .ref qq])), (qx, eL t.2.1 54 u51)]) [0, 1] rfl
                        have hD9 := hD.sub (ws' := [(o, .inr (5, [.int (iI cd), .int (iI z), .int (iI lv), .ref qT, .ref qC, .ref qF, .ref qY, .ref qZ, .ref qu, .ref qv, .ref qw, .ref qg, .ref qh, .ref qx, .ref qc, .ref qa, .ref qb, .ref qd, .int (iI fm), .ref qp, .ref qq])), (qx, eL t.2.1 54 u51)]) [0, 1] (by decide) rfl
                        exact retv (1, u51) _ _ 404 _ _ d_Mo_squareSign_404 ⟨rfl, (by show 1 = _; rw [eV]; unfold rsZ; rw [if_neg (by omega), if_neg (by omega), if_pos (by rw [szX, q4]; (first | rw [sgn_gt] at h378 | rw [sgn_le] at h378); simp; omega)])⟩ hP9 hD9 hS
                      · refine z_iconst hC d_Mo_squareSign_391 ?_
                        refine z_goto (tgt := 396) hC d_Mo_squareSign_392 (by decide) ?_
                        refine z_icmp_ne (tgt := 403) hC d_Mo_squareSign_396 (by decide) (by decide) (by decide) (fun _ => ?_) (fun h => absurd h (by decide))
                        refine z_iconst hC d_Mo_squareSign_403 ?_
                        have hP9 := hP.sub (ws' := [(o, .inr (5, [.int (iI cd), .int (iI z), .int (iI lv), .ref qT, .ref qC, .ref qF, .ref qY, .ref qZ, .ref qu, .ref qv, .ref qw, .ref qg, .ref qh, .ref qx, .ref qc, .ref qa, .ref qb, .ref qd, .int (iI fm), .ref qp, .ref qq])), (qx, eL t.2.1 54 u51)]) [0, 1] rfl
                        have hD9 := hD.sub (ws' := [(o, .inr (5, [.int (iI cd), .int (iI z), .int (iI lv), .ref qT, .ref qC, .ref qF, .ref qY, .ref qZ, .ref qu, .ref qv, .ref qw, .ref qg, .ref qh, .ref qx, .ref qc, .ref qa, .ref qb, .ref qd, .int (iI fm), .ref qp, .ref qq])), (qx, eL t.2.1 54 u51)]) [0, 1] (by decide) rfl
                        exact retv (-1, u51) _ _ 404 _ _ d_Mo_squareSign_404 ⟨rfl, (by show -1 = _; rw [eV]; unfold rsZ; rw [if_neg (by omega), if_neg (by omega), if_neg (by rw [szX, q4]; (first | rw [sgn_gt] at h378 | rw [sgn_le] at h378); simp; omega)])⟩ hP9 hD9 hS
                    · refine z_iconst hC d_Mo_squareSign_381 ?_
                      refine z_goto (tgt := 386) hC d_Mo_squareSign_382 (by decide) ?_
                      refine lv_iload hC.1 hC.2.1 d_Mo_squareSign_386 (lv_at hl 1 rfl) ?_
                      refine z_if_le (tgt := 395) hC d_Mo_squareSign_388 (by decide) (by have := sgn_in ((L * (szZ (2 * p + q))) - (((szZ od) * (szZ od)) * 2)); omega) (fun h388 => ?_) (fun h388 => ?_)
                      · refine z_iconst hC d_Mo_squareSign_395 ?_
                        refine z_icmp_ne (tgt := 403) hC d_Mo_squareSign_396 (by decide) (by decide) (by decide) (fun _ => ?_) (fun h => absurd h (by decide))
                        refine z_iconst hC d_Mo_squareSign_403 ?_
                        have hP9 := hP.sub (ws' := [(o, .inr (5, [.int (iI cd), .int (iI z), .int (iI lv), .ref qT, .ref qC, .ref qF, .ref qY, .ref qZ, .ref qu, .ref qv, .ref qw, .ref qg, .ref qh, .ref qx, .ref qc, .ref qa, .ref qb, .ref qd, .int (iI fm), .ref qp, .ref qq])), (qx, eL t.2.1 54 u51)]) [0, 1] rfl
                        have hD9 := hD.sub (ws' := [(o, .inr (5, [.int (iI cd), .int (iI z), .int (iI lv), .ref qT, .ref qC, .ref qF, .ref qY, .ref qZ, .ref qu, .ref qv, .ref qw, .ref qg, .ref qh, .ref qx, .ref qc, .ref qa, .ref qb, .ref qd, .int (iI fm), .ref qp, .ref qq])), (qx, eL t.2.1 54 u51)]) [0, 1] (by decide) rfl
                        exact retv (-1, u51) _ _ 404 _ _ d_Mo_squareSign_404 ⟨rfl, (by show -1 = _; rw [eV]; unfold rsZ; rw [if_neg (by omega), if_neg (by omega), if_neg (by rw [szX, q4]; (first | rw [sgn_gt] at h378 | rw [sgn_le] at h378); simp; omega)])⟩ hP9 hD9 hS
                      · refine z_iconst hC d_Mo_squareSign_391 ?_
                        refine z_goto (tgt := 396) hC d_Mo_squareSign_392 (by decide) ?_
                        refine z_icmp_ne (tgt := 403) hC d_Mo_squareSign_396 (by decide) (by decide) (by decide) (fun h => absurd h (by decide)) (fun _ => ?_)
                        refine z_iconst hC d_Mo_squareSign_399 ?_
                        refine z_goto (tgt := 404) hC d_Mo_squareSign_400 (by decide) ?_
                        have hP9 := hP.sub (ws' := [(o, .inr (5, [.int (iI cd), .int (iI z), .int (iI lv), .ref qT, .ref qC, .ref qF, .ref qY, .ref qZ, .ref qu, .ref qv, .ref qw, .ref qg, .ref qh, .ref qx, .ref qc, .ref qa, .ref qb, .ref qd, .int (iI fm), .ref qp, .ref qq])), (qx, eL t.2.1 54 u51)]) [0, 1] rfl
                        have hD9 := hD.sub (ws' := [(o, .inr (5, [.int (iI cd), .int (iI z), .int (iI lv), .ref qT, .ref qC, .ref qF, .ref qY, .ref qZ, .ref qu, .ref qv, .ref qw, .ref qg, .ref qh, .ref qx, .ref qc, .ref qa, .ref qb, .ref qd, .int (iI fm), .ref qp, .ref qq])), (qx, eL t.2.1 54 u51)]) [0, 1] (by decide) rfl
                        exact retv (1, u51) _ _ 404 _ _ d_Mo_squareSign_404 ⟨rfl, (by show 1 = _; rw [eV]; unfold rsZ; rw [if_neg (by omega), if_neg (by omega), if_pos (by rw [szX, q4]; (first | rw [sgn_gt] at h378 | rw [sgn_le] at h378); simp; omega)])⟩ hP9 hD9 hS
                  · refine lv_iload hC.1 hC.2.1 d_Mo_squareSign_336 (lv_at hl 0 rfl) ?_
                    refine z_if_gt (tgt := 343) hC d_Mo_squareSign_338 (by decide) (by decide) (fun h => absurd h (by decide)) (fun _ => ?_)
                    refine z_iconst hC d_Mo_squareSign_341 ?_
                    have hP9 := hP.sub (ws' := [(o, .inr (5, [.int (iI cd), .int (iI z), .int (iI lv), .ref qT, .ref qC, .ref qF, .ref qY, .ref qZ, .ref qu, .ref qv, .ref qw, .ref qg, .ref qh, .ref qx, .ref qc, .ref qa, .ref qb, .ref qd, .int (iI fm), .ref qp, .ref qq])), (qx, eL t.2.1 54 u35)]) [0, 1] rfl
                    have hD9 := hD.sub (ws' := [(o, .inr (5, [.int (iI cd), .int (iI z), .int (iI lv), .ref qT, .ref qC, .ref qF, .ref qY, .ref qZ, .ref qu, .ref qv, .ref qw, .ref qg, .ref qh, .ref qx, .ref qc, .ref qa, .ref qb, .ref qd, .int (iI fm), .ref qp, .ref qq])), (qx, eL t.2.1 54 u35)]) [0, 1] (by decide) rfl
                    exact retv (-1, u35) _ _ 342 _ _ d_Mo_squareSign_342 ⟨rfl, (by show -1 = _; rw [eV]; unfold rsZ; rw [if_neg (by omega), if_pos (by omega)])⟩ hP9 hD9 hS
                · refine lv_iload hC.1 hC.2.1 d_Mo_squareSign_310 (lv_at hl 0 rfl) ?_
                  refine z_if_lt (tgt := 331) hC d_Mo_squareSign_312 (by decide) (by decide) (fun _ => ?_) (fun h => absurd h (by decide))
                  refine lv_iload hC.1 hC.2.1 d_Mo_squareSign_331 (lv_at hl 1 rfl) ?_
                  refine z_if_gt (tgt := 343) hC d_Mo_squareSign_333 (by decide) (by have := sgn_in ((L * (szZ (2 * p + q))) - (((szZ od) * (szZ od)) * 2)); omega) (fun h333 => ?_) (fun h333 => ?_)
                  · refine lv_aload_n hC.1 hC.2.1 d_Mo_squareSign_343 rfl (lv_at hl 7 rfl) ?_
                    refine z_iconst hC d_Mo_squareSign_344 ?_
                    refine z_iconst hC d_Mo_squareSign_345 ?_
                    refine z_iconst hC d_Mo_squareSign_346 ?_
                    refine z_mVv (As := [.int (iI 5), .int (iI 4), .int (iI 4)]) (rest := []) (wr := []) hC (c_Mo_product l D t ts o qT qC qF qY qZ qu qv qw qg qh qx qc qa qb qd qp qq cd z lv fm u35 5 4 4 X4 X4 (by decide) (by decide) (by decide) (by decide) (by decide) b4_u35 b4_u35 (by omega) (by omega) (by have := p9; have := mul_bd (a := X4) (b := X4) (A := 210000000000000000000000000000) (B := 210000000000000000000000000000) (by omega) (by omega); omega) _) (cw_V hC k_590 k_592 kp_35 k_6 k_593 ye_Mo_product (by decide)) hP hD hK hE hS hA [0, 1] [] (by decide) rfl rfl (by decide) (by decide) 0 (ci := 5) rfl rfl rfl rfl hl.1 rfl (Nat.le_of_ble_eq_true rfl) ⟨Nat.le_of_ble_eq_true rfl, Nat.le_of_ble_eq_true rfl⟩ d_Mo_squareSign_347 (fun u52 H locs eu52 hP hD hS => ?_)
                    have b3_u52 : bk u52 (9 * 3) ((szZ od) * (szZ od)) := bk_keep b3_u35 eu52.2 (by omega)
                    have b4_u52 : bk u52 (9 * 4) X4 := bk_keep b4_u35 eu52.2 (by omega)
                    have b0_u52 : bk u52 (9 * 0) L := bk_keep b0_u35 eu52.2 (by omega)
                    have b1_u52 : bk u52 (9 * 1) (szZ q) := bk_keep b1_u35 eu52.2 (by omega)
                    have b2_u52 : bk u52 (9 * 2) (L * (szZ q)) := bk_keep b2_u35 eu52.2 (by omega)
                    have b5_u52 : bk u52 (9 * 5) (X4 * X4) := eu52.1
                    have hP : va_P D classes [(o, .inr (5, [.int (iI cd), .int (iI z), .int (iI lv), .ref qT, .ref qC, .ref qF, .ref qY, .ref qZ, .ref qu, .ref qv, .ref qw, .ref qg, .ref qh, .ref qx, .ref qc, .ref qa, .ref qb, .ref qd, .int (iI fm), .ref qp, .ref qq])), (qx, eL t.2.1 54 u52)] H := hP
                    have hD : va_D A [(o, .inr (5, [.int (iI cd), .int (iI z), .int (iI lv), .ref qT, .ref qC, .ref qF, .ref qY, .ref qZ, .ref qu, .ref qv, .ref qw, .ref qg, .ref qh, .ref qx, .ref qc, .ref qa, .ref qb, .ref qd, .int (iI fm), .ref qp, .ref qq])), (qx, eL t.2.1 54 u52)] := hD
                    refine lv_aload_n hC.1 hC.2.1 d_Mo_squareSign_350 rfl (lv_at hl 7 rfl) ?_
                    refine z_iconst hC d_Mo_squareSign_351 ?_
                    refine z_iconst hC d_Mo_squareSign_352 ?_
                    refine z_iconst hC d_Mo_squareSign_353 ?_
                    refine z_mVv (As := [.int (iI 3), .int (iI 2), .int (iI 2)]) (rest := []) (wr := []) hC (c_Mo_product l D t ts o qT qC qF qY qZ qu qv qw qg qh qx qc qa qb qd qp qq cd z lv fm u52 3 2 2 (L * (szZ q)) (L * (szZ q)) (by decide) (by decide) (by decide) (by decide) (by decide) b2_u52 b2_u52 (by omega) (by omega) (by have := p9; have := mul_bd (a := L * (szZ q)) (b := L * (szZ q)) (A := 10000000000000000000000000000) (B := 10000000000000000000000000000) (by omega) (by omega); omega) _) (cw_V hC k_590 k_592 kp_35 k_6 k_593 ye_Mo_product (by decide)) hP hD hK hE hS hA [0, 1] [] (by decide) rfl rfl (by decide) (by decide) 0 (ci := 5) rfl rfl rfl rfl hl.1 rfl (Nat.le_of_ble_eq_true rfl) ⟨Nat.le_of_ble_eq_true rfl, Nat.le_of_ble_eq_true rfl⟩ d_Mo_squareSign_354 (fun u53 H locs eu53 hP hD hS => ?_)
                    have b4_u53 : bk u53 (9 * 4) X4 := bk_keep b4_u52 eu53.2 (by omega)
                    have b0_u53 : bk u53 (9 * 0) L := bk_keep b0_u52 eu53.2 (by omega)
                    have b1_u53 : bk u53 (9 * 1) (szZ q) := bk_keep b1_u52 eu53.2 (by omega)
                    have b2_u53 : bk u53 (9 * 2) (L * (szZ q)) := bk_keep b2_u52 eu53.2 (by omega)
                    have b5_u53 : bk u53 (9 * 5) (X4 * X4) := bk_keep b5_u52 eu53.2 (by omega)
                    have b3_u53 : bk u53 (9 * 3) ((L * (szZ q)) * (L * (szZ q))) := eu53.1
                    have hP : va_P D classes [(o, .inr (5, [.int (iI cd), .int (iI z), .int (iI lv), .ref qT, .ref qC, .ref qF, .ref qY, .ref qZ, .ref qu, .ref qv, .ref qw, .ref qg, .ref qh, .ref qx, .ref qc, .ref qa, .ref qb, .ref qd, .int (iI fm), .ref qp, .ref qq])), (qx, eL t.2.1 54 u53)] H := hP
                    have hD : va_D A [(o, .inr (5, [.int (iI cd), .int (iI z), .int (iI lv), .ref qT, .ref qC, .ref qF, .ref qY, .ref qZ, .ref qu, .ref qv, .ref qw, .ref qg, .ref qh, .ref qx, .ref qc, .ref qa, .ref qb, .ref qd, .int (iI fm), .ref qp, .ref qq])), (qx, eL t.2.1 54 u53)] := hD
                    refine lv_aload_n hC.1 hC.2.1 d_Mo_squareSign_357 rfl (lv_at hl 7 rfl) ?_
                    refine z_iconst hC d_Mo_squareSign_358 ?_
                    refine z_ldc2 hC k_594 d_Mo_squareSign_359 ?_
                    refine z_mVv (As := [.int (iI 0), .long (lI 5)]) (rest := []) (wr := []) hC (c_Mo_be l D t ts o qT qC qF qY qZ qu qv qw qg qh qx qc qa qb qd qp qq cd z lv fm u53 0 5 (by decide) (by decide) _) (cw_V hC k_585 k_587 kp_34 k_6 k_588 ye_Mo_be (by decide)) hP hD hK hE hS hA [0, 1] [] (by decide) rfl rfl (by decide) (by decide) 0 (ci := 5) rfl rfl rfl rfl hl.1 rfl (Nat.le_of_ble_eq_true rfl) ⟨Nat.le_of_ble_eq_true rfl, Nat.le_of_ble_eq_true rfl⟩ d_Mo_squareSign_362 (fun u54 H locs eu54 hP hD hS => ?_)
                    have b4_u54 : bk u54 (9 * 4) X4 := bk_keep b4_u53 eu54.2 (by omega)
                    have b1_u54 : bk u54 (9 * 1) (szZ q) := bk_keep b1_u53 eu54.2 (by omega)
                    have b2_u54 : bk u54 (9 * 2) (L * (szZ q)) := bk_keep b2_u53 eu54.2 (by omega)
                    have b5_u54 : bk u54 (9 * 5) (X4 * X4) := bk_keep b5_u53 eu54.2 (by omega)
                    have b3_u54 : bk u54 (9 * 3) ((L * (szZ q)) * (L * (szZ q))) := bk_keep b3_u53 eu54.2 (by omega)
                    have b0_u54 : bk u54 (9 * 0) 5 := eu54.1
                    have hP : va_P D classes [(o, .inr (5, [.int (iI cd), .int (iI z), .int (iI lv), .ref qT, .ref qC, .ref qF, .ref qY, .ref qZ, .ref qu, .ref qv, .ref qw, .ref qg, .ref qh, .ref qx, .ref qc, .ref qa, .ref qb, .ref qd, .int (iI fm), .ref qp, .ref qq])), (qx, eL t.2.1 54 u54)] H := hP
                    have hD : va_D A [(o, .inr (5, [.int (iI cd), .int (iI z), .int (iI lv), .ref qT, .ref qC, .ref qF, .ref qY, .ref qZ, .ref qu, .ref qv, .ref qw, .ref qg, .ref qh, .ref qx, .ref qc, .ref qa, .ref qb, .ref qd, .int (iI fm), .ref qp, .ref qq])), (qx, eL t.2.1 54 u54)] := hD
                    refine lv_aload_n hC.1 hC.2.1 d_Mo_squareSign_365 rfl (lv_at hl 7 rfl) ?_
                    refine z_iconst hC d_Mo_squareSign_366 ?_
                    refine z_iconst hC d_Mo_squareSign_367 ?_
                    refine z_iconst hC d_Mo_squareSign_368 ?_
                    refine z_mVv (As := [.int (iI 1), .int (iI 3), .int (iI 0)]) (rest := []) (wr := []) hC (c_Mo_product l D t ts o qT qC qF qY qZ qu qv qw qg qh qx qc qa qb qd qp qq cd z lv fm u54 1 3 0 ((L * (szZ q)) * (L * (szZ q))) 5 (by decide) (by decide) (by decide) (by decide) (by decide) b3_u54 b0_u54 (by omega) (by omega) (by have := p9; omega) _) (cw_V hC k_590 k_592 kp_35 k_6 k_593 ye_Mo_product (by decide)) hP hD hK hE hS hA [0, 1] [] (by decide) rfl rfl (by decide) (by decide) 0 (ci := 5) rfl rfl rfl rfl hl.1 rfl (Nat.le_of_ble_eq_true rfl) ⟨Nat.le_of_ble_eq_true rfl, Nat.le_of_ble_eq_true rfl⟩ d_Mo_squareSign_369 (fun u55 H locs eu55 hP hD hS => ?_)
                    have b4_u55 : bk u55 (9 * 4) X4 := bk_keep b4_u54 eu55.2 (by omega)
                    have b2_u55 : bk u55 (9 * 2) (L * (szZ q)) := bk_keep b2_u54 eu55.2 (by omega)
                    have b5_u55 : bk u55 (9 * 5) (X4 * X4) := bk_keep b5_u54 eu55.2 (by omega)
                    have b3_u55 : bk u55 (9 * 3) ((L * (szZ q)) * (L * (szZ q))) := bk_keep b3_u54 eu55.2 (by omega)
                    have b0_u55 : bk u55 (9 * 0) 5 := bk_keep b0_u54 eu55.2 (by omega)
                    have b1_u55 : bk u55 (9 * 1) (((L * (szZ q)) * (L * (szZ q))) * 5) := eu55.1
                    have hP : va_P D classes [(o, .inr (5, [.int (iI cd), .int (iI z), .int (iI lv), .ref qT, .ref qC, .ref qF, .ref qY, .ref qZ, .ref qu, .ref qv, .ref qw, .ref qg, .ref qh, .ref qx, .ref qc, .ref qa, .ref qb, .ref qd, .int (iI fm), .ref qp, .ref qq])), (qx, eL t.2.1 54 u55)] H := hP
                    have hD : va_D A [(o, .inr (5, [.int (iI cd), .int (iI z), .int (iI lv), .ref qT, .ref qC, .ref qF, .ref qY, .ref qZ, .ref qu, .ref qv, .ref qw, .ref qg, .ref qh, .ref qx, .ref qc, .ref qa, .ref qb, .ref qd, .int (iI fm), .ref qp, .ref qq])), (qx, eL t.2.1 54 u55)] := hD
                    refine lv_aload_n hC.1 hC.2.1 d_Mo_squareSign_372 rfl (lv_at hl 7 rfl) ?_
                    refine z_iconst hC d_Mo_squareSign_373 ?_
                    refine z_iconst hC d_Mo_squareSign_374 ?_
                    refine z_roVi (As := [.int (iI 5), .int (iI 1)]) (rest := []) hC (c_Mo_compare l D t ts o qT qC qF qY qZ qu qv qw qg qh qx qc qa qb qd qp qq cd z lv fm u55 5 1 (X4 * X4) (((L * (szZ q)) * (L * (szZ q))) * 5) (by decide) (by decide) b5_u55 b1_u55) (cw_V hC k_595 k_597 kp_36 k_6 k_598 ye_Mo_compare (by decide)) hP hK hE hS [0, 1] rfl 0 (ci := 5) rfl rfl rfl rfl hl.1 rfl (Nat.le_of_ble_eq_true rfl) ⟨Nat.le_of_ble_eq_true rfl, Nat.le_of_ble_eq_true rfl⟩ d_Mo_squareSign_375 ?_
                    have h378s := sgn_in (X4 * X4 - (L * szZ q) * (L * szZ q) * 5)
                    refine z_if_le (tgt := 385) hC d_Mo_squareSign_378 (by decide) (by have := sgn_in ((X4 * X4) - (((L * (szZ q)) * (L * (szZ q))) * 5)); omega) (fun h378 => ?_) (fun h378 => ?_)
                    · refine z_iconst hC d_Mo_squareSign_385 ?_
                      refine lv_iload hC.1 hC.2.1 d_Mo_squareSign_386 (lv_at hl 1 rfl) ?_
                      refine z_if_le (tgt := 395) hC d_Mo_squareSign_388 (by decide) (by have := sgn_in ((L * (szZ (2 * p + q))) - (((szZ od) * (szZ od)) * 2)); omega) (fun h388 => ?_) (fun h388 => ?_)
                      · refine z_iconst hC d_Mo_squareSign_395 ?_
                        refine z_icmp_ne (tgt := 403) hC d_Mo_squareSign_396 (by decide) (by decide) (by decide) (fun h => absurd h (by decide)) (fun _ => ?_)
                        refine z_iconst hC d_Mo_squareSign_399 ?_
                        refine z_goto (tgt := 404) hC d_Mo_squareSign_400 (by decide) ?_
                        have hP9 := hP.sub (ws' := [(o, .inr (5, [.int (iI cd), .int (iI z), .int (iI lv), .ref qT, .ref qC, .ref qF, .ref qY, .ref qZ, .ref qu, .ref qv, .ref qw, .ref qg, .ref qh, .ref qx, .ref qc, .ref qa, .ref qb, .ref qd, .int (iI fm), .ref qp, .ref qq])), (qx, eL t.2.1 54 u55)]) [0, 1] rfl
                        have hD9 := hD.sub (ws' := [(o, .inr (5, [.int (iI cd), .int (iI z), .int (iI lv), .ref qT, .ref qC, .ref qF, .ref qY, .ref qZ, .ref qu, .ref qv, .ref qw, .ref qg, .ref qh, .ref qx, .ref qc, .ref qa, .ref qb, .ref qd, .int (iI fm), .ref qp, .ref qq])), (qx, eL t.2.1 54 u55)]) [0, 1] (by decide) rfl
                        exact retv (1, u55) _ _ 404 _ _ d_Mo_squareSign_404 ⟨rfl, (by show 1 = _; rw [eV]; unfold rsZ; rw [if_neg (by omega), if_neg (by omega), if_pos (by rw [szX, q4]; (first | rw [sgn_gt] at h378 | rw [sgn_le] at h378); simp; omega)])⟩ hP9 hD9 hS
                      · refine z_iconst hC d_Mo_squareSign_391 ?_
                        refine z_goto (tgt := 396) hC d_Mo_squareSign_392 (by decide) ?_
                        refine z_icmp_ne (tgt := 403) hC d_Mo_squareSign_396 (by decide) (by decide) (by decide) (fun _ => ?_) (fun h => absurd h (by decide))
                        refine z_iconst hC d_Mo_squareSign_403 ?_
                        have hP9 := hP.sub (ws' := [(o, .inr (5, [.int (iI cd), .int (iI z), .int (iI lv), .ref qT, .ref qC, .ref qF, .ref qY, .ref qZ, .ref qu, .ref qv, .ref qw, .ref qg, .ref qh, .ref qx, .ref qc, .ref qa, .ref qb, .ref qd, .int (iI fm), .ref qp, .ref qq])), (qx, eL t.2.1 54 u55)]) [0, 1] rfl
                        have hD9 := hD.sub (ws' := [(o, .inr (5, [.int (iI cd), .int (iI z), .int (iI lv), .ref qT, .ref qC, .ref qF, .ref qY, .ref qZ, .ref qu, .ref qv, .ref qw, .ref qg, .ref qh, .ref qx, .ref qc, .ref qa, .ref qb, .ref qd, .int (iI fm), .ref qp, .ref qq])), (qx, eL t.2.1 54 u55)]) [0, 1] (by decide) rfl
                        exact retv (-1, u55) _ _ 404 _ _ d_Mo_squareSign_404 ⟨rfl, (by show -1 = _; rw [eV]; unfold rsZ; rw [if_neg (by omega), if_neg (by omega), if_neg (by rw [szX, q4]; (first | rw [sgn_gt] at h378 | rw [sgn_le] at h378); simp; omega)])⟩ hP9 hD9 hS
                    · refine z_iconst hC d_Mo_squareSign_381 ?_
                      refine z_goto (tgt := 386) hC d_Mo_squareSign_382 (by decide) ?_
                      refine lv_iload hC.1 hC.2.1 d_Mo_squareSign_386 (lv_at hl 1 rfl) ?_
                      refine z_if_le (tgt := 395) hC d_Mo_squareSign_388 (by decide) (by have := sgn_in ((L * (szZ (2 * p + q))) - (((szZ od) * (szZ od)) * 2)); omega) (fun h388 => ?_) (fun h388 => ?_)
                      · refine z_iconst hC d_Mo_squareSign_395 ?_
                        refine z_icmp_ne (tgt := 403) hC d_Mo_squareSign_396 (by decide) (by decide) (by decide) (fun _ => ?_) (fun h => absurd h (by decide))
                        refine z_iconst hC d_Mo_squareSign_403 ?_
                        have hP9 := hP.sub (ws' := [(o, .inr (5, [.int (iI cd), .int (iI z), .int (iI lv), .ref qT, .ref qC, .ref qF, .ref qY, .ref qZ, .ref qu, .ref qv, .ref qw, .ref qg, .ref qh, .ref qx, .ref qc, .ref qa, .ref qb, .ref qd, .int (iI fm), .ref qp, .ref qq])), (qx, eL t.2.1 54 u55)]) [0, 1] rfl
                        have hD9 := hD.sub (ws' := [(o, .inr (5, [.int (iI cd), .int (iI z), .int (iI lv), .ref qT, .ref qC, .ref qF, .ref qY, .ref qZ, .ref qu, .ref qv, .ref qw, .ref qg, .ref qh, .ref qx, .ref qc, .ref qa, .ref qb, .ref qd, .int (iI fm), .ref qp, .ref qq])), (qx, eL t.2.1 54 u55)]) [0, 1] (by decide) rfl
                        exact retv (-1, u55) _ _ 404 _ _ d_Mo_squareSign_404 ⟨rfl, (by show -1 = _; rw [eV]; unfold rsZ; rw [if_neg (by omega), if_neg (by omega), if_neg (by rw [szX, q4]; (first | rw [sgn_gt] at h378 | rw [sgn_le] at h378); simp; omega)])⟩ hP9 hD9 hS
                      · refine z_iconst hC d_Mo_squareSign_391 ?_
                        refine z_goto (tgt := 396) hC d_Mo_squareSign_392 (by decide) ?_
                        refine z_icmp_ne (tgt := 403) hC d_Mo_squareSign_396 (by decide) (by decide) (by decide) (fun h => absurd h (by decide)) (fun _ => ?_)
                        refine z_iconst hC d_Mo_squareSign_399 ?_
                        refine z_goto (tgt := 404) hC d_Mo_squareSign_400 (by decide) ?_
                        have hP9 := hP.sub (ws' := [(o, .inr (5, [.int (iI cd), .int (iI z), .int (iI lv), .ref qT, .ref qC, .ref qF, .ref qY, .ref qZ, .ref qu, .ref qv, .ref qw, .ref qg, .ref qh, .ref qx, .ref qc, .ref qa, .ref qb, .ref qd, .int (iI fm), .ref qp, .ref qq])), (qx, eL t.2.1 54 u55)]) [0, 1] rfl
                        have hD9 := hD.sub (ws' := [(o, .inr (5, [.int (iI cd), .int (iI z), .int (iI lv), .ref qT, .ref qC, .ref qF, .ref qY, .ref qZ, .ref qu, .ref qv, .ref qw, .ref qg, .ref qh, .ref qx, .ref qc, .ref qa, .ref qb, .ref qd, .int (iI fm), .ref qp, .ref qq])), (qx, eL t.2.1 54 u55)]) [0, 1] (by decide) rfl
                        exact retv (1, u55) _ _ 404 _ _ d_Mo_squareSign_404 ⟨rfl, (by show 1 = _; rw [eV]; unfold rsZ; rw [if_neg (by omega), if_neg (by omega), if_pos (by rw [szX, q4]; (first | rw [sgn_gt] at h378 | rw [sgn_le] at h378); simp; omega)])⟩ hP9 hD9 hS
                  · refine lv_iload hC.1 hC.2.1 d_Mo_squareSign_336 (lv_at hl 0 rfl) ?_
                    refine z_if_gt (tgt := 343) hC d_Mo_squareSign_338 (by decide) (by decide) (fun h => absurd h (by decide)) (fun _ => ?_)
                    refine z_iconst hC d_Mo_squareSign_341 ?_
                    have hP9 := hP.sub (ws' := [(o, .inr (5, [.int (iI cd), .int (iI z), .int (iI lv), .ref qT, .ref qC, .ref qF, .ref qY, .ref qZ, .ref qu, .ref qv, .ref qw, .ref qg, .ref qh, .ref qx, .ref qc, .ref qa, .ref qb, .ref qd, .int (iI fm), .ref qp, .ref qq])), (qx, eL t.2.1 54 u35)]) [0, 1] rfl
                    have hD9 := hD.sub (ws' := [(o, .inr (5, [.int (iI cd), .int (iI z), .int (iI lv), .ref qT, .ref qC, .ref qF, .ref qY, .ref qZ, .ref qu, .ref qv, .ref qw, .ref qg, .ref qh, .ref qx, .ref qc, .ref qa, .ref qb, .ref qd, .int (iI fm), .ref qp, .ref qq])), (qx, eL t.2.1 54 u35)]) [0, 1] (by decide) rfl
                    exact retv (-1, u35) _ _ 342 _ _ d_Mo_squareSign_342 ⟨rfl, (by show -1 = _; rw [eV]; unfold rsZ; rw [if_neg (by omega), if_pos (by omega)])⟩ hP9 hD9 hS
            · have hn9 : X4 = 0 := by rw [h269] at hno; simpa using hno
              have c11 : (0 < sgn ((L * (szZ (2 * p + q))) - (((szZ od) * (szZ od)) * 2)) ↔ 0 < XX) ∧ (sgn ((L * (szZ (2 * p + q))) - (((szZ od) * (szZ od)) * 2)) ≤ 0 ↔ XX ≤ 0) := by rw [sgn_gt, sgn_le]; omega
              have c11i : -1 ≤ sgn ((L * (szZ (2 * p + q))) - (((szZ od) * (szZ od)) * 2)) ∧ sgn ((L * (szZ (2 * p + q))) - (((szZ od) * (szZ od)) * 2)) ≤ 1 := sgn_in _
              refine z_iconst hC d_Mo_squareSign_272 ?_
              refine z_goto (tgt := 278) hC d_Mo_squareSign_273 (by decide) ?_
              refine lv_istore (lv' := [(14, .int (iI 0)), (13, .int (iI (zB no))), (12, .int (iI 2)), (11, .int (iI (sgn ((L * (szZ (2 * p + q))) - (((szZ od) * (szZ od)) * 2))))), (10, .int (iI 0)), (8, .long (lI L)), (0, .ref o), (1, .long (lI od)), (3, .int (iI len)), (4, .long (lI p)), (6, .long (lI q))]) hC.1 hC.2.1 d_Mo_squareSign_278 hl (by decide) rfl (fun ls hl => ?_)
              refine lv_lload hC.1 hC.2.1 d_Mo_squareSign_280 (lv_at hl 10 rfl) ?_
              refine z_lconst (v := 0) hC d_Mo_squareSign_282 (by decide) ?_
              refine z_lcmp_ge (tgt := 291) hC d_Mo_squareSign_283 d_Mo_squareSign_284 (by decide) (by omega) (by decide) (fun h283 => ?_) (fun h283 => ?_)
              · refine lv_lload hC.1 hC.2.1 d_Mo_squareSign_291 (lv_at hl 10 rfl) ?_
                refine z_lconst (v := 0) hC d_Mo_squareSign_293 (by decide) ?_
                refine z_lcmp_le (tgt := 302) hC d_Mo_squareSign_294 d_Mo_squareSign_295 (by decide) (by omega) (by decide) (fun h294 => ?_) (fun h294 => ?_)
                · refine z_iconst hC d_Mo_squareSign_302 ?_
                  refine lv_istore (lv' := [(15, .int (iI 0)), (14, .int (iI 0)), (13, .int (iI (zB no))), (12, .int (iI 2)), (11, .int (iI (sgn ((L * (szZ (2 * p + q))) - (((szZ od) * (szZ od)) * 2))))), (10, .int (iI 0)), (8, .long (lI L)), (0, .ref o), (1, .long (lI od)), (3, .int (iI len)), (4, .long (lI p)), (6, .long (lI q))]) hC.1 hC.2.1 d_Mo_squareSign_303 hl (by decide) rfl (fun ls hl => ?_)
                  refine lv_iload hC.1 hC.2.1 d_Mo_squareSign_305 (lv_at hl 1 rfl) ?_
                  refine z_if_lt (tgt := 331) hC d_Mo_squareSign_307 (by decide) (by decide) (fun h => absurd h (by decide)) (fun _ => ?_)
                  refine lv_iload hC.1 hC.2.1 d_Mo_squareSign_310 (lv_at hl 0 rfl) ?_
                  refine z_if_lt (tgt := 331) hC d_Mo_squareSign_312 (by decide) (by decide) (fun h => absurd h (by decide)) (fun _ => ?_)
                  refine lv_iload hC.1 hC.2.1 d_Mo_squareSign_315 (lv_at hl 1 rfl) ?_
                  refine z_if_ne (tgt := 329) hC d_Mo_squareSign_317 (by decide) (by decide) (fun h => absurd h (by decide)) (fun _ => ?_)
                  refine lv_iload hC.1 hC.2.1 d_Mo_squareSign_320 (lv_at hl 0 rfl) ?_
                  refine z_if_ne (tgt := 329) hC d_Mo_squareSign_322 (by decide) (by decide) (fun h => absurd h (by decide)) (fun _ => ?_)
                  refine z_iconst hC d_Mo_squareSign_325 ?_
                  refine z_goto (tgt := 330) hC d_Mo_squareSign_326 (by decide) ?_
                  have hP9 := hP.sub (ws' := [(o, .inr (5, [.int (iI cd), .int (iI z), .int (iI lv), .ref qT, .ref qC, .ref qF, .ref qY, .ref qZ, .ref qu, .ref qv, .ref qw, .ref qg, .ref qh, .ref qx, .ref qc, .ref qa, .ref qb, .ref qd, .int (iI fm), .ref qp, .ref qq])), (qx, eL t.2.1 54 u35)]) [0, 1] rfl
                  have hD9 := hD.sub (ws' := [(o, .inr (5, [.int (iI cd), .int (iI z), .int (iI lv), .ref qT, .ref qC, .ref qF, .ref qY, .ref qZ, .ref qu, .ref qv, .ref qw, .ref qg, .ref qh, .ref qx, .ref qc, .ref qa, .ref qb, .ref qd, .int (iI fm), .ref qp, .ref qq])), (qx, eL t.2.1 54 u35)]) [0, 1] (by decide) rfl
                  exact retv (0, u35) _ _ 330 _ _ d_Mo_squareSign_330 ⟨rfl, (by show 0 = _; rw [eV]; unfold rsZ; rw [if_pos (by omega), if_pos (by omega)])⟩ hP9 hD9 hS
                · refine z_iconst hC d_Mo_squareSign_298 ?_
                  refine z_goto (tgt := 303) hC d_Mo_squareSign_299 (by decide) ?_
                  refine lv_istore (lv' := [(15, .int (iI 1)), (14, .int (iI 0)), (13, .int (iI (zB no))), (12, .int (iI 2)), (11, .int (iI (sgn ((L * (szZ (2 * p + q))) - (((szZ od) * (szZ od)) * 2))))), (10, .int (iI 0)), (8, .long (lI L)), (0, .ref o), (1, .long (lI od)), (3, .int (iI len)), (4, .long (lI p)), (6, .long (lI q))]) hC.1 hC.2.1 d_Mo_squareSign_303 hl (by decide) rfl (fun ls hl => ?_)
                  refine lv_iload hC.1 hC.2.1 d_Mo_squareSign_305 (lv_at hl 1 rfl) ?_
                  refine z_if_lt (tgt := 331) hC d_Mo_squareSign_307 (by decide) (by decide) (fun h => absurd h (by decide)) (fun _ => ?_)
                  refine lv_iload hC.1 hC.2.1 d_Mo_squareSign_310 (lv_at hl 0 rfl) ?_
                  refine z_if_lt (tgt := 331) hC d_Mo_squareSign_312 (by decide) (by decide) (fun h => absurd h (by decide)) (fun _ => ?_)
                  refine lv_iload hC.1 hC.2.1 d_Mo_squareSign_315 (lv_at hl 1 rfl) ?_
                  refine z_if_ne (tgt := 329) hC d_Mo_squareSign_317 (by decide) (by decide) (fun h => absurd h (by decide)) (fun _ => ?_)
                  refine lv_iload hC.1 hC.2.1 d_Mo_squareSign_320 (lv_at hl 0 rfl) ?_
                  refine z_if_ne (tgt := 329) hC d_Mo_squareSign_322 (by decide) (by decide) (fun _ => ?_) (fun h => absurd h (by decide))
                  refine z_iconst hC d_Mo_squareSign_329 ?_
                  have hP9 := hP.sub (ws' := [(o, .inr (5, [.int (iI cd), .int (iI z), .int (iI lv), .ref qT, .ref qC, .ref qF, .ref qY, .ref qZ, .ref qu, .ref qv, .ref qw, .ref qg, .ref qh, .ref qx, .ref qc, .ref qa, .ref qb, .ref qd, .int (iI fm), .ref qp, .ref qq])), (qx, eL t.2.1 54 u35)]) [0, 1] rfl
                  have hD9 := hD.sub (ws' := [(o, .inr (5, [.int (iI cd), .int (iI z), .int (iI lv), .ref qT, .ref qC, .ref qF, .ref qY, .ref qZ, .ref qu, .ref qv, .ref qw, .ref qg, .ref qh, .ref qx, .ref qc, .ref qa, .ref qb, .ref qd, .int (iI fm), .ref qp, .ref qq])), (qx, eL t.2.1 54 u35)]) [0, 1] (by decide) rfl
                  exact retv (1, u35) _ _ 330 _ _ d_Mo_squareSign_330 ⟨rfl, (by show 1 = _; rw [eV]; unfold rsZ; rw [if_pos (by omega), if_neg (by omega)])⟩ hP9 hD9 hS
              · refine z_iconst hC d_Mo_squareSign_287 ?_
                refine z_goto (tgt := 303) hC d_Mo_squareSign_288 (by decide) ?_
                refine lv_istore (lv' := [(15, .int (iI (-1))), (14, .int (iI 0)), (13, .int (iI (zB no))), (12, .int (iI 2)), (11, .int (iI (sgn ((L * (szZ (2 * p + q))) - (((szZ od) * (szZ od)) * 2))))), (10, .int (iI 0)), (8, .long (lI L)), (0, .ref o), (1, .long (lI od)), (3, .int (iI len)), (4, .long (lI p)), (6, .long (lI q))]) hC.1 hC.2.1 d_Mo_squareSign_303 hl (by decide) rfl (fun ls hl => ?_)
                refine lv_iload hC.1 hC.2.1 d_Mo_squareSign_305 (lv_at hl 1 rfl) ?_
                refine z_if_lt (tgt := 331) hC d_Mo_squareSign_307 (by decide) (by decide) (fun h => absurd h (by decide)) (fun _ => ?_)
                refine lv_iload hC.1 hC.2.1 d_Mo_squareSign_310 (lv_at hl 0 rfl) ?_
                refine z_if_lt (tgt := 331) hC d_Mo_squareSign_312 (by decide) (by decide) (fun _ => ?_) (fun h => absurd h (by decide))
                refine lv_iload hC.1 hC.2.1 d_Mo_squareSign_331 (lv_at hl 1 rfl) ?_
                refine z_if_gt (tgt := 343) hC d_Mo_squareSign_333 (by decide) (by decide) (fun h => absurd h (by decide)) (fun _ => ?_)
                refine lv_iload hC.1 hC.2.1 d_Mo_squareSign_336 (lv_at hl 0 rfl) ?_
                refine z_if_gt (tgt := 343) hC d_Mo_squareSign_338 (by decide) (by decide) (fun h => absurd h (by decide)) (fun _ => ?_)
                refine z_iconst hC d_Mo_squareSign_341 ?_
                have hP9 := hP.sub (ws' := [(o, .inr (5, [.int (iI cd), .int (iI z), .int (iI lv), .ref qT, .ref qC, .ref qF, .ref qY, .ref qZ, .ref qu, .ref qv, .ref qw, .ref qg, .ref qh, .ref qx, .ref qc, .ref qa, .ref qb, .ref qd, .int (iI fm), .ref qp, .ref qq])), (qx, eL t.2.1 54 u35)]) [0, 1] rfl
                have hD9 := hD.sub (ws' := [(o, .inr (5, [.int (iI cd), .int (iI z), .int (iI lv), .ref qT, .ref qC, .ref qF, .ref qY, .ref qZ, .ref qu, .ref qv, .ref qw, .ref qg, .ref qh, .ref qx, .ref qc, .ref qa, .ref qb, .ref qd, .int (iI fm), .ref qp, .ref qq])), (qx, eL t.2.1 54 u35)]) [0, 1] (by decide) rfl
                exact retv (-1, u35) _ _ 342 _ _ d_Mo_squareSign_342 ⟨rfl, (by show -1 = _; rw [eV]; unfold rsZ; rw [if_neg (by omega), if_pos (by omega)])⟩ hP9 hD9 hS
          · refine lv_iload hC.1 hC.2.1 d_Mo_squareSign_234 (lv_at hl 1 rfl) ?_
            refine z_if_eqB (tgt := 258) hC d_Mo_squareSign_236 (by decide) (fun h236 => ?_) (fun h236 => ?_)
            · refine z_iconst hC d_Mo_squareSign_258 ?_
              refine lv_istore (lv' := [(13, .int (iI 0)), (14, .int (iI i)), (12, .int (iI 2)), (11, .int (iI (sgn ((L * (szZ (2 * p + q))) - (((szZ od) * (szZ od)) * 2))))), (10, .int (iI 0)), (8, .long (lI L)), (0, .ref o), (1, .long (lI od)), (3, .int (iI len)), (4, .long (lI p)), (6, .long (lI q))]) hC.1 hC.2.1 d_Mo_squareSign_259 hl (by decide) rfl (fun ls hl => ?_)
              refine lv_iinc (v := iI (i + 1)) (lv' := [(14, .int (iI (i + 1))), (13, .int (iI 0)), (12, .int (iI 2)), (11, .int (iI (sgn ((L * (szZ (2 * p + q))) - (((szZ od) * (szZ od)) * 2))))), (10, .int (iI 0)), (8, .long (lI L)), (0, .ref o), (1, .long (lI od)), (3, .int (iI len)), (4, .long (lI p)), (6, .long (lI q))]) hC.1 hC.2.1 d_Mo_squareSign_261 hl (k := 1) rfl (z_inc (by omega)) (by decide) rfl (fun ls hl => ?_)
              refine z_goto (tgt := 227) hC d_Mo_squareSign_264 (by decide) ?_
              exact ih227 false (i + 1) _ _ _ (by omega) (by omega) (by rw [anyZ_s (by omega)]; rw [h236] at eno; have q : anyZ i.toNat (fun m => decide (¬ u35 (m + 36) = 0)) = true := (by revert eno; cases anyZ i.toNat (fun m => decide (¬ u35 (m + 36) = 0)) <;> simp); rw [q]; rfl) (hP.sub (ws' := [(o, .inr (5, [.int (iI cd), .int (iI z), .int (iI lv), .ref qT, .ref qC, .ref qF, .ref qY, .ref qZ, .ref qu, .ref qv, .ref qw, .ref qg, .ref qh, .ref qx, .ref qc, .ref qa, .ref qb, .ref qd, .int (iI fm), .ref qp, .ref qq])), (qx, eL t.2.1 54 u35)]) [0, 1] rfl) (hD.sub (ws' := [(o, .inr (5, [.int (iI cd), .int (iI z), .int (iI lv), .ref qT, .ref qC, .ref qF, .ref qY, .ref qZ, .ref qu, .ref qv, .ref qw, .ref qg, .ref qh, .ref qx, .ref qc, .ref qa, .ref qb, .ref qd, .int (iI fm), .ref qp, .ref qq])), (qx, eL t.2.1 54 u35)]) [0, 1] (by decide) rfl) hS (lv_sub hl [0, 1, 2, 3, 4, 5, 6, 7, 8, 9, 10] rfl)
            · have d4 := b4_u35.1 i (by omega) (by omega)
              rw [show (9 : Int) * 4 + i = i + 36 by omega] at d4
              refine lv_aload_n hC.1 hC.2.1 d_Mo_squareSign_239 rfl (lv_at hl 6 rfl) ?_
              refine z_get (ci := 5) (C := R_Mo) (T := F_Mo) (N := 21) (v := .ref qx) hC in_Mo hK hP 0 rfl rfl 13 (by decide) k_466 rfl d_Mo_squareSign_240 ?_
              refine z_bipush hC d_Mo_squareSign_243 (by decide) ?_
              refine lv_iload hC.1 hC.2.1 d_Mo_squareSign_245 (lv_at hl 0 rfl) ?_
              refine z_iadd hC d_Mo_squareSign_247 ?_
              refine z_topi (z := i + 36) (by omega) ?_
              refine z_lald hC hK hP 1 rfl (by omega) d_Mo_squareSign_248 ?_
              refine z_lconst (v := 0) hC d_Mo_squareSign_249 (by decide) ?_
              refine z_lcmp_ne (tgt := 258) hC d_Mo_squareSign_250 d_Mo_squareSign_251 (by decide) (by omega) (by decide) (fun h250 => ?_) (fun h250 => ?_)
              · refine z_iconst hC d_Mo_squareSign_258 ?_
                refine lv_istore (lv' := [(13, .int (iI 0)), (14, .int (iI i)), (12, .int (iI 2)), (11, .int (iI (sgn ((L * (szZ (2 * p + q))) - (((szZ od) * (szZ od)) * 2))))), (10, .int (iI 0)), (8, .long (lI L)), (0, .ref o), (1, .long (lI od)), (3, .int (iI len)), (4, .long (lI p)), (6, .long (lI q))]) hC.1 hC.2.1 d_Mo_squareSign_259 hl (by decide) rfl (fun ls hl => ?_)
                refine lv_iinc (v := iI (i + 1)) (lv' := [(14, .int (iI (i + 1))), (13, .int (iI 0)), (12, .int (iI 2)), (11, .int (iI (sgn ((L * (szZ (2 * p + q))) - (((szZ od) * (szZ od)) * 2))))), (10, .int (iI 0)), (8, .long (lI L)), (0, .ref o), (1, .long (lI od)), (3, .int (iI len)), (4, .long (lI p)), (6, .long (lI q))]) hC.1 hC.2.1 d_Mo_squareSign_261 hl (k := 1) rfl (z_inc (by omega)) (by decide) rfl (fun ls hl => ?_)
                refine z_goto (tgt := 227) hC d_Mo_squareSign_264 (by decide) ?_
                exact ih227 false (i + 1) _ _ _ (by omega) (by omega) (any_st1 (by omega) eno h236 false (by simp; omega)) (hP.sub (ws' := [(o, .inr (5, [.int (iI cd), .int (iI z), .int (iI lv), .ref qT, .ref qC, .ref qF, .ref qY, .ref qZ, .ref qu, .ref qv, .ref qw, .ref qg, .ref qh, .ref qx, .ref qc, .ref qa, .ref qb, .ref qd, .int (iI fm), .ref qp, .ref qq])), (qx, eL t.2.1 54 u35)]) [0, 1] rfl) (hD.sub (ws' := [(o, .inr (5, [.int (iI cd), .int (iI z), .int (iI lv), .ref qT, .ref qC, .ref qF, .ref qY, .ref qZ, .ref qu, .ref qv, .ref qw, .ref qg, .ref qh, .ref qx, .ref qc, .ref qa, .ref qb, .ref qd, .int (iI fm), .ref qp, .ref qq])), (qx, eL t.2.1 54 u35)]) [0, 1] (by decide) rfl) hS (lv_sub hl [0, 1, 2, 3, 4, 5, 6, 7, 8, 9, 10] rfl)
              · refine z_iconst hC d_Mo_squareSign_254 ?_
                refine z_goto (tgt := 259) hC d_Mo_squareSign_255 (by decide) ?_
                refine lv_istore (lv' := [(13, .int (iI 1)), (14, .int (iI i)), (12, .int (iI 2)), (11, .int (iI (sgn ((L * (szZ (2 * p + q))) - (((szZ od) * (szZ od)) * 2))))), (10, .int (iI 0)), (8, .long (lI L)), (0, .ref o), (1, .long (lI od)), (3, .int (iI len)), (4, .long (lI p)), (6, .long (lI q))]) hC.1 hC.2.1 d_Mo_squareSign_259 hl (by decide) rfl (fun ls hl => ?_)
                refine lv_iinc (v := iI (i + 1)) (lv' := [(14, .int (iI (i + 1))), (13, .int (iI 1)), (12, .int (iI 2)), (11, .int (iI (sgn ((L * (szZ (2 * p + q))) - (((szZ od) * (szZ od)) * 2))))), (10, .int (iI 0)), (8, .long (lI L)), (0, .ref o), (1, .long (lI od)), (3, .int (iI len)), (4, .long (lI p)), (6, .long (lI q))]) hC.1 hC.2.1 d_Mo_squareSign_261 hl (k := 1) rfl (z_inc (by omega)) (by decide) rfl (fun ls hl => ?_)
                refine z_goto (tgt := 227) hC d_Mo_squareSign_264 (by decide) ?_
                exact ih227 true (i + 1) _ _ _ (by omega) (by omega) (any_st1 (by omega) eno h236 true (by simp; omega)) (hP.sub (ws' := [(o, .inr (5, [.int (iI cd), .int (iI z), .int (iI lv), .ref qT, .ref qC, .ref qF, .ref qY, .ref qZ, .ref qu, .ref qv, .ref qw, .ref qg, .ref qh, .ref qx, .ref qc, .ref qa, .ref qb, .ref qd, .int (iI fm), .ref qp, .ref qq])), (qx, eL t.2.1 54 u35)]) [0, 1] rfl) (hD.sub (ws' := [(o, .inr (5, [.int (iI cd), .int (iI z), .int (iI lv), .ref qT, .ref qC, .ref qF, .ref qY, .ref qZ, .ref qu, .ref qv, .ref qw, .ref qg, .ref qh, .ref qx, .ref qc, .ref qa, .ref qb, .ref qd, .int (iI fm), .ref qp, .ref qq])), (qx, eL t.2.1 54 u35)]) [0, 1] (by decide) rfl) hS (lv_sub hl [0, 1, 2, 3, 4, 5, 6, 7, 8, 9, 10] rfl)
      exact L227 (9 - 0 + 1 : Int).toNat true 0 _ _ _ (by omega) (by omega) (by rfl) hP hD hS (lv_sub hl [0, 1, 2, 3, 4, 5, 6, 7, 8, 9, 10] rfl)
  · refine z_iconst hC d_Mo_squareSign_83 ?_
    refine z_goto (tgt := 88) hC d_Mo_squareSign_84 (by decide) ?_
    refine lv_istore (lv' := [(10, .int (iI 1)), (8, .long (lI L)), (0, .ref o), (1, .long (lI od)), (3, .int (iI len)), (4, .long (lI p)), (6, .long (lI q))]) hC.1 hC.2.1 d_Mo_squareSign_88 hl (by decide) rfl (fun ls hl => ?_)
    refine lv_iload hC.1 hC.2.1 d_Mo_squareSign_90 (lv_at hl 0 rfl) ?_
    refine z_if_eq (tgt := 99) hC d_Mo_squareSign_92 (by decide) (by decide) (fun h => absurd h (by decide)) (fun _ => ?_)
    refine z_iconst hC d_Mo_squareSign_95 ?_
    refine z_goto (tgt := 105) hC d_Mo_squareSign_96 (by decide) ?_
    refine lv_istore (lv' := [(11, .int (iI (-1))), (10, .int (iI 1)), (8, .long (lI L)), (0, .ref o), (1, .long (lI od)), (3, .int (iI len)), (4, .long (lI p)), (6, .long (lI q))]) hC.1 hC.2.1 d_Mo_squareSign_105 hl (by decide) rfl (fun ls hl => ?_)
    refine lv_iload hC.1 hC.2.1 d_Mo_squareSign_107 (lv_at hl 1 rfl) ?_
    refine z_if_eq (tgt := 116) hC d_Mo_squareSign_109 (by decide) (by decide) (fun h => absurd h (by decide)) (fun _ => ?_)
    refine z_iconst hC d_Mo_squareSign_112 ?_
    refine z_goto (tgt := 126) hC d_Mo_squareSign_113 (by decide) ?_
    refine lv_istore (lv' := [(12, .int (iI 2)), (11, .int (iI (-1))), (10, .int (iI 1)), (8, .long (lI L)), (0, .ref o), (1, .long (lI od)), (3, .int (iI len)), (4, .long (lI p)), (6, .long (lI q))]) hC.1 hC.2.1 d_Mo_squareSign_126 hl (by decide) rfl (fun ls hl => ?_)
    refine z_iconst hC d_Mo_squareSign_128 ?_
    refine lv_istore (lv' := [(13, .int (iI 0)), (12, .int (iI 2)), (11, .int (iI (-1))), (10, .int (iI 1)), (8, .long (lI L)), (0, .ref o), (1, .long (lI od)), (3, .int (iI len)), (4, .long (lI p)), (6, .long (lI q))]) hC.1 hC.2.1 d_Mo_squareSign_129 hl (by decide) rfl (fun ls hl => ?_)
    refine lv_iload hC.1 hC.2.1 d_Mo_squareSign_131 (lv_at hl 0 rfl) ?_
    refine z_bipush hC d_Mo_squareSign_133 (by decide) ?_
    refine z_icmp_ge (tgt := 167) hC d_Mo_squareSign_135 (by decide) (by decide) (by decide) (fun h => absurd h (by decide)) (fun _ => ?_)
    refine lv_aload_n hC.1 hC.2.1 d_Mo_squareSign_138 rfl (lv_at hl 5 rfl) ?_
    refine z_get (ci := 5) (C := R_Mo) (T := F_Mo) (N := 21) (v := .ref qx) hC in_Mo hK hP 0 rfl rfl 13 (by decide) k_466 rfl d_Mo_squareSign_139 ?_
    refine z_bipush hC d_Mo_squareSign_142 (by decide) ?_
    refine lv_iload hC.1 hC.2.1 d_Mo_squareSign_144 (lv_at hl 0 rfl) ?_
    refine z_iadd hC d_Mo_squareSign_146 ?_
    refine z_topi (z := 36) (by omega) ?_
    refine lv_aload_n hC.1 hC.2.1 d_Mo_squareSign_147 rfl (lv_at hl 5 rfl) ?_
    refine z_get (ci := 5) (C := R_Mo) (T := F_Mo) (N := 21) (v := .ref qx) hC in_Mo hK hP 0 rfl rfl 13 (by decide) k_466 rfl d_Mo_squareSign_148 ?_
    refine z_bipush hC d_Mo_squareSign_151 (by decide) ?_
    refine lv_iload hC.1 hC.2.1 d_Mo_squareSign_153 (lv_at hl 1 rfl) ?_
    refine z_imul hC d_Mo_squareSign_155 ?_
    refine z_topi (z := 18) (by omega) ?_
    refine lv_iload hC.1 hC.2.1 d_Mo_squareSign_156 (lv_at hl 0 rfl) ?_
    refine z_iadd hC d_Mo_squareSign_158 ?_
    refine z_topi (z := 18) (by omega) ?_
    refine z_lald hC hK hP 1 rfl (by omega) d_Mo_squareSign_159 ?_
    refine z_last (ws' := [(o, .inr (5, [.int (iI cd), .int (iI z), .int (iI lv), .ref qT, .ref qC, .ref qF, .ref qY, .ref qZ, .ref qu, .ref qv, .ref qw, .ref qg, .ref qh, .ref qx, .ref qc, .ref qa, .ref qb, .ref qd, .int (iI fm), .ref qp, .ref qq])), (qx, eL t.2.1 54 (uZ u7 36 (u7 18)))]) hC hK hP hD hS 1 rfl (by omega) rfl d_Mo_squareSign_160 (fun H locs hP hD hS => ?_)
    refine lv_iinc (v := iI 1) (lv' := [(13, .int (iI 1)), (12, .int (iI 2)), (11, .int (iI (-1))), (10, .int (iI 1)), (8, .long (lI L)), (0, .ref o), (1, .long (lI od)), (3, .int (iI len)), (4, .long (lI p)), (6, .long (lI q))]) hC.1 hC.2.1 d_Mo_squareSign_161 hl (k := 0) rfl (z_inc (by omega)) (by decide) rfl (fun ls hl => ?_)
    refine z_goto (tgt := 131) hC d_Mo_squareSign_164 (by decide) ?_
    refine lv_iload hC.1 hC.2.1 d_Mo_squareSign_131 (lv_at hl 0 rfl) ?_
    refine z_bipush hC d_Mo_squareSign_133 (by decide) ?_
    refine z_icmp_ge (tgt := 167) hC d_Mo_squareSign_135 (by decide) (by decide) (by decide) (fun h => absurd h (by decide)) (fun _ => ?_)
    refine lv_aload_n hC.1 hC.2.1 d_Mo_squareSign_138 rfl (lv_at hl 5 rfl) ?_
    refine z_get (ci := 5) (C := R_Mo) (T := F_Mo) (N := 21) (v := .ref qx) hC in_Mo hK hP 0 rfl rfl 13 (by decide) k_466 rfl d_Mo_squareSign_139 ?_
    refine z_bipush hC d_Mo_squareSign_142 (by decide) ?_
    refine lv_iload hC.1 hC.2.1 d_Mo_squareSign_144 (lv_at hl 0 rfl) ?_
    refine z_iadd hC d_Mo_squareSign_146 ?_
    refine z_topi (z := 37) (by omega) ?_
    refine lv_aload_n hC.1 hC.2.1 d_Mo_squareSign_147 rfl (lv_at hl 5 rfl) ?_
    refine z_get (ci := 5) (C := R_Mo) (T := F_Mo) (N := 21) (v := .ref qx) hC in_Mo hK hP 0 rfl rfl 13 (by decide) k_466 rfl d_Mo_squareSign_148 ?_
    refine z_bipush hC d_Mo_squareSign_151 (by decide) ?_
    refine lv_iload hC.1 hC.2.1 d_Mo_squareSign_153 (lv_at hl 1 rfl) ?_
    refine z_imul hC d_Mo_squareSign_155 ?_
    refine z_topi (z := 18) (by omega) ?_
    refine lv_iload hC.1 hC.2.1 d_Mo_squareSign_156 (lv_at hl 0 rfl) ?_
    refine z_iadd hC d_Mo_squareSign_158 ?_
    refine z_topi (z := 19) (by omega) ?_
    refine z_lald hC hK hP 1 rfl (by omega) d_Mo_squareSign_159 ?_
    refine z_topl (z := u7 19) (by rw [uZ_n (by omega)]) ?_
    refine z_last (ws' := [(o, .inr (5, [.int (iI cd), .int (iI z), .int (iI lv), .ref qT, .ref qC, .ref qF, .ref qY, .ref qZ, .ref qu, .ref qv, .ref qw, .ref qg, .ref qh, .ref qx, .ref qc, .ref qa, .ref qb, .ref qd, .int (iI fm), .ref qp, .ref qq])), (qx, eL t.2.1 54 (uZ (uZ u7 36 (u7 18)) 37 (u7 19)))]) hC hK hP hD hS 1 rfl (by omega) rfl d_Mo_squareSign_160 (fun H locs hP hD hS => ?_)
    refine lv_iinc (v := iI 2) (lv' := [(13, .int (iI 2)), (12, .int (iI 2)), (11, .int (iI (-1))), (10, .int (iI 1)), (8, .long (lI L)), (0, .ref o), (1, .long (lI od)), (3, .int (iI len)), (4, .long (lI p)), (6, .long (lI q))]) hC.1 hC.2.1 d_Mo_squareSign_161 hl (k := 0) rfl (z_inc (by omega)) (by decide) rfl (fun ls hl => ?_)
    refine z_goto (tgt := 131) hC d_Mo_squareSign_164 (by decide) ?_
    refine lv_iload hC.1 hC.2.1 d_Mo_squareSign_131 (lv_at hl 0 rfl) ?_
    refine z_bipush hC d_Mo_squareSign_133 (by decide) ?_
    refine z_icmp_ge (tgt := 167) hC d_Mo_squareSign_135 (by decide) (by decide) (by decide) (fun h => absurd h (by decide)) (fun _ => ?_)
    refine lv_aload_n hC.1 hC.2.1 d_Mo_squareSign_138 rfl (lv_at hl 5 rfl) ?_
    refine z_get (ci := 5) (C := R_Mo) (T := F_Mo) (N := 21) (v := .ref qx) hC in_Mo hK hP 0 rfl rfl 13 (by decide) k_466 rfl d_Mo_squareSign_139 ?_
    refine z_bipush hC d_Mo_squareSign_142 (by decide) ?_
    refine lv_iload hC.1 hC.2.1 d_Mo_squareSign_144 (lv_at hl 0 rfl) ?_
    refine z_iadd hC d_Mo_squareSign_146 ?_
    refine z_topi (z := 38) (by omega) ?_
    refine lv_aload_n hC.1 hC.2.1 d_Mo_squareSign_147 rfl (lv_at hl 5 rfl) ?_
    refine z_get (ci := 5) (C := R_Mo) (T := F_Mo) (N := 21) (v := .ref qx) hC in_Mo hK hP 0 rfl rfl 13 (by decide) k_466 rfl d_Mo_squareSign_148 ?_
    refine z_bipush hC d_Mo_squareSign_151 (by decide) ?_
    refine lv_iload hC.1 hC.2.1 d_Mo_squareSign_153 (lv_at hl 1 rfl) ?_
    refine z_imul hC d_Mo_squareSign_155 ?_
    refine z_topi (z := 18) (by omega) ?_
    refine lv_iload hC.1 hC.2.1 d_Mo_squareSign_156 (lv_at hl 0 rfl) ?_
    refine z_iadd hC d_Mo_squareSign_158 ?_
    refine z_topi (z := 20) (by omega) ?_
    refine z_lald hC hK hP 1 rfl (by omega) d_Mo_squareSign_159 ?_
    refine z_topl (z := u7 20) (by rw [uZ_n (by omega), uZ_n (by omega)]) ?_
    refine z_last (ws' := [(o, .inr (5, [.int (iI cd), .int (iI z), .int (iI lv), .ref qT, .ref qC, .ref qF, .ref qY, .ref qZ, .ref qu, .ref qv, .ref qw, .ref qg, .ref qh, .ref qx, .ref qc, .ref qa, .ref qb, .ref qd, .int (iI fm), .ref qp, .ref qq])), (qx, eL t.2.1 54 (uZ (uZ (uZ u7 36 (u7 18)) 37 (u7 19)) 38 (u7 20)))]) hC hK hP hD hS 1 rfl (by omega) rfl d_Mo_squareSign_160 (fun H locs hP hD hS => ?_)
    refine lv_iinc (v := iI 3) (lv' := [(13, .int (iI 3)), (12, .int (iI 2)), (11, .int (iI (-1))), (10, .int (iI 1)), (8, .long (lI L)), (0, .ref o), (1, .long (lI od)), (3, .int (iI len)), (4, .long (lI p)), (6, .long (lI q))]) hC.1 hC.2.1 d_Mo_squareSign_161 hl (k := 0) rfl (z_inc (by omega)) (by decide) rfl (fun ls hl => ?_)
    refine z_goto (tgt := 131) hC d_Mo_squareSign_164 (by decide) ?_
    refine lv_iload hC.1 hC.2.1 d_Mo_squareSign_131 (lv_at hl 0 rfl) ?_
    refine z_bipush hC d_Mo_squareSign_133 (by decide) ?_
    refine z_icmp_ge (tgt := 167) hC d_Mo_squareSign_135 (by decide) (by decide) (by decide) (fun h => absurd h (by decide)) (fun _ => ?_)
    refine lv_aload_n hC.1 hC.2.1 d_Mo_squareSign_138 rfl (lv_at hl 5 rfl) ?_
    refine z_get (ci := 5) (C := R_Mo) (T := F_Mo) (N := 21) (v := .ref qx) hC in_Mo hK hP 0 rfl rfl 13 (by decide) k_466 rfl d_Mo_squareSign_139 ?_
    refine z_bipush hC d_Mo_squareSign_142 (by decide) ?_
    refine lv_iload hC.1 hC.2.1 d_Mo_squareSign_144 (lv_at hl 0 rfl) ?_
    refine z_iadd hC d_Mo_squareSign_146 ?_
    refine z_topi (z := 39) (by omega) ?_
    refine lv_aload_n hC.1 hC.2.1 d_Mo_squareSign_147 rfl (lv_at hl 5 rfl) ?_
    refine z_get (ci := 5) (C := R_Mo) (T := F_Mo) (N := 21) (v := .ref qx) hC in_Mo hK hP 0 rfl rfl 13 (by decide) k_466 rfl d_Mo_squareSign_148 ?_
    refine z_bipush hC d_Mo_squareSign_151 (by decide) ?_
    refine lv_iload hC.1 hC.2.1 d_Mo_squareSign_153 (lv_at hl 1 rfl) ?_
    refine z_imul hC d_Mo_squareSign_155 ?_
    refine z_topi (z := 18) (by omega) ?_
    refine lv_iload hC.1 hC.2.1 d_Mo_squareSign_156 (lv_at hl 0 rfl) ?_
    refine z_iadd hC d_Mo_squareSign_158 ?_
    refine z_topi (z := 21) (by omega) ?_
    refine z_lald hC hK hP 1 rfl (by omega) d_Mo_squareSign_159 ?_
    refine z_topl (z := u7 21) (by rw [uZ_n (by omega), uZ_n (by omega), uZ_n (by omega)]) ?_
    refine z_last (ws' := [(o, .inr (5, [.int (iI cd), .int (iI z), .int (iI lv), .ref qT, .ref qC, .ref qF, .ref qY, .ref qZ, .ref qu, .ref qv, .ref qw, .ref qg, .ref qh, .ref qx, .ref qc, .ref qa, .ref qb, .ref qd, .int (iI fm), .ref qp, .ref qq])), (qx, eL t.2.1 54 (uZ (uZ (uZ (uZ u7 36 (u7 18)) 37 (u7 19)) 38 (u7 20)) 39 (u7 21)))]) hC hK hP hD hS 1 rfl (by omega) rfl d_Mo_squareSign_160 (fun H locs hP hD hS => ?_)
    refine lv_iinc (v := iI 4) (lv' := [(13, .int (iI 4)), (12, .int (iI 2)), (11, .int (iI (-1))), (10, .int (iI 1)), (8, .long (lI L)), (0, .ref o), (1, .long (lI od)), (3, .int (iI len)), (4, .long (lI p)), (6, .long (lI q))]) hC.1 hC.2.1 d_Mo_squareSign_161 hl (k := 0) rfl (z_inc (by omega)) (by decide) rfl (fun ls hl => ?_)
    refine z_goto (tgt := 131) hC d_Mo_squareSign_164 (by decide) ?_
    refine lv_iload hC.1 hC.2.1 d_Mo_squareSign_131 (lv_at hl 0 rfl) ?_
    refine z_bipush hC d_Mo_squareSign_133 (by decide) ?_
    refine z_icmp_ge (tgt := 167) hC d_Mo_squareSign_135 (by decide) (by decide) (by decide) (fun h => absurd h (by decide)) (fun _ => ?_)
    refine lv_aload_n hC.1 hC.2.1 d_Mo_squareSign_138 rfl (lv_at hl 5 rfl) ?_
    refine z_get (ci := 5) (C := R_Mo) (T := F_Mo) (N := 21) (v := .ref qx) hC in_Mo hK hP 0 rfl rfl 13 (by decide) k_466 rfl d_Mo_squareSign_139 ?_
    refine z_bipush hC d_Mo_squareSign_142 (by decide) ?_
    refine lv_iload hC.1 hC.2.1 d_Mo_squareSign_144 (lv_at hl 0 rfl) ?_
    refine z_iadd hC d_Mo_squareSign_146 ?_
    refine z_topi (z := 40) (by omega) ?_
    refine lv_aload_n hC.1 hC.2.1 d_Mo_squareSign_147 rfl (lv_at hl 5 rfl) ?_
    refine z_get (ci := 5) (C := R_Mo) (T := F_Mo) (N := 21) (v := .ref qx) hC in_Mo hK hP 0 rfl rfl 13 (by decide) k_466 rfl d_Mo_squareSign_148 ?_
    refine z_bipush hC d_Mo_squareSign_151 (by decide) ?_
    refine lv_iload hC.1 hC.2.1 d_Mo_squareSign_153 (lv_at hl 1 rfl) ?_
    refine z_imul hC d_Mo_squareSign_155 ?_
    refine z_topi (z := 18) (by omega) ?_
    refine lv_iload hC.1 hC.2.1 d_Mo_squareSign_156 (lv_at hl 0 rfl) ?_
    refine z_iadd hC d_Mo_squareSign_158 ?_
    refine z_topi (z := 22) (by omega) ?_
    refine z_lald hC hK hP 1 rfl (by omega) d_Mo_squareSign_159 ?_
    refine z_topl (z := u7 22) (by rw [uZ_n (by omega), uZ_n (by omega), uZ_n (by omega), uZ_n (by omega)]) ?_
    refine z_last (ws' := [(o, .inr (5, [.int (iI cd), .int (iI z), .int (iI lv), .ref qT, .ref qC, .ref qF, .ref qY, .ref qZ, .ref qu, .ref qv, .ref qw, .ref qg, .ref qh, .ref qx, .ref qc, .ref qa, .ref qb, .ref qd, .int (iI fm), .ref qp, .ref qq])), (qx, eL t.2.1 54 (uZ (uZ (uZ (uZ (uZ u7 36 (u7 18)) 37 (u7 19)) 38 (u7 20)) 39 (u7 21)) 40 (u7 22)))]) hC hK hP hD hS 1 rfl (by omega) rfl d_Mo_squareSign_160 (fun H locs hP hD hS => ?_)
    refine lv_iinc (v := iI 5) (lv' := [(13, .int (iI 5)), (12, .int (iI 2)), (11, .int (iI (-1))), (10, .int (iI 1)), (8, .long (lI L)), (0, .ref o), (1, .long (lI od)), (3, .int (iI len)), (4, .long (lI p)), (6, .long (lI q))]) hC.1 hC.2.1 d_Mo_squareSign_161 hl (k := 0) rfl (z_inc (by omega)) (by decide) rfl (fun ls hl => ?_)
    refine z_goto (tgt := 131) hC d_Mo_squareSign_164 (by decide) ?_
    refine lv_iload hC.1 hC.2.1 d_Mo_squareSign_131 (lv_at hl 0 rfl) ?_
    refine z_bipush hC d_Mo_squareSign_133 (by decide) ?_
    refine z_icmp_ge (tgt := 167) hC d_Mo_squareSign_135 (by decide) (by decide) (by decide) (fun h => absurd h (by decide)) (fun _ => ?_)
    refine lv_aload_n hC.1 hC.2.1 d_Mo_squareSign_138 rfl (lv_at hl 5 rfl) ?_
    refine z_get (ci := 5) (C := R_Mo) (T := F_Mo) (N := 21) (v := .ref qx) hC in_Mo hK hP 0 rfl rfl 13 (by decide) k_466 rfl d_Mo_squareSign_139 ?_
    refine z_bipush hC d_Mo_squareSign_142 (by decide) ?_
    refine lv_iload hC.1 hC.2.1 d_Mo_squareSign_144 (lv_at hl 0 rfl) ?_
    refine z_iadd hC d_Mo_squareSign_146 ?_
    refine z_topi (z := 41) (by omega) ?_
    refine lv_aload_n hC.1 hC.2.1 d_Mo_squareSign_147 rfl (lv_at hl 5 rfl) ?_
    refine z_get (ci := 5) (C := R_Mo) (T := F_Mo) (N := 21) (v := .ref qx) hC in_Mo hK hP 0 rfl rfl 13 (by decide) k_466 rfl d_Mo_squareSign_148 ?_
    refine z_bipush hC d_Mo_squareSign_151 (by decide) ?_
    refine lv_iload hC.1 hC.2.1 d_Mo_squareSign_153 (lv_at hl 1 rfl) ?_
    refine z_imul hC d_Mo_squareSign_155 ?_
    refine z_topi (z := 18) (by omega) ?_
    refine lv_iload hC.1 hC.2.1 d_Mo_squareSign_156 (lv_at hl 0 rfl) ?_
    refine z_iadd hC d_Mo_squareSign_158 ?_
    refine z_topi (z := 23) (by omega) ?_
    refine z_lald hC hK hP 1 rfl (by omega) d_Mo_squareSign_159 ?_
    refine z_topl (z := u7 23) (by rw [uZ_n (by omega), uZ_n (by omega), uZ_n (by omega), uZ_n (by omega), uZ_n (by omega)]) ?_
    refine z_last (ws' := [(o, .inr (5, [.int (iI cd), .int (iI z), .int (iI lv), .ref qT, .ref qC, .ref qF, .ref qY, .ref qZ, .ref qu, .ref qv, .ref qw, .ref qg, .ref qh, .ref qx, .ref qc, .ref qa, .ref qb, .ref qd, .int (iI fm), .ref qp, .ref qq])), (qx, eL t.2.1 54 (uZ (uZ (uZ (uZ (uZ (uZ u7 36 (u7 18)) 37 (u7 19)) 38 (u7 20)) 39 (u7 21)) 40 (u7 22)) 41 (u7 23)))]) hC hK hP hD hS 1 rfl (by omega) rfl d_Mo_squareSign_160 (fun H locs hP hD hS => ?_)
    refine lv_iinc (v := iI 6) (lv' := [(13, .int (iI 6)), (12, .int (iI 2)), (11, .int (iI (-1))), (10, .int (iI 1)), (8, .long (lI L)), (0, .ref o), (1, .long (lI od)), (3, .int (iI len)), (4, .long (lI p)), (6, .long (lI q))]) hC.1 hC.2.1 d_Mo_squareSign_161 hl (k := 0) rfl (z_inc (by omega)) (by decide) rfl (fun ls hl => ?_)
    refine z_goto (tgt := 131) hC d_Mo_squareSign_164 (by decide) ?_
    refine lv_iload hC.1 hC.2.1 d_Mo_squareSign_131 (lv_at hl 0 rfl) ?_
    refine z_bipush hC d_Mo_squareSign_133 (by decide) ?_
    refine z_icmp_ge (tgt := 167) hC d_Mo_squareSign_135 (by decide) (by decide) (by decide) (fun h => absurd h (by decide)) (fun _ => ?_)
    refine lv_aload_n hC.1 hC.2.1 d_Mo_squareSign_138 rfl (lv_at hl 5 rfl) ?_
    refine z_get (ci := 5) (C := R_Mo) (T := F_Mo) (N := 21) (v := .ref qx) hC in_Mo hK hP 0 rfl rfl 13 (by decide) k_466 rfl d_Mo_squareSign_139 ?_
    refine z_bipush hC d_Mo_squareSign_142 (by decide) ?_
    refine lv_iload hC.1 hC.2.1 d_Mo_squareSign_144 (lv_at hl 0 rfl) ?_
    refine z_iadd hC d_Mo_squareSign_146 ?_
    refine z_topi (z := 42) (by omega) ?_
    refine lv_aload_n hC.1 hC.2.1 d_Mo_squareSign_147 rfl (lv_at hl 5 rfl) ?_
    refine z_get (ci := 5) (C := R_Mo) (T := F_Mo) (N := 21) (v := .ref qx) hC in_Mo hK hP 0 rfl rfl 13 (by decide) k_466 rfl d_Mo_squareSign_148 ?_
    refine z_bipush hC d_Mo_squareSign_151 (by decide) ?_
    refine lv_iload hC.1 hC.2.1 d_Mo_squareSign_153 (lv_at hl 1 rfl) ?_
    refine z_imul hC d_Mo_squareSign_155 ?_
    refine z_topi (z := 18) (by omega) ?_
    refine lv_iload hC.1 hC.2.1 d_Mo_squareSign_156 (lv_at hl 0 rfl) ?_
    refine z_iadd hC d_Mo_squareSign_158 ?_
    refine z_topi (z := 24) (by omega) ?_
    refine z_lald hC hK hP 1 rfl (by omega) d_Mo_squareSign_159 ?_
    refine z_topl (z := u7 24) (by rw [uZ_n (by omega), uZ_n (by omega), uZ_n (by omega), uZ_n (by omega), uZ_n (by omega), uZ_n (by omega)]) ?_
    refine z_last (ws' := [(o, .inr (5, [.int (iI cd), .int (iI z), .int (iI lv), .ref qT, .ref qC, .ref qF, .ref qY, .ref qZ, .ref qu, .ref qv, .ref qw, .ref qg, .ref qh, .ref qx, .ref qc, .ref qa, .ref qb, .ref qd, .int (iI fm), .ref qp, .ref qq])), (qx, eL t.2.1 54 (uZ (uZ (uZ (uZ (uZ (uZ (uZ u7 36 (u7 18)) 37 (u7 19)) 38 (u7 20)) 39 (u7 21)) 40 (u7 22)) 41 (u7 23)) 42 (u7 24)))]) hC hK hP hD hS 1 rfl (by omega) rfl d_Mo_squareSign_160 (fun H locs hP hD hS => ?_)
    refine lv_iinc (v := iI 7) (lv' := [(13, .int (iI 7)), (12, .int (iI 2)), (11, .int (iI (-1))), (10, .int (iI 1)), (8, .long (lI L)), (0, .ref o), (1, .long (lI od)), (3, .int (iI len)), (4, .long (lI p)), (6, .long (lI q))]) hC.1 hC.2.1 d_Mo_squareSign_161 hl (k := 0) rfl (z_inc (by omega)) (by decide) rfl (fun ls hl => ?_)
    refine z_goto (tgt := 131) hC d_Mo_squareSign_164 (by decide) ?_
    refine lv_iload hC.1 hC.2.1 d_Mo_squareSign_131 (lv_at hl 0 rfl) ?_
    refine z_bipush hC d_Mo_squareSign_133 (by decide) ?_
    refine z_icmp_ge (tgt := 167) hC d_Mo_squareSign_135 (by decide) (by decide) (by decide) (fun h => absurd h (by decide)) (fun _ => ?_)
    refine lv_aload_n hC.1 hC.2.1 d_Mo_squareSign_138 rfl (lv_at hl 5 rfl) ?_
    refine z_get (ci := 5) (C := R_Mo) (T := F_Mo) (N := 21) (v := .ref qx) hC in_Mo hK hP 0 rfl rfl 13 (by decide) k_466 rfl d_Mo_squareSign_139 ?_
    refine z_bipush hC d_Mo_squareSign_142 (by decide) ?_
    refine lv_iload hC.1 hC.2.1 d_Mo_squareSign_144 (lv_at hl 0 rfl) ?_
    refine z_iadd hC d_Mo_squareSign_146 ?_
    refine z_topi (z := 43) (by omega) ?_
    refine lv_aload_n hC.1 hC.2.1 d_Mo_squareSign_147 rfl (lv_at hl 5 rfl) ?_
    refine z_get (ci := 5) (C := R_Mo) (T := F_Mo) (N := 21) (v := .ref qx) hC in_Mo hK hP 0 rfl rfl 13 (by decide) k_466 rfl d_Mo_squareSign_148 ?_
    refine z_bipush hC d_Mo_squareSign_151 (by decide) ?_
    refine lv_iload hC.1 hC.2.1 d_Mo_squareSign_153 (lv_at hl 1 rfl) ?_
    refine z_imul hC d_Mo_squareSign_155 ?_
    refine z_topi (z := 18) (by omega) ?_
    refine lv_iload hC.1 hC.2.1 d_Mo_squareSign_156 (lv_at hl 0 rfl) ?_
    refine z_iadd hC d_Mo_squareSign_158 ?_
    refine z_topi (z := 25) (by omega) ?_
    refine z_lald hC hK hP 1 rfl (by omega) d_Mo_squareSign_159 ?_
    refine z_topl (z := u7 25) (by rw [uZ_n (by omega), uZ_n (by omega), uZ_n (by omega), uZ_n (by omega), uZ_n (by omega), uZ_n (by omega), uZ_n (by omega)]) ?_
    refine z_last (ws' := [(o, .inr (5, [.int (iI cd), .int (iI z), .int (iI lv), .ref qT, .ref qC, .ref qF, .ref qY, .ref qZ, .ref qu, .ref qv, .ref qw, .ref qg, .ref qh, .ref qx, .ref qc, .ref qa, .ref qb, .ref qd, .int (iI fm), .ref qp, .ref qq])), (qx, eL t.2.1 54 (uZ (uZ (uZ (uZ (uZ (uZ (uZ (uZ u7 36 (u7 18)) 37 (u7 19)) 38 (u7 20)) 39 (u7 21)) 40 (u7 22)) 41 (u7 23)) 42 (u7 24)) 43 (u7 25)))]) hC hK hP hD hS 1 rfl (by omega) rfl d_Mo_squareSign_160 (fun H locs hP hD hS => ?_)
    refine lv_iinc (v := iI 8) (lv' := [(13, .int (iI 8)), (12, .int (iI 2)), (11, .int (iI (-1))), (10, .int (iI 1)), (8, .long (lI L)), (0, .ref o), (1, .long (lI od)), (3, .int (iI len)), (4, .long (lI p)), (6, .long (lI q))]) hC.1 hC.2.1 d_Mo_squareSign_161 hl (k := 0) rfl (z_inc (by omega)) (by decide) rfl (fun ls hl => ?_)
    refine z_goto (tgt := 131) hC d_Mo_squareSign_164 (by decide) ?_
    refine lv_iload hC.1 hC.2.1 d_Mo_squareSign_131 (lv_at hl 0 rfl) ?_
    refine z_bipush hC d_Mo_squareSign_133 (by decide) ?_
    refine z_icmp_ge (tgt := 167) hC d_Mo_squareSign_135 (by decide) (by decide) (by decide) (fun h => absurd h (by decide)) (fun _ => ?_)
    refine lv_aload_n hC.1 hC.2.1 d_Mo_squareSign_138 rfl (lv_at hl 5 rfl) ?_
    refine z_get (ci := 5) (C := R_Mo) (T := F_Mo) (N := 21) (v := .ref qx) hC in_Mo hK hP 0 rfl rfl 13 (by decide) k_466 rfl d_Mo_squareSign_139 ?_
    refine z_bipush hC d_Mo_squareSign_142 (by decide) ?_
    refine lv_iload hC.1 hC.2.1 d_Mo_squareSign_144 (lv_at hl 0 rfl) ?_
    refine z_iadd hC d_Mo_squareSign_146 ?_
    refine z_topi (z := 44) (by omega) ?_
    refine lv_aload_n hC.1 hC.2.1 d_Mo_squareSign_147 rfl (lv_at hl 5 rfl) ?_
    refine z_get (ci := 5) (C := R_Mo) (T := F_Mo) (N := 21) (v := .ref qx) hC in_Mo hK hP 0 rfl rfl 13 (by decide) k_466 rfl d_Mo_squareSign_148 ?_
    refine z_bipush hC d_Mo_squareSign_151 (by decide) ?_
    refine lv_iload hC.1 hC.2.1 d_Mo_squareSign_153 (lv_at hl 1 rfl) ?_
    refine z_imul hC d_Mo_squareSign_155 ?_
    refine z_topi (z := 18) (by omega) ?_
    refine lv_iload hC.1 hC.2.1 d_Mo_squareSign_156 (lv_at hl 0 rfl) ?_
    refine z_iadd hC d_Mo_squareSign_158 ?_
    refine z_topi (z := 26) (by omega) ?_
    refine z_lald hC hK hP 1 rfl (by omega) d_Mo_squareSign_159 ?_
    refine z_topl (z := u7 26) (by rw [uZ_n (by omega), uZ_n (by omega), uZ_n (by omega), uZ_n (by omega), uZ_n (by omega), uZ_n (by omega), uZ_n (by omega), uZ_n (by omega)]) ?_
    refine z_last (ws' := [(o, .inr (5, [.int (iI cd), .int (iI z), .int (iI lv), .ref qT, .ref qC, .ref qF, .ref qY, .ref qZ, .ref qu, .ref qv, .ref qw, .ref qg, .ref qh, .ref qx, .ref qc, .ref qa, .ref qb, .ref qd, .int (iI fm), .ref qp, .ref qq])), (qx, eL t.2.1 54 (uZ (uZ (uZ (uZ (uZ (uZ (uZ (uZ (uZ u7 36 (u7 18)) 37 (u7 19)) 38 (u7 20)) 39 (u7 21)) 40 (u7 22)) 41 (u7 23)) 42 (u7 24)) 43 (u7 25)) 44 (u7 26)))]) hC hK hP hD hS 1 rfl (by omega) rfl d_Mo_squareSign_160 (fun H locs hP hD hS => ?_)
    refine lv_iinc (v := iI 9) (lv' := [(13, .int (iI 9)), (12, .int (iI 2)), (11, .int (iI (-1))), (10, .int (iI 1)), (8, .long (lI L)), (0, .ref o), (1, .long (lI od)), (3, .int (iI len)), (4, .long (lI p)), (6, .long (lI q))]) hC.1 hC.2.1 d_Mo_squareSign_161 hl (k := 0) rfl (z_inc (by omega)) (by decide) rfl (fun ls hl => ?_)
    refine z_goto (tgt := 131) hC d_Mo_squareSign_164 (by decide) ?_
    refine lv_iload hC.1 hC.2.1 d_Mo_squareSign_131 (lv_at hl 0 rfl) ?_
    refine z_bipush hC d_Mo_squareSign_133 (by decide) ?_
    refine z_icmp_ge (tgt := 167) hC d_Mo_squareSign_135 (by decide) (by decide) (by decide) (fun _ => ?_) (fun h => absurd h (by decide))
    have cpq : ∀ i : Int, 0 ≤ i → i < 9 → (uZ (uZ (uZ (uZ (uZ (uZ (uZ (uZ (uZ u7 36 (u7 18)) 37 (u7 19)) 38 (u7 20)) 39 (u7 21)) 40 (u7 22)) 41 (u7 23)) 42 (u7 24)) 43 (u7 25)) 44 (u7 26)) (36 + i) = u7 (9 * 2 + i) := nine (uZ_nt (by omega) (uZ_nt (by omega) (uZ_nt (by omega) (uZ_nt (by omega) (uZ_nt (by omega) (uZ_nt (by omega) (uZ_nt (by omega) (uZ_nt (by omega) (uZ_et (by omega)))))))))) (uZ_nt (by omega) (uZ_nt (by omega) (uZ_nt (by omega) (uZ_nt (by omega) (uZ_nt (by omega) (uZ_nt (by omega) (uZ_nt (by omega) (uZ_et (by omega))))))))) (uZ_nt (by omega) (uZ_nt (by omega) (uZ_nt (by omega) (uZ_nt (by omega) (uZ_nt (by omega) (uZ_nt (by omega) (uZ_et (by omega)))))))) (uZ_nt (by omega) (uZ_nt (by omega) (uZ_nt (by omega) (uZ_nt (by omega) (uZ_nt (by omega) (uZ_et (by omega))))))) (uZ_nt (by omega) (uZ_nt (by omega) (uZ_nt (by omega) (uZ_nt (by omega) (uZ_et (by omega)))))) (uZ_nt (by omega) (uZ_nt (by omega) (uZ_nt (by omega) (uZ_et (by omega))))) (uZ_nt (by omega) (uZ_nt (by omega) (uZ_et (by omega)))) (uZ_nt (by omega) (uZ_et (by omega))) (uZ_et (by omega))
    have cpf : ∀ k, k < 9 * 4 ∨ 9 * 4 + 9 ≤ k → (uZ (uZ (uZ (uZ (uZ (uZ (uZ (uZ (uZ u7 36 (u7 18)) 37 (u7 19)) 38 (u7 20)) 39 (u7 21)) 40 (u7 22)) 41 (u7 23)) 42 (u7 24)) 43 (u7 25)) 44 (u7 26)) k = u7 k := fun k hk => (uZ_nt (by omega) (uZ_nt (by omega) (uZ_nt (by omega) (uZ_nt (by omega) (uZ_nt (by omega) (uZ_nt (by omega) (uZ_nt (by omega) (uZ_nt (by omega) (uZ_nt (by omega) rfl)))))))))
    obtain ⟨Wc, eWc⟩ : ∃ G : Int → Int, G = (uZ (uZ (uZ (uZ (uZ (uZ (uZ (uZ (uZ u7 36 (u7 18)) 37 (u7 19)) 38 (u7 20)) 39 (u7 21)) 40 (u7 22)) 41 (u7 23)) 42 (u7 24)) 43 (u7 25)) 44 (u7 26)) := ⟨_, rfl⟩
    rw [← eWc] at hP hD
    have b4_c : bk Wc (9 * 4) (L * (szZ (2 * p + q))) := by rw [eWc]; exact bk_cp b2_u7 cpq
    have b2_c : bk Wc (9 * 2) (L * (szZ (2 * p + q))) := by rw [eWc]; exact bk_keep b2_u7 cpf (by omega)
    have b3_c : bk Wc (9 * 3) ((szZ od) * (szZ od)) := by rw [eWc]; exact bk_keep b3_u7 cpf (by omega)
    have b0_c : bk Wc (9 * 0) 2 := by rw [eWc]; exact bk_keep b0_u7 cpf (by omega)
    have b1_c : bk Wc (9 * 1) (((szZ od) * (szZ od)) * 2) := by rw [eWc]; exact bk_keep b1_u7 cpf (by omega)
    obtain ⟨X4, eX4⟩ : ∃ z : Int, z = (L * (szZ (2 * p + q))) + (((szZ od) * (szZ od)) * 2) := ⟨_, rfl⟩
    have hX : XX = -X4 ∧ 0 < X4 ∧ X4 ≤ 210000000000000000000000000000 := by omega
    have szX : szZ XX = X4 := by unfold szZ; split <;> omega
    have n5 := Int.mul_nonneg (show 0 ≤ X4 by omega) (show 0 ≤ X4 by omega)
    have m5 := mul_bd (a := X4) (b := X4) (A := 210000000000000000000000000000) (B := 210000000000000000000000000000) (by omega) (by omega)
    refine lv_iload hC.1 hC.2.1 d_Mo_squareSign_167 (lv_at hl 3 rfl) ?_
    refine z_if_eq (tgt := 181) hC d_Mo_squareSign_169 (by decide) (by decide) (fun h => absurd h (by decide)) (fun _ => ?_)
    refine lv_aload_n hC.1 hC.2.1 d_Mo_squareSign_172 rfl (lv_at hl 5 rfl) ?_
    refine z_iconst hC d_Mo_squareSign_173 ?_
    refine z_iconst hC d_Mo_squareSign_174 ?_
    refine z_mVv (As := [.int (iI 4), .int (iI 1)]) (rest := []) (wr := []) hC (c_Mo_grow l D t ts o qT qC qF qY qZ qu qv qw qg qh qx qc qa qb qd qp qq cd z lv fm Wc 4 1 (L * (szZ (2 * p + q))) (((szZ od) * (szZ od)) * 2) X4 (by decide) (by decide) (by decide) b4_c b1_c (by omega) (by have := p9; omega) _) (cw_V hC k_755 k_757 kp_65 k_6 k_758 ye_Mo_grow (by decide)) hP hD hK hE hS hA [0, 1] [] (by decide) rfl rfl (by decide) (by decide) 0 (ci := 5) rfl rfl rfl rfl hl.1 rfl (Nat.le_of_ble_eq_true rfl) ⟨Nat.le_of_ble_eq_true rfl, Nat.le_of_ble_eq_true rfl⟩ d_Mo_squareSign_175 (fun u56 H locs eu56 hP hD hS => ?_)
    have b2_u56 : bk u56 (9 * 2) (L * (szZ (2 * p + q))) := bk_keep b2_c eu56.2 (by omega)
    have b3_u56 : bk u56 (9 * 3) ((szZ od) * (szZ od)) := bk_keep b3_c eu56.2 (by omega)
    have b0_u56 : bk u56 (9 * 0) 2 := bk_keep b0_c eu56.2 (by omega)
    have b1_u56 : bk u56 (9 * 1) (((szZ od) * (szZ od)) * 2) := bk_keep b1_c eu56.2 (by omega)
    have b4_u56 : bk u56 (9 * 4) X4 := eu56.1
    have hP : va_P D classes [(o, .inr (5, [.int (iI cd), .int (iI z), .int (iI lv), .ref qT, .ref qC, .ref qF, .ref qY, .ref qZ, .ref qu, .ref qv, .ref qw, .ref qg, .ref qh, .ref qx, .ref qc, .ref qa, .ref qb, .ref qd, .int (iI fm), .ref qp, .ref qq])), (qx, eL t.2.1 54 u56)] H := hP
    have hD : va_D A [(o, .inr (5, [.int (iI cd), .int (iI z), .int (iI lv), .ref qT, .ref qC, .ref qF, .ref qY, .ref qZ, .ref qu, .ref qv, .ref qw, .ref qg, .ref qh, .ref qx, .ref qc, .ref qa, .ref qb, .ref qd, .int (iI fm), .ref qp, .ref qq])), (qx, eL t.2.1 54 u56)] := hD
    refine z_goto (tgt := 197) hC d_Mo_squareSign_178 (by decide) ?_
    refine lv_aload_n hC.1 hC.2.1 d_Mo_squareSign_197 rfl (lv_at hl 5 rfl) ?_
    refine z_iconst hC d_Mo_squareSign_198 ?_
    refine lv_lload hC.1 hC.2.1 d_Mo_squareSign_199 (lv_at hl 4 rfl) ?_
    refine z_mVv (As := [.int (iI 0), .long (lI L)]) (rest := []) (wr := []) hC (c_Mo_be l D t ts o qT qC qF qY qZ qu qv qw qg qh qx qc qa qb qd qp qq cd z lv fm u56 0 L (by decide) (by omega) _) (cw_V hC k_585 k_587 kp_34 k_6 k_588 ye_Mo_be (by decide)) hP hD hK hE hS hA [0, 1] [] (by decide) rfl rfl (by decide) (by decide) 0 (ci := 5) rfl rfl rfl rfl hl.1 rfl (Nat.le_of_ble_eq_true rfl) ⟨Nat.le_of_ble_eq_true rfl, Nat.le_of_ble_eq_true rfl⟩ d_Mo_squareSign_201 (fun u57 H locs eu57 hP hD hS => ?_)
    have b2_u57 : bk u57 (9 * 2) (L * (szZ (2 * p + q))) := bk_keep b2_u56 eu57.2 (by omega)
    have b3_u57 : bk u57 (9 * 3) ((szZ od) * (szZ od)) := bk_keep b3_u56 eu57.2 (by omega)
    have b1_u57 : bk u57 (9 * 1) (((szZ od) * (szZ od)) * 2) := bk_keep b1_u56 eu57.2 (by omega)
    have b4_u57 : bk u57 (9 * 4) X4 := bk_keep b4_u56 eu57.2 (by omega)
    have b0_u57 : bk u57 (9 * 0) L := eu57.1
    have hP : va_P D classes [(o, .inr (5, [.int (iI cd), .int (iI z), .int (iI lv), .ref qT, .ref qC, .ref qF, .ref qY, .ref qZ, .ref qu, .ref qv, .ref qw, .ref qg, .ref qh, .ref qx, .ref qc, .ref qa, .ref qb, .ref qd, .int (iI fm), .ref qp, .ref qq])), (qx, eL t.2.1 54 u57)] H := hP
    have hD : va_D A [(o, .inr (5, [.int (iI cd), .int (iI z), .int (iI lv), .ref qT, .ref qC, .ref qF, .ref qY, .ref qZ, .ref qu, .ref qv, .ref qw, .ref qg, .ref qh, .ref qx, .ref qc, .ref qa, .ref qb, .ref qd, .int (iI fm), .ref qp, .ref qq])), (qx, eL t.2.1 54 u57)] := hD
    refine lv_aload_n hC.1 hC.2.1 d_Mo_squareSign_204 rfl (lv_at hl 5 rfl) ?_
    refine z_iconst hC d_Mo_squareSign_205 ?_
    refine lv_lload hC.1 hC.2.1 d_Mo_squareSign_206 (lv_at hl 9 rfl) ?_
    refine z_roSl (As := [.long (lI q)]) (rest := [.int (iI 1), .ref o]) hC (c_Mo_size l D t ts q (by omega)) (cw_S hC k_552 k_553 k_6 k_554 ye_Mo_size (by decide)) hP hK hE hS [] rfl rfl hl.1 rfl (Nat.le_of_ble_eq_true rfl) ⟨Nat.le_of_ble_eq_true rfl, Nat.le_of_ble_eq_true rfl⟩ d_Mo_squareSign_208 ?_
    refine z_mVv (As := [.int (iI 1), .long (lI (szZ q))]) (rest := []) (wr := []) hC (c_Mo_be l D t ts o qT qC qF qY qZ qu qv qw qg qh qx qc qa qb qd qp qq cd z lv fm u57 1 (szZ q) (by decide) (by have := szZ_in (x := q) (by omega); omega) _) (cw_V hC k_585 k_587 kp_34 k_6 k_588 ye_Mo_be (by decide)) hP hD hK hE hS hA [0, 1] [] (by decide) rfl rfl (by decide) (by decide) 0 (ci := 5) rfl rfl rfl rfl hl.1 rfl (Nat.le_of_ble_eq_true rfl) ⟨Nat.le_of_ble_eq_true rfl, Nat.le_of_ble_eq_true rfl⟩ d_Mo_squareSign_211 (fun u58 H locs eu58 hP hD hS => ?_)
    have b2_u58 : bk u58 (9 * 2) (L * (szZ (2 * p + q))) := bk_keep b2_u57 eu58.2 (by omega)
    have b3_u58 : bk u58 (9 * 3) ((szZ od) * (szZ od)) := bk_keep b3_u57 eu58.2 (by omega)
    have b4_u58 : bk u58 (9 * 4) X4 := bk_keep b4_u57 eu58.2 (by omega)
    have b0_u58 : bk u58 (9 * 0) L := bk_keep b0_u57 eu58.2 (by omega)
    have b1_u58 : bk u58 (9 * 1) (szZ q) := eu58.1
    have hP : va_P D classes [(o, .inr (5, [.int (iI cd), .int (iI z), .int (iI lv), .ref qT, .ref qC, .ref qF, .ref qY, .ref qZ, .ref qu, .ref qv, .ref qw, .ref qg, .ref qh, .ref qx, .ref qc, .ref qa, .ref qb, .ref qd, .int (iI fm), .ref qp, .ref qq])), (qx, eL t.2.1 54 u58)] H := hP
    have hD : va_D A [(o, .inr (5, [.int (iI cd), .int (iI z), .int (iI lv), .ref qT, .ref qC, .ref qF, .ref qY, .ref qZ, .ref qu, .ref qv, .ref qw, .ref qg, .ref qh, .ref qx, .ref qc, .ref qa, .ref qb, .ref qd, .int (iI fm), .ref qp, .ref qq])), (qx, eL t.2.1 54 u58)] := hD
    refine lv_aload_n hC.1 hC.2.1 d_Mo_squareSign_214 rfl (lv_at hl 5 rfl) ?_
    refine z_iconst hC d_Mo_squareSign_215 ?_
    refine z_iconst hC d_Mo_squareSign_216 ?_
    refine z_iconst hC d_Mo_squareSign_217 ?_
    refine z_mVv (As := [.int (iI 2), .int (iI 0), .int (iI 1)]) (rest := []) (wr := []) hC (c_Mo_product l D t ts o qT qC qF qY qZ qu qv qw qg qh qx qc qa qb qd qp qq cd z lv fm u58 2 0 1 L (szZ q) (by decide) (by decide) (by decide) (by decide) (by decide) b0_u58 b1_u58 (by omega) (by omega) (by have := p9; have := mul_bd (a := L) (b := szZ q) (A := 100000000000000) (B := 100000000000000) (by omega) (by omega); omega) _) (cw_V hC k_590 k_592 kp_35 k_6 k_593 ye_Mo_product (by decide)) hP hD hK hE hS hA [0, 1] [] (by decide) rfl rfl (by decide) (by decide) 0 (ci := 5) rfl rfl rfl rfl hl.1 rfl (Nat.le_of_ble_eq_true rfl) ⟨Nat.le_of_ble_eq_true rfl, Nat.le_of_ble_eq_true rfl⟩ d_Mo_squareSign_218 (fun u59 H locs eu59 hP hD hS => ?_)
    have b3_u59 : bk u59 (9 * 3) ((szZ od) * (szZ od)) := bk_keep b3_u58 eu59.2 (by omega)
    have b4_u59 : bk u59 (9 * 4) X4 := bk_keep b4_u58 eu59.2 (by omega)
    have b0_u59 : bk u59 (9 * 0) L := bk_keep b0_u58 eu59.2 (by omega)
    have b1_u59 : bk u59 (9 * 1) (szZ q) := bk_keep b1_u58 eu59.2 (by omega)
    have b2_u59 : bk u59 (9 * 2) (L * (szZ q)) := eu59.1
    have hP : va_P D classes [(o, .inr (5, [.int (iI cd), .int (iI z), .int (iI lv), .ref qT, .ref qC, .ref qF, .ref qY, .ref qZ, .ref qu, .ref qv, .ref qw, .ref qg, .ref qh, .ref qx, .ref qc, .ref qa, .ref qb, .ref qd, .int (iI fm), .ref qp, .ref qq])), (qx, eL t.2.1 54 u59)] H := hP
    have hD : va_D A [(o, .inr (5, [.int (iI cd), .int (iI z), .int (iI lv), .ref qT, .ref qC, .ref qF, .ref qY, .ref qZ, .ref qu, .ref qv, .ref qw, .ref qg, .ref qh, .ref qx, .ref qc, .ref qa, .ref qb, .ref qd, .int (iI fm), .ref qp, .ref qq])), (qx, eL t.2.1 54 u59)] := hD
    refine z_iconst hC d_Mo_squareSign_221 ?_
    refine lv_istore (lv' := [(13, .int (iI 1)), (12, .int (iI 2)), (11, .int (iI (-1))), (10, .int (iI 1)), (8, .long (lI L)), (0, .ref o), (1, .long (lI od)), (3, .int (iI len)), (4, .long (lI p)), (6, .long (lI q))]) hC.1 hC.2.1 d_Mo_squareSign_222 hl (by decide) rfl (fun ls hl => ?_)
    refine z_iconst hC d_Mo_squareSign_224 ?_
    refine lv_istore (lv' := [(14, .int (iI 0)), (13, .int (iI 1)), (12, .int (iI 2)), (11, .int (iI (-1))), (10, .int (iI 1)), (8, .long (lI L)), (0, .ref o), (1, .long (lI od)), (3, .int (iI len)), (4, .long (lI p)), (6, .long (lI q))]) hC.1 hC.2.1 d_Mo_squareSign_225 hl (by decide) rfl (fun ls hl => ?_)
    have L227 : ∀ (fu : Nat) (no : Bool) (i : Int) (H : Heap) (locs : List Loc) (ls : Array Slot), 9 - i + 1 ≤ (fu : Int) → (0 ≤ i ∧ i ≤ 9) → (no = !anyZ i.toNat (fun m => decide (¬ u59 (m + 36) = 0))) → va_P D classes [(o, .inr (5, [.int (iI cd), .int (iI z), .int (iI lv), .ref qT, .ref qC, .ref qF, .ref qY, .ref qZ, .ref qu, .ref qv, .ref qw, .ref qg, .ref qh, .ref qx, .ref qc, .ref qa, .ref qb, .ref qd, .int (iI fm), .ref qp, .ref qq])), (qx, eL t.2.1 54 u59)] H → va_D A [(o, .inr (5, [.int (iI cd), .int (iI z), .int (iI lv), .ref qT, .ref qC, .ref qF, .ref qY, .ref qZ, .ref qu, .ref qv, .ref qw, .ref qg, .ref qh, .ref qx, .ref qc, .ref qa, .ref qb, .ref qd, .int (iI fm), .ref qp, .ref qq])), (qx, eL t.2.1 54 u59)] → va_S A zs.heap H locs → lv_has ls 16 [(14, .int (iI i)), (13, .int (iI (zB no))), (12, .int (iI 2)), (11, .int (iI (-1))), (10, .int (iI 1)), (8, .long (lI L)), (0, .ref o), (1, .long (lI od)), (3, .int (iI len)), (4, .long (lI p)), (6, .long (lI q))] → W zp l ze rm_Mo_squareSign zs zm [.ref o, .long (lI od), .int (iI len), .long (lI p), .long (lI q)].toArray zb zt zc H locs 0 0 zQ (F0 zm 227 ls []) := by
      intro fu
      induction fu with
      | zero =>
        intro no i H locs ls hm227 hi eno hP hD hS hl
        exact absurd hm227 (by omega)
      | succ fu ih227 =>
        intro no i H locs ls hm227 hi eno hP hD hS hl
        refine lv_iload hC.1 hC.2.1 d_Mo_squareSign_227 (lv_at hl 0 rfl) ?_
        refine z_bipush hC d_Mo_squareSign_229 (by decide) ?_
        refine z_icmp_ge (tgt := 267) hC d_Mo_squareSign_231 (by decide) (by omega) (by decide) (fun h231 => ?_) (fun h231 => ?_)
        · have hno : no = decide (X4 = 0) := by rw [eno, show i = 9 by omega]; exact bk_none b4_u59
          have fx : 0 ≤ XX ∧ XX ≤ 0 ∨ ¬ X4 = 0 := by omega
          refine lv_iload hC.1 hC.2.1 d_Mo_squareSign_267 (lv_at hl 1 rfl) ?_
          refine z_if_eqB (tgt := 276) hC d_Mo_squareSign_269 (by decide) (fun h269 => ?_) (fun h269 => ?_)
          · have hn9 : ¬ X4 = 0 := by rw [h269] at hno; simpa using hno
            refine lv_iload hC.1 hC.2.1 d_Mo_squareSign_276 (lv_at hl 3 rfl) ?_
            refine lv_istore (lv' := [(14, .int (iI (-1))), (13, .int (iI (zB no))), (12, .int (iI 2)), (11, .int (iI (-1))), (10, .int (iI 1)), (8, .long (lI L)), (0, .ref o), (1, .long (lI od)), (3, .int (iI len)), (4, .long (lI p)), (6, .long (lI q))]) hC.1 hC.2.1 d_Mo_squareSign_278 hl (by decide) rfl (fun ls hl => ?_)
            refine lv_lload hC.1 hC.2.1 d_Mo_squareSign_280 (lv_at hl 10 rfl) ?_
            refine z_lconst (v := 0) hC d_Mo_squareSign_282 (by decide) ?_
            refine z_lcmp_ge (tgt := 291) hC d_Mo_squareSign_283 d_Mo_squareSign_284 (by decide) (by omega) (by decide) (fun h283 => ?_) (fun h283 => ?_)
            · refine lv_lload hC.1 hC.2.1 d_Mo_squareSign_291 (lv_at hl 10 rfl) ?_
              refine z_lconst (v := 0) hC d_Mo_squareSign_293 (by decide) ?_
              refine z_lcmp_le (tgt := 302) hC d_Mo_squareSign_294 d_Mo_squareSign_295 (by decide) (by omega) (by decide) (fun h294 => ?_) (fun h294 => ?_)
              · refine z_iconst hC d_Mo_squareSign_302 ?_
                refine lv_istore (lv' := [(15, .int (iI 0)), (14, .int (iI (-1))), (13, .int (iI (zB no))), (12, .int (iI 2)), (11, .int (iI (-1))), (10, .int (iI 1)), (8, .long (lI L)), (0, .ref o), (1, .long (lI od)), (3, .int (iI len)), (4, .long (lI p)), (6, .long (lI q))]) hC.1 hC.2.1 d_Mo_squareSign_303 hl (by decide) rfl (fun ls hl => ?_)
                refine lv_iload hC.1 hC.2.1 d_Mo_squareSign_305 (lv_at hl 1 rfl) ?_
                refine z_if_lt (tgt := 331) hC d_Mo_squareSign_307 (by decide) (by decide) (fun _ => ?_) (fun h => absurd h (by decide))
                refine lv_iload hC.1 hC.2.1 d_Mo_squareSign_331 (lv_at hl 1 rfl) ?_
                refine z_if_gt (tgt := 343) hC d_Mo_squareSign_333 (by decide) (by decide) (fun h => absurd h (by decide)) (fun _ => ?_)
                refine lv_iload hC.1 hC.2.1 d_Mo_squareSign_336 (lv_at hl 0 rfl) ?_
                refine z_if_gt (tgt := 343) hC d_Mo_squareSign_338 (by decide) (by decide) (fun h => absurd h (by decide)) (fun _ => ?_)
                refine z_iconst hC d_Mo_squareSign_341 ?_
                have hP9 := hP.sub (ws' := [(o, .inr (5, [.int (iI cd), .int (iI z), .int (iI lv), .ref qT, .ref qC, .ref qF, .ref qY, .ref qZ, .ref qu, .ref qv, .ref qw, .ref qg, .ref qh, .ref qx, .ref qc, .ref qa, .ref qb, .ref qd, .int (iI fm), .ref qp, .ref qq])), (qx, eL t.2.1 54 u59)]) [0, 1] rfl
                have hD9 := hD.sub (ws' := [(o, .inr (5, [.int (iI cd), .int (iI z), .int (iI lv), .ref qT, .ref qC, .ref qF, .ref qY, .ref qZ, .ref qu, .ref qv, .ref qw, .ref qg, .ref qh, .ref qx, .ref qc, .ref qa, .ref qb, .ref qd, .int (iI fm), .ref qp, .ref qq])), (qx, eL t.2.1 54 u59)]) [0, 1] (by decide) rfl
                exact retv (-1, u59) _ _ 342 _ _ d_Mo_squareSign_342 ⟨rfl, (by show -1 = _; rw [eV]; unfold rsZ; rw [if_neg (by omega), if_pos (by omega)])⟩ hP9 hD9 hS
              · refine z_iconst hC d_Mo_squareSign_298 ?_
                refine z_goto (tgt := 303) hC d_Mo_squareSign_299 (by decide) ?_
                refine lv_istore (lv' := [(15, .int (iI 1)), (14, .int (iI (-1))), (13, .int (iI (zB no))), (12, .int (iI 2)), (11, .int (iI (-1))), (10, .int (iI 1)), (8, .long (lI L)), (0, .ref o), (1, .long (lI od)), (3, .int (iI len)), (4, .long (lI p)), (6, .long (lI q))]) hC.1 hC.2.1 d_Mo_squareSign_303 hl (by decide) rfl (fun ls hl => ?_)
                refine lv_iload hC.1 hC.2.1 d_Mo_squareSign_305 (lv_at hl 1 rfl) ?_
                refine z_if_lt (tgt := 331) hC d_Mo_squareSign_307 (by decide) (by decide) (fun _ => ?_) (fun h => absurd h (by decide))
                refine lv_iload hC.1 hC.2.1 d_Mo_squareSign_331 (lv_at hl 1 rfl) ?_
                refine z_if_gt (tgt := 343) hC d_Mo_squareSign_333 (by decide) (by decide) (fun h => absurd h (by decide)) (fun _ => ?_)
                refine lv_iload hC.1 hC.2.1 d_Mo_squareSign_336 (lv_at hl 0 rfl) ?_
                refine z_if_gt (tgt := 343) hC d_Mo_squareSign_338 (by decide) (by decide) (fun _ => ?_) (fun h => absurd h (by decide))
                refine lv_aload_n hC.1 hC.2.1 d_Mo_squareSign_343 rfl (lv_at hl 7 rfl) ?_
                refine z_iconst hC d_Mo_squareSign_344 ?_
                refine z_iconst hC d_Mo_squareSign_345 ?_
                refine z_iconst hC d_Mo_squareSign_346 ?_
                refine z_mVv (As := [.int (iI 5), .int (iI 4), .int (iI 4)]) (rest := []) (wr := []) hC (c_Mo_product l D t ts o qT qC qF qY qZ qu qv qw qg qh qx qc qa qb qd qp qq cd z lv fm u59 5 4 4 X4 X4 (by decide) (by decide) (by decide) (by decide) (by decide) b4_u59 b4_u59 (by omega) (by omega) (by have := p9; have := mul_bd (a := X4) (b := X4) (A := 210000000000000000000000000000) (B := 210000000000000000000000000000) (by omega) (by omega); omega) _) (cw_V hC k_590 k_592 kp_35 k_6 k_593 ye_Mo_product (by decide)) hP hD hK hE hS hA [0, 1] [] (by decide) rfl rfl (by decide) (by decide) 0 (ci := 5) rfl rfl rfl rfl hl.1 rfl (Nat.le_of_ble_eq_true rfl) ⟨Nat.le_of_ble_eq_true rfl, Nat.le_of_ble_eq_true rfl⟩ d_Mo_squareSign_347 (fun u60 H locs eu60 hP hD hS => ?_)
                have b3_u60 : bk u60 (9 * 3) ((szZ od) * (szZ od)) := bk_keep b3_u59 eu60.2 (by omega)
                have b4_u60 : bk u60 (9 * 4) X4 := bk_keep b4_u59 eu60.2 (by omega)
                have b0_u60 : bk u60 (9 * 0) L := bk_keep b0_u59 eu60.2 (by omega)
                have b1_u60 : bk u60 (9 * 1) (szZ q) := bk_keep b1_u59 eu60.2 (by omega)
                have b2_u60 : bk u60 (9 * 2) (L * (szZ q)) := bk_keep b2_u59 eu60.2 (by omega)
                have b5_u60 : bk u60 (9 * 5) (X4 * X4) := eu60.1
                have hP : va_P D classes [(o, .inr (5, [.int (iI cd), .int (iI z), .int (iI lv), .ref qT, .ref qC, .ref qF, .ref qY, .ref qZ, .ref qu, .ref qv, .ref qw, .ref qg, .ref qh, .ref qx, .ref qc, .ref qa, .ref qb, .ref qd, .int (iI fm), .ref qp, .ref qq])), (qx, eL t.2.1 54 u60)] H := hP
                have hD : va_D A [(o, .inr (5, [.int (iI cd), .int (iI z), .int (iI lv), .ref qT, .ref qC, .ref qF, .ref qY, .ref qZ, .ref qu, .ref qv, .ref qw, .ref qg, .ref qh, .ref qx, .ref qc, .ref qa, .ref qb, .ref qd, .int (iI fm), .ref qp, .ref qq])), (qx, eL t.2.1 54 u60)] := hD
                refine lv_aload_n hC.1 hC.2.1 d_Mo_squareSign_350 rfl (lv_at hl 7 rfl) ?_
                refine z_iconst hC d_Mo_squareSign_351 ?_
                refine z_iconst hC d_Mo_squareSign_352 ?_
                refine z_iconst hC d_Mo_squareSign_353 ?_
                refine z_mVv (As := [.int (iI 3), .int (iI 2), .int (iI 2)]) (rest := []) (wr := []) hC (c_Mo_product l D t ts o qT qC qF qY qZ qu qv qw qg qh qx qc qa qb qd qp qq cd z lv fm u60 3 2 2 (L * (szZ q)) (L * (szZ q)) (by decide) (by decide) (by decide) (by decide) (by decide) b2_u60 b2_u60 (by omega) (by omega) (by have := p9; have := mul_bd (a := L * (szZ q)) (b := L * (szZ q)) (A := 10000000000000000000000000000) (B := 10000000000000000000000000000) (by omega) (by omega); omega) _) (cw_V hC k_590 k_592 kp_35 k_6 k_593 ye_Mo_product (by decide)) hP hD hK hE hS hA [0, 1] [] (by decide) rfl rfl (by decide) (by decide) 0 (ci := 5) rfl rfl rfl rfl hl.1 rfl (Nat.le_of_ble_eq_true rfl) ⟨Nat.le_of_ble_eq_true rfl, Nat.le_of_ble_eq_true rfl⟩ d_Mo_squareSign_354 (fun u61 H locs eu61 hP hD hS => ?_)
                have b4_u61 : bk u61 (9 * 4) X4 := bk_keep b4_u60 eu61.2 (by omega)
                have b0_u61 : bk u61 (9 * 0) L := bk_keep b0_u60 eu61.2 (by omega)
                have b1_u61 : bk u61 (9 * 1) (szZ q) := bk_keep b1_u60 eu61.2 (by omega)
                have b2_u61 : bk u61 (9 * 2) (L * (szZ q)) := bk_keep b2_u60 eu61.2 (by omega)
                have b5_u61 : bk u61 (9 * 5) (X4 * X4) := bk_keep b5_u60 eu61.2 (by omega)
                have b3_u61 : bk u61 (9 * 3) ((L * (szZ q)) * (L * (szZ q))) := eu61.1
                have hP : va_P D classes [(o, .inr (5, [.int (iI cd), .int (iI z), .int (iI lv), .ref qT, .ref qC, .ref qF, .ref qY, .ref qZ, .ref qu, .ref qv, .ref qw, .ref qg, .ref qh, .ref qx, .ref qc, .ref qa, .ref qb, .ref qd, .int (iI fm), .ref qp, .ref qq])), (qx, eL t.2.1 54 u61)] H := hP
                have hD : va_D A [(o, .inr (5, [.int (iI cd), .int (iI z), .int (iI lv), .ref qT, .ref qC, .ref qF, .ref qY, .ref qZ, .ref qu, .ref qv, .ref qw, .ref qg, .ref qh, .ref qx, .ref qc, .ref qa, .ref qb, .ref qd, .int (iI fm), .ref qp, .ref qq])), (qx, eL t.2.1 54 u61)] := hD
                refine lv_aload_n hC.1 hC.2.1 d_Mo_squareSign_357 rfl (lv_at hl 7 rfl) ?_
                refine z_iconst hC d_Mo_squareSign_358 ?_
                refine z_ldc2 hC k_594 d_Mo_squareSign_359 ?_
                refine z_mVv (As := [.int (iI 0), .long (lI 5)]) (rest := []) (wr := []) hC (c_Mo_be l D t ts o qT qC qF qY qZ qu qv qw qg qh qx qc qa qb qd qp qq cd z lv fm u61 0 5 (by decide) (by decide) _) (cw_V hC k_585 k_587 kp_34 k_6 k_588 ye_Mo_be (by decide)) hP hD hK hE hS hA [0, 1] [] (by decide) rfl rfl (by decide) (by decide) 0 (ci := 5) rfl rfl rfl rfl hl.1 rfl (Nat.le_of_ble_eq_true rfl) ⟨Nat.le_of_ble_eq_true rfl, Nat.le_of_ble_eq_true rfl⟩ d_Mo_squareSign_362 (fun u62 H locs eu62 hP hD hS => ?_)
                have b4_u62 : bk u62 (9 * 4) X4 := bk_keep b4_u61 eu62.2 (by omega)
                have b1_u62 : bk u62 (9 * 1) (szZ q) := bk_keep b1_u61 eu62.2 (by omega)
                have b2_u62 : bk u62 (9 * 2) (L * (szZ q)) := bk_keep b2_u61 eu62.2 (by omega)
                have b5_u62 : bk u62 (9 * 5) (X4 * X4) := bk_keep b5_u61 eu62.2 (by omega)
                have b3_u62 : bk u62 (9 * 3) ((L * (szZ q)) * (L * (szZ q))) := bk_keep b3_u61 eu62.2 (by omega)
                have b0_u62 : bk u62 (9 * 0) 5 := eu62.1
                have hP : va_P D classes [(o, .inr (5, [.int (iI cd), .int (iI z), .int (iI lv), .ref qT, .ref qC, .ref qF, .ref qY, .ref qZ, .ref qu, .ref qv, .ref qw, .ref qg, .ref qh, .ref qx, .ref qc, .ref qa, .ref qb, .ref qd, .int (iI fm), .ref qp, .ref qq])), (qx, eL t.2.1 54 u62)] H := hP
                have hD : va_D A [(o, .inr (5, [.int (iI cd), .int (iI z), .int (iI lv), .ref qT, .ref qC, .ref qF, .ref qY, .ref qZ, .ref qu, .ref qv, .ref qw, .ref qg, .ref qh, .ref qx, .ref qc, .ref qa, .ref qb, .ref qd, .int (iI fm), .ref qp, .ref qq])), (qx, eL t.2.1 54 u62)] := hD
                refine lv_aload_n hC.1 hC.2.1 d_Mo_squareSign_365 rfl (lv_at hl 7 rfl) ?_
                refine z_iconst hC d_Mo_squareSign_366 ?_
                refine z_iconst hC d_Mo_squareSign_367 ?_
                refine z_iconst hC d_Mo_squareSign_368 ?_
                refine z_mVv (As := [.int (iI 1), .int (iI 3), .int (iI 0)]) (rest := []) (wr := []) hC (c_Mo_product l D t ts o qT qC qF qY qZ qu qv qw qg qh qx qc qa qb qd qp qq cd z lv fm u62 1 3 0 ((L * (szZ q)) * (L * (szZ q))) 5 (by decide) (by decide) (by decide) (by decide) (by decide) b3_u62 b0_u62 (by omega) (by omega) (by have := p9; omega) _) (cw_V hC k_590 k_592 kp_35 k_6 k_593 ye_Mo_product (by decide)) hP hD hK hE hS hA [0, 1] [] (by decide) rfl rfl (by decide) (by decide) 0 (ci := 5) rfl rfl rfl rfl hl.1 rfl (Nat.le_of_ble_eq_true rfl) ⟨Nat.le_of_ble_eq_true rfl, Nat.le_of_ble_eq_true rfl⟩ d_Mo_squareSign_369 (fun u63 H locs eu63 hP hD hS => ?_)
                have b4_u63 : bk u63 (9 * 4) X4 := bk_keep b4_u62 eu63.2 (by omega)
                have b2_u63 : bk u63 (9 * 2) (L * (szZ q)) := bk_keep b2_u62 eu63.2 (by omega)
                have b5_u63 : bk u63 (9 * 5) (X4 * X4) := bk_keep b5_u62 eu63.2 (by omega)
                have b3_u63 : bk u63 (9 * 3) ((L * (szZ q)) * (L * (szZ q))) := bk_keep b3_u62 eu63.2 (by omega)
                have b0_u63 : bk u63 (9 * 0) 5 := bk_keep b0_u62 eu63.2 (by omega)
                have b1_u63 : bk u63 (9 * 1) (((L * (szZ q)) * (L * (szZ q))) * 5) := eu63.1
                have hP : va_P D classes [(o, .inr (5, [.int (iI cd), .int (iI z), .int (iI lv), .ref qT, .ref qC, .ref qF, .ref qY, .ref qZ, .ref qu, .ref qv, .ref qw, .ref qg, .ref qh, .ref qx, .ref qc, .ref qa, .ref qb, .ref qd, .int (iI fm), .ref qp, .ref qq])), (qx, eL t.2.1 54 u63)] H := hP
                have hD : va_D A [(o, .inr (5, [.int (iI cd), .int (iI z), .int (iI lv), .ref qT, .ref qC, .ref qF, .ref qY, .ref qZ, .ref qu, .ref qv, .ref qw, .ref qg, .ref qh, .ref qx, .ref qc, .ref qa, .ref qb, .ref qd, .int (iI fm), .ref qp, .ref qq])), (qx, eL t.2.1 54 u63)] := hD
                refine lv_aload_n hC.1 hC.2.1 d_Mo_squareSign_372 rfl (lv_at hl 7 rfl) ?_
                refine z_iconst hC d_Mo_squareSign_373 ?_
                refine z_iconst hC d_Mo_squareSign_374 ?_
                refine z_roVi (As := [.int (iI 5), .int (iI 1)]) (rest := []) hC (c_Mo_compare l D t ts o qT qC qF qY qZ qu qv qw qg qh qx qc qa qb qd qp qq cd z lv fm u63 5 1 (X4 * X4) (((L * (szZ q)) * (L * (szZ q))) * 5) (by decide) (by decide) b5_u63 b1_u63) (cw_V hC k_595 k_597 kp_36 k_6 k_598 ye_Mo_compare (by decide)) hP hK hE hS [0, 1] rfl 0 (ci := 5) rfl rfl rfl rfl hl.1 rfl (Nat.le_of_ble_eq_true rfl) ⟨Nat.le_of_ble_eq_true rfl, Nat.le_of_ble_eq_true rfl⟩ d_Mo_squareSign_375 ?_
                have h378s := sgn_in (X4 * X4 - (L * szZ q) * (L * szZ q) * 5)
                refine z_if_le (tgt := 385) hC d_Mo_squareSign_378 (by decide) (by have := sgn_in ((X4 * X4) - (((L * (szZ q)) * (L * (szZ q))) * 5)); omega) (fun h378 => ?_) (fun h378 => ?_)
                · refine z_iconst hC d_Mo_squareSign_385 ?_
                  refine lv_iload hC.1 hC.2.1 d_Mo_squareSign_386 (lv_at hl 1 rfl) ?_
                  refine z_if_le (tgt := 395) hC d_Mo_squareSign_388 (by decide) (by decide) (fun _ => ?_) (fun h => absurd h (by decide))
                  refine z_iconst hC d_Mo_squareSign_395 ?_
                  refine z_icmp_ne (tgt := 403) hC d_Mo_squareSign_396 (by decide) (by decide) (by decide) (fun h => absurd h (by decide)) (fun _ => ?_)
                  refine z_iconst hC d_Mo_squareSign_399 ?_
                  refine z_goto (tgt := 404) hC d_Mo_squareSign_400 (by decide) ?_
                  have hP9 := hP.sub (ws' := [(o, .inr (5, [.int (iI cd), .int (iI z), .int (iI lv), .ref qT, .ref qC, .ref qF, .ref qY, .ref qZ, .ref qu, .ref qv, .ref qw, .ref qg, .ref qh, .ref qx, .ref qc, .ref qa, .ref qb, .ref qd, .int (iI fm), .ref qp, .ref qq])), (qx, eL t.2.1 54 u63)]) [0, 1] rfl
                  have hD9 := hD.sub (ws' := [(o, .inr (5, [.int (iI cd), .int (iI z), .int (iI lv), .ref qT, .ref qC, .ref qF, .ref qY, .ref qZ, .ref qu, .ref qv, .ref qw, .ref qg, .ref qh, .ref qx, .ref qc, .ref qa, .ref qb, .ref qd, .int (iI fm), .ref qp, .ref qq])), (qx, eL t.2.1 54 u63)]) [0, 1] (by decide) rfl
                  exact retv (1, u63) _ _ 404 _ _ d_Mo_squareSign_404 ⟨rfl, (by show 1 = _; rw [eV]; unfold rsZ; rw [if_neg (by omega), if_neg (by omega), if_pos (by rw [szX, q4]; (first | rw [sgn_gt] at h378 | rw [sgn_le] at h378); simp; omega)])⟩ hP9 hD9 hS
                · refine z_iconst hC d_Mo_squareSign_381 ?_
                  refine z_goto (tgt := 386) hC d_Mo_squareSign_382 (by decide) ?_
                  refine lv_iload hC.1 hC.2.1 d_Mo_squareSign_386 (lv_at hl 1 rfl) ?_
                  refine z_if_le (tgt := 395) hC d_Mo_squareSign_388 (by decide) (by decide) (fun _ => ?_) (fun h => absurd h (by decide))
                  refine z_iconst hC d_Mo_squareSign_395 ?_
                  refine z_icmp_ne (tgt := 403) hC d_Mo_squareSign_396 (by decide) (by decide) (by decide) (fun _ => ?_) (fun h => absurd h (by decide))
                  refine z_iconst hC d_Mo_squareSign_403 ?_
                  have hP9 := hP.sub (ws' := [(o, .inr (5, [.int (iI cd), .int (iI z), .int (iI lv), .ref qT, .ref qC, .ref qF, .ref qY, .ref qZ, .ref qu, .ref qv, .ref qw, .ref qg, .ref qh, .ref qx, .ref qc, .ref qa, .ref qb, .ref qd, .int (iI fm), .ref qp, .ref qq])), (qx, eL t.2.1 54 u63)]) [0, 1] rfl
                  have hD9 := hD.sub (ws' := [(o, .inr (5, [.int (iI cd), .int (iI z), .int (iI lv), .ref qT, .ref qC, .ref qF, .ref qY, .ref qZ, .ref qu, .ref qv, .ref qw, .ref qg, .ref qh, .ref qx, .ref qc, .ref qa, .ref qb, .ref qd, .int (iI fm), .ref qp, .ref qq])), (qx, eL t.2.1 54 u63)]) [0, 1] (by decide) rfl
                  exact retv (-1, u63) _ _ 404 _ _ d_Mo_squareSign_404 ⟨rfl, (by show -1 = _; rw [eV]; unfold rsZ; rw [if_neg (by omega), if_neg (by omega), if_neg (by rw [szX, q4]; (first | rw [sgn_gt] at h378 | rw [sgn_le] at h378); simp; omega)])⟩ hP9 hD9 hS
            · refine z_iconst hC d_Mo_squareSign_287 ?_
              refine z_goto (tgt := 303) hC d_Mo_squareSign_288 (by decide) ?_
              refine lv_istore (lv' := [(15, .int (iI (-1))), (14, .int (iI (-1))), (13, .int (iI (zB no))), (12, .int (iI 2)), (11, .int (iI (-1))), (10, .int (iI 1)), (8, .long (lI L)), (0, .ref o), (1, .long (lI od)), (3, .int (iI len)), (4, .long (lI p)), (6, .long (lI q))]) hC.1 hC.2.1 d_Mo_squareSign_303 hl (by decide) rfl (fun ls hl => ?_)
              refine lv_iload hC.1 hC.2.1 d_Mo_squareSign_305 (lv_at hl 1 rfl) ?_
              refine z_if_lt (tgt := 331) hC d_Mo_squareSign_307 (by decide) (by decide) (fun _ => ?_) (fun h => absurd h (by decide))
              refine lv_iload hC.1 hC.2.1 d_Mo_squareSign_331 (lv_at hl 1 rfl) ?_
              refine z_if_gt (tgt := 343) hC d_Mo_squareSign_333 (by decide) (by decide) (fun h => absurd h (by decide)) (fun _ => ?_)
              refine lv_iload hC.1 hC.2.1 d_Mo_squareSign_336 (lv_at hl 0 rfl) ?_
              refine z_if_gt (tgt := 343) hC d_Mo_squareSign_338 (by decide) (by decide) (fun h => absurd h (by decide)) (fun _ => ?_)
              refine z_iconst hC d_Mo_squareSign_341 ?_
              have hP9 := hP.sub (ws' := [(o, .inr (5, [.int (iI cd), .int (iI z), .int (iI lv), .ref qT, .ref qC, .ref qF, .ref qY, .ref qZ, .ref qu, .ref qv, .ref qw, .ref qg, .ref qh, .ref qx, .ref qc, .ref qa, .ref qb, .ref qd, .int (iI fm), .ref qp, .ref qq])), (qx, eL t.2.1 54 u59)]) [0, 1] rfl
              have hD9 := hD.sub (ws' := [(o, .inr (5, [.int (iI cd), .int (iI z), .int (iI lv), .ref qT, .ref qC, .ref qF, .ref qY, .ref qZ, .ref qu, .ref qv, .ref qw, .ref qg, .ref qh, .ref qx, .ref qc, .ref qa, .ref qb, .ref qd, .int (iI fm), .ref qp, .ref qq])), (qx, eL t.2.1 54 u59)]) [0, 1] (by decide) rfl
              exact retv (-1, u59) _ _ 342 _ _ d_Mo_squareSign_342 ⟨rfl, (by show -1 = _; rw [eV]; unfold rsZ; rw [if_neg (by omega), if_pos (by omega)])⟩ hP9 hD9 hS
          · have hn9 : X4 = 0 := by rw [h269] at hno; simpa using hno
            refine z_iconst hC d_Mo_squareSign_272 ?_
            refine z_goto (tgt := 278) hC d_Mo_squareSign_273 (by decide) ?_
            refine lv_istore (lv' := [(14, .int (iI 0)), (13, .int (iI (zB no))), (12, .int (iI 2)), (11, .int (iI (-1))), (10, .int (iI 1)), (8, .long (lI L)), (0, .ref o), (1, .long (lI od)), (3, .int (iI len)), (4, .long (lI p)), (6, .long (lI q))]) hC.1 hC.2.1 d_Mo_squareSign_278 hl (by decide) rfl (fun ls hl => ?_)
            refine lv_lload hC.1 hC.2.1 d_Mo_squareSign_280 (lv_at hl 10 rfl) ?_
            refine z_lconst (v := 0) hC d_Mo_squareSign_282 (by decide) ?_
            refine z_lcmp_ge (tgt := 291) hC d_Mo_squareSign_283 d_Mo_squareSign_284 (by decide) (by omega) (by decide) (fun h283 => ?_) (fun h283 => ?_)
            · refine lv_lload hC.1 hC.2.1 d_Mo_squareSign_291 (lv_at hl 10 rfl) ?_
              refine z_lconst (v := 0) hC d_Mo_squareSign_293 (by decide) ?_
              refine z_lcmp_le (tgt := 302) hC d_Mo_squareSign_294 d_Mo_squareSign_295 (by decide) (by omega) (by decide) (fun h294 => ?_) (fun h294 => ?_)
              · refine z_iconst hC d_Mo_squareSign_302 ?_
                refine lv_istore (lv' := [(15, .int (iI 0)), (14, .int (iI 0)), (13, .int (iI (zB no))), (12, .int (iI 2)), (11, .int (iI (-1))), (10, .int (iI 1)), (8, .long (lI L)), (0, .ref o), (1, .long (lI od)), (3, .int (iI len)), (4, .long (lI p)), (6, .long (lI q))]) hC.1 hC.2.1 d_Mo_squareSign_303 hl (by decide) rfl (fun ls hl => ?_)
                refine lv_iload hC.1 hC.2.1 d_Mo_squareSign_305 (lv_at hl 1 rfl) ?_
                refine z_if_lt (tgt := 331) hC d_Mo_squareSign_307 (by decide) (by decide) (fun h => absurd h (by decide)) (fun _ => ?_)
                refine lv_iload hC.1 hC.2.1 d_Mo_squareSign_310 (lv_at hl 0 rfl) ?_
                refine z_if_lt (tgt := 331) hC d_Mo_squareSign_312 (by decide) (by decide) (fun h => absurd h (by decide)) (fun _ => ?_)
                refine lv_iload hC.1 hC.2.1 d_Mo_squareSign_315 (lv_at hl 1 rfl) ?_
                refine z_if_ne (tgt := 329) hC d_Mo_squareSign_317 (by decide) (by decide) (fun h => absurd h (by decide)) (fun _ => ?_)
                refine lv_iload hC.1 hC.2.1 d_Mo_squareSign_320 (lv_at hl 0 rfl) ?_
                refine z_if_ne (tgt := 329) hC d_Mo_squareSign_322 (by decide) (by decide) (fun h => absurd h (by decide)) (fun _ => ?_)
                refine z_iconst hC d_Mo_squareSign_325 ?_
                refine z_goto (tgt := 330) hC d_Mo_squareSign_326 (by decide) ?_
                have hP9 := hP.sub (ws' := [(o, .inr (5, [.int (iI cd), .int (iI z), .int (iI lv), .ref qT, .ref qC, .ref qF, .ref qY, .ref qZ, .ref qu, .ref qv, .ref qw, .ref qg, .ref qh, .ref qx, .ref qc, .ref qa, .ref qb, .ref qd, .int (iI fm), .ref qp, .ref qq])), (qx, eL t.2.1 54 u59)]) [0, 1] rfl
                have hD9 := hD.sub (ws' := [(o, .inr (5, [.int (iI cd), .int (iI z), .int (iI lv), .ref qT, .ref qC, .ref qF, .ref qY, .ref qZ, .ref qu, .ref qv, .ref qw, .ref qg, .ref qh, .ref qx, .ref qc, .ref qa, .ref qb, .ref qd, .int (iI fm), .ref qp, .ref qq])), (qx, eL t.2.1 54 u59)]) [0, 1] (by decide) rfl
                exact retv (0, u59) _ _ 330 _ _ d_Mo_squareSign_330 ⟨rfl, (by show 0 = _; rw [eV]; unfold rsZ; rw [if_pos (by omega), if_pos (by omega)])⟩ hP9 hD9 hS
              · refine z_iconst hC d_Mo_squareSign_298 ?_
                refine z_goto (tgt := 303) hC d_Mo_squareSign_299 (by decide) ?_
                refine lv_istore (lv' := [(15, .int (iI 1)), (14, .int (iI 0)), (13, .int (iI (zB no))), (12, .int (iI 2)), (11, .int (iI (-1))), (10, .int (iI 1)), (8, .long (lI L)), (0, .ref o), (1, .long (lI od)), (3, .int (iI len)), (4, .long (lI p)), (6, .long (lI q))]) hC.1 hC.2.1 d_Mo_squareSign_303 hl (by decide) rfl (fun ls hl => ?_)
                refine lv_iload hC.1 hC.2.1 d_Mo_squareSign_305 (lv_at hl 1 rfl) ?_
                refine z_if_lt (tgt := 331) hC d_Mo_squareSign_307 (by decide) (by decide) (fun h => absurd h (by decide)) (fun _ => ?_)
                refine lv_iload hC.1 hC.2.1 d_Mo_squareSign_310 (lv_at hl 0 rfl) ?_
                refine z_if_lt (tgt := 331) hC d_Mo_squareSign_312 (by decide) (by decide) (fun h => absurd h (by decide)) (fun _ => ?_)
                refine lv_iload hC.1 hC.2.1 d_Mo_squareSign_315 (lv_at hl 1 rfl) ?_
                refine z_if_ne (tgt := 329) hC d_Mo_squareSign_317 (by decide) (by decide) (fun h => absurd h (by decide)) (fun _ => ?_)
                refine lv_iload hC.1 hC.2.1 d_Mo_squareSign_320 (lv_at hl 0 rfl) ?_
                refine z_if_ne (tgt := 329) hC d_Mo_squareSign_322 (by decide) (by decide) (fun _ => ?_) (fun h => absurd h (by decide))
                refine z_iconst hC d_Mo_squareSign_329 ?_
                have hP9 := hP.sub (ws' := [(o, .inr (5, [.int (iI cd), .int (iI z), .int (iI lv), .ref qT, .ref qC, .ref qF, .ref qY, .ref qZ, .ref qu, .ref qv, .ref qw, .ref qg, .ref qh, .ref qx, .ref qc, .ref qa, .ref qb, .ref qd, .int (iI fm), .ref qp, .ref qq])), (qx, eL t.2.1 54 u59)]) [0, 1] rfl
                have hD9 := hD.sub (ws' := [(o, .inr (5, [.int (iI cd), .int (iI z), .int (iI lv), .ref qT, .ref qC, .ref qF, .ref qY, .ref qZ, .ref qu, .ref qv, .ref qw, .ref qg, .ref qh, .ref qx, .ref qc, .ref qa, .ref qb, .ref qd, .int (iI fm), .ref qp, .ref qq])), (qx, eL t.2.1 54 u59)]) [0, 1] (by decide) rfl
                exact retv (1, u59) _ _ 330 _ _ d_Mo_squareSign_330 ⟨rfl, (by show 1 = _; rw [eV]; unfold rsZ; rw [if_pos (by omega), if_neg (by omega)])⟩ hP9 hD9 hS
            · refine z_iconst hC d_Mo_squareSign_287 ?_
              refine z_goto (tgt := 303) hC d_Mo_squareSign_288 (by decide) ?_
              refine lv_istore (lv' := [(15, .int (iI (-1))), (14, .int (iI 0)), (13, .int (iI (zB no))), (12, .int (iI 2)), (11, .int (iI (-1))), (10, .int (iI 1)), (8, .long (lI L)), (0, .ref o), (1, .long (lI od)), (3, .int (iI len)), (4, .long (lI p)), (6, .long (lI q))]) hC.1 hC.2.1 d_Mo_squareSign_303 hl (by decide) rfl (fun ls hl => ?_)
              refine lv_iload hC.1 hC.2.1 d_Mo_squareSign_305 (lv_at hl 1 rfl) ?_
              refine z_if_lt (tgt := 331) hC d_Mo_squareSign_307 (by decide) (by decide) (fun h => absurd h (by decide)) (fun _ => ?_)
              refine lv_iload hC.1 hC.2.1 d_Mo_squareSign_310 (lv_at hl 0 rfl) ?_
              refine z_if_lt (tgt := 331) hC d_Mo_squareSign_312 (by decide) (by decide) (fun _ => ?_) (fun h => absurd h (by decide))
              refine lv_iload hC.1 hC.2.1 d_Mo_squareSign_331 (lv_at hl 1 rfl) ?_
              refine z_if_gt (tgt := 343) hC d_Mo_squareSign_333 (by decide) (by decide) (fun h => absurd h (by decide)) (fun _ => ?_)
              refine lv_iload hC.1 hC.2.1 d_Mo_squareSign_336 (lv_at hl 0 rfl) ?_
              refine z_if_gt (tgt := 343) hC d_Mo_squareSign_338 (by decide) (by decide) (fun h => absurd h (by decide)) (fun _ => ?_)
              refine z_iconst hC d_Mo_squareSign_341 ?_
              have hP9 := hP.sub (ws' := [(o, .inr (5, [.int (iI cd), .int (iI z), .int (iI lv), .ref qT, .ref qC, .ref qF, .ref qY, .ref qZ, .ref qu, .ref qv, .ref qw, .ref qg, .ref qh, .ref qx, .ref qc, .ref qa, .ref qb, .ref qd, .int (iI fm), .ref qp, .ref qq])), (qx, eL t.2.1 54 u59)]) [0, 1] rfl
              have hD9 := hD.sub (ws' := [(o, .inr (5, [.int (iI cd), .int (iI z), .int (iI lv), .ref qT, .ref qC, .ref qF, .ref qY, .ref qZ, .ref qu, .ref qv, .ref qw, .ref qg, .ref qh, .ref qx, .ref qc, .ref qa, .ref qb, .ref qd, .int (iI fm), .ref qp, .ref qq])), (qx, eL t.2.1 54 u59)]) [0, 1] (by decide) rfl
              exact retv (-1, u59) _ _ 342 _ _ d_Mo_squareSign_342 ⟨rfl, (by show -1 = _; rw [eV]; unfold rsZ; rw [if_neg (by omega), if_pos (by omega)])⟩ hP9 hD9 hS
        · refine lv_iload hC.1 hC.2.1 d_Mo_squareSign_234 (lv_at hl 1 rfl) ?_
          refine z_if_eqB (tgt := 258) hC d_Mo_squareSign_236 (by decide) (fun h236 => ?_) (fun h236 => ?_)
          · refine z_iconst hC d_Mo_squareSign_258 ?_
            refine lv_istore (lv' := [(13, .int (iI 0)), (14, .int (iI i)), (12, .int (iI 2)), (11, .int (iI (-1))), (10, .int (iI 1)), (8, .long (lI L)), (0, .ref o), (1, .long (lI od)), (3, .int (iI len)), (4, .long (lI p)), (6, .long (lI q))]) hC.1 hC.2.1 d_Mo_squareSign_259 hl (by decide) rfl (fun ls hl => ?_)
            refine lv_iinc (v := iI (i + 1)) (lv' := [(14, .int (iI (i + 1))), (13, .int (iI 0)), (12, .int (iI 2)), (11, .int (iI (-1))), (10, .int (iI 1)), (8, .long (lI L)), (0, .ref o), (1, .long (lI od)), (3, .int (iI len)), (4, .long (lI p)), (6, .long (lI q))]) hC.1 hC.2.1 d_Mo_squareSign_261 hl (k := 1) rfl (z_inc (by omega)) (by decide) rfl (fun ls hl => ?_)
            refine z_goto (tgt := 227) hC d_Mo_squareSign_264 (by decide) ?_
            exact ih227 false (i + 1) _ _ _ (by omega) (by omega) (by rw [anyZ_s (by omega)]; rw [h236] at eno; have q : anyZ i.toNat (fun m => decide (¬ u59 (m + 36) = 0)) = true := (by revert eno; cases anyZ i.toNat (fun m => decide (¬ u59 (m + 36) = 0)) <;> simp); rw [q]; rfl) (hP.sub (ws' := [(o, .inr (5, [.int (iI cd), .int (iI z), .int (iI lv), .ref qT, .ref qC, .ref qF, .ref qY, .ref qZ, .ref qu, .ref qv, .ref qw, .ref qg, .ref qh, .ref qx, .ref qc, .ref qa, .ref qb, .ref qd, .int (iI fm), .ref qp, .ref qq])), (qx, eL t.2.1 54 u59)]) [0, 1] rfl) (hD.sub (ws' := [(o, .inr (5, [.int (iI cd), .int (iI z), .int (iI lv), .ref qT, .ref qC, .ref qF, .ref qY, .ref qZ, .ref qu, .ref qv, .ref qw, .ref qg, .ref qh, .ref qx, .ref qc, .ref qa, .ref qb, .ref qd, .int (iI fm), .ref qp, .ref qq])), (qx, eL t.2.1 54 u59)]) [0, 1] (by decide) rfl) hS (lv_sub hl [0, 1, 2, 3, 4, 5, 6, 7, 8, 9, 10] rfl)
          · have d4 := b4_u59.1 i (by omega) (by omega)
            rw [show (9 : Int) * 4 + i = i + 36 by omega] at d4
            refine lv_aload_n hC.1 hC.2.1 d_Mo_squareSign_239 rfl (lv_at hl 6 rfl) ?_
            refine z_get (ci := 5) (C := R_Mo) (T := F_Mo) (N := 21) (v := .ref qx) hC in_Mo hK hP 0 rfl rfl 13 (by decide) k_466 rfl d_Mo_squareSign_240 ?_
            refine z_bipush hC d_Mo_squareSign_243 (by decide) ?_
            refine lv_iload hC.1 hC.2.1 d_Mo_squareSign_245 (lv_at hl 0 rfl) ?_
            refine z_iadd hC d_Mo_squareSign_247 ?_
            refine z_topi (z := i + 36) (by omega) ?_
            refine z_lald hC hK hP 1 rfl (by omega) d_Mo_squareSign_248 ?_
            refine z_lconst (v := 0) hC d_Mo_squareSign_249 (by decide) ?_
            refine z_lcmp_ne (tgt := 258) hC d_Mo_squareSign_250 d_Mo_squareSign_251 (by decide) (by omega) (by decide) (fun h250 => ?_) (fun h250 => ?_)
            · refine z_iconst hC d_Mo_squareSign_258 ?_
              refine lv_istore (lv' := [(13, .int (iI 0)), (14, .int (iI i)), (12, .int (iI 2)), (11, .int (iI (-1))), (10, .int (iI 1)), (8, .long (lI L)), (0, .ref o), (1, .long (lI od)), (3, .int (iI len)), (4, .long (lI p)), (6, .long (lI q))]) hC.1 hC.2.1 d_Mo_squareSign_259 hl (by decide) rfl (fun ls hl => ?_)
              refine lv_iinc (v := iI (i + 1)) (lv' := [(14, .int (iI (i + 1))), (13, .int (iI 0)), (12, .int (iI 2)), (11, .int (iI (-1))), (10, .int (iI 1)), (8, .long (lI L)), (0, .ref o), (1, .long (lI od)), (3, .int (iI len)), (4, .long (lI p)), (6, .long (lI q))]) hC.1 hC.2.1 d_Mo_squareSign_261 hl (k := 1) rfl (z_inc (by omega)) (by decide) rfl (fun ls hl => ?_)
              refine z_goto (tgt := 227) hC d_Mo_squareSign_264 (by decide) ?_
              exact ih227 false (i + 1) _ _ _ (by omega) (by omega) (any_st1 (by omega) eno h236 false (by simp; omega)) (hP.sub (ws' := [(o, .inr (5, [.int (iI cd), .int (iI z), .int (iI lv), .ref qT, .ref qC, .ref qF, .ref qY, .ref qZ, .ref qu, .ref qv, .ref qw, .ref qg, .ref qh, .ref qx, .ref qc, .ref qa, .ref qb, .ref qd, .int (iI fm), .ref qp, .ref qq])), (qx, eL t.2.1 54 u59)]) [0, 1] rfl) (hD.sub (ws' := [(o, .inr (5, [.int (iI cd), .int (iI z), .int (iI lv), .ref qT, .ref qC, .ref qF, .ref qY, .ref qZ, .ref qu, .ref qv, .ref qw, .ref qg, .ref qh, .ref qx, .ref qc, .ref qa, .ref qb, .ref qd, .int (iI fm), .ref qp, .ref qq])), (qx, eL t.2.1 54 u59)]) [0, 1] (by decide) rfl) hS (lv_sub hl [0, 1, 2, 3, 4, 5, 6, 7, 8, 9, 10] rfl)
            · refine z_iconst hC d_Mo_squareSign_254 ?_
              refine z_goto (tgt := 259) hC d_Mo_squareSign_255 (by decide) ?_
              refine lv_istore (lv' := [(13, .int (iI 1)), (14, .int (iI i)), (12, .int (iI 2)), (11, .int (iI (-1))), (10, .int (iI 1)), (8, .long (lI L)), (0, .ref o), (1, .long (lI od)), (3, .int (iI len)), (4, .long (lI p)), (6, .long (lI q))]) hC.1 hC.2.1 d_Mo_squareSign_259 hl (by decide) rfl (fun ls hl => ?_)
              refine lv_iinc (v := iI (i + 1)) (lv' := [(14, .int (iI (i + 1))), (13, .int (iI 1)), (12, .int (iI 2)), (11, .int (iI (-1))), (10, .int (iI 1)), (8, .long (lI L)), (0, .ref o), (1, .long (lI od)), (3, .int (iI len)), (4, .long (lI p)), (6, .long (lI q))]) hC.1 hC.2.1 d_Mo_squareSign_261 hl (k := 1) rfl (z_inc (by omega)) (by decide) rfl (fun ls hl => ?_)
              refine z_goto (tgt := 227) hC d_Mo_squareSign_264 (by decide) ?_
              exact ih227 true (i + 1) _ _ _ (by omega) (by omega) (any_st1 (by omega) eno h236 true (by simp; omega)) (hP.sub (ws' := [(o, .inr (5, [.int (iI cd), .int (iI z), .int (iI lv), .ref qT, .ref qC, .ref qF, .ref qY, .ref qZ, .ref qu, .ref qv, .ref qw, .ref qg, .ref qh, .ref qx, .ref qc, .ref qa, .ref qb, .ref qd, .int (iI fm), .ref qp, .ref qq])), (qx, eL t.2.1 54 u59)]) [0, 1] rfl) (hD.sub (ws' := [(o, .inr (5, [.int (iI cd), .int (iI z), .int (iI lv), .ref qT, .ref qC, .ref qF, .ref qY, .ref qZ, .ref qu, .ref qv, .ref qw, .ref qg, .ref qh, .ref qx, .ref qc, .ref qa, .ref qb, .ref qd, .int (iI fm), .ref qp, .ref qq])), (qx, eL t.2.1 54 u59)]) [0, 1] (by decide) rfl) hS (lv_sub hl [0, 1, 2, 3, 4, 5, 6, 7, 8, 9, 10] rfl)
    exact L227 (9 - 0 + 1 : Int).toNat true 0 _ _ _ (by omega) (by omega) (by rfl) hP hD hS (lv_sub hl [0, 1, 2, 3, 4, 5, 6, 7, 8, 9, 10] rfl)
theorem ye_Mo_isBelow : ye y_Mo_isBelow R_Mo 4 := by unfold ye; decide +kernel
abbrev rm_Mo_isBelow : Room := { frames := 3, cells := 0, slots := 0, locals := 77 }
set_option maxHeartbeats 4000000 in
set_option maxRecDepth 100000 in
theorem c_Mo_isBelow (l : Launch) (D : va_G) (t : vt) (ts : Nat → Nat) (o qT qC qF qY qZ qu qv qw qg qh qx qc qa qb qd qp qq : Nat) (cd z lv fm : Int) (Wd : Int → Int) (od len m n : Int) (hod : -300000000000000 ≤ od ∧ od ≤ 300000000000000) (hlen : 1 ≤ len ∧ len ≤ 10000000) (hm : -2000000 ≤ m ∧ m ≤ 2000000) (hn : -1000000 ≤ n ∧ n ≤ 1000000) (sz : Nat) : Met l y_Mo_isBelow (.code y_Mo_isBelow b_Mo_isBelow 14 (some .boolean) :: tb_ws) rm_Mo_isBelow (MP D t ts [.ref o, .long (lI od), .int (iI len), .long (lI m), .long (lI n)] [(o, .inr (5, [.int (iI cd), .int (iI z), .int (iI lv), .ref qT, .ref qC, .ref qF, .ref qY, .ref qZ, .ref qu, .ref qv, .ref qw, .ref qg, .ref qh, .ref qx, .ref qc, .ref qa, .ref qb, .ref qd, .int (iI fm), .ref qp, .ref qq])), (qx, eL t.2.1 54 Wd)] sz) (va_Qi (fun zr u => zr = iI (zB ((fun u : Bool × (Int → Int) => u.1) u)) ∧ ((fun u : Bool × (Int → Int) => u.1 = ibZ od len m n)) u) (MB D (va_A [(o, .inr (5, [.int (iI cd), .int (iI z), .int (iI lv), .ref qT, .ref qC, .ref qF, .ref qY, .ref qZ, .ref qu, .ref qv, .ref qw, .ref qg, .ref qh, .ref qx, .ref qc, .ref qa, .ref qb, .ref qd, .int (iI fm), .ref qp, .ref qq])), (qx, eL t.2.1 54 Wd)] sz) (fun u : Bool × (Int → Int) => [(o, .inr (5, [.int (iI cd), .int (iI z), .int (iI lv), .ref qT, .ref qC, .ref qF, .ref qY, .ref qZ, .ref qu, .ref qv, .ref qw, .ref qg, .ref qh, .ref qx, .ref qc, .ref qa, .ref qb, .ref qd, .int (iI fm), .ref qp, .ref qq])), (qx, eL t.2.1 54 u.2)])) (va_A [(o, .inr (5, [.int (iI cd), .int (iI z), .int (iI lv), .ref qT, .ref qC, .ref qF, .ref qY, .ref qZ, .ref qu, .ref qv, .ref qw, .ref qg, .ref qh, .ref qx, .ref qc, .ref qa, .ref qb, .ref qd, .int (iI fm), .ref qp, .ref qq])), (qx, eL t.2.1 54 Wd)] sz)) 0 0 (va_A [(o, .inr (5, [.int (iI cd), .int (iI z), .int (iI lv), .ref qT, .ref qC, .ref qF, .ref qY, .ref qZ, .ref qu, .ref qv, .ref qw, .ref qg, .ref qh, .ref qx, .ref qc, .ref qa, .ref qb, .ref qd, .int (iI fm), .ref qp, .ref qq])), (qx, eL t.2.1 54 Wd)] sz) := by
  refine m_z (by decide +kernel) (Nat.le_of_ble_eq_true rfl) ?_
  intro zp ze zs zm zb zt zc zQ A ls hC hA hP hK hD hE hS hl ret
  have hl : lv_has ls 14 [(0, .ref o), (1, .long (lI od)), (3, .int (iI len)), (4, .long (lI m)), (6, .long (lI n))] := hl
  have ret1 : ∀ (u : Bool × (Int → Int)) (H : Heap) (locs : List Loc) (pc : Nat) (ls : Array Slot), decode b_Mo_isBelow pc = .ok (.ireturn, 1) → (u.1 = true ∧ (u.1 = ibZ od len m n)) → va_P D classes ([(o, .inr (5, [.int (iI cd), .int (iI z), .int (iI lv), .ref qT, .ref qC, .ref qF, .ref qY, .ref qZ, .ref qu, .ref qv, .ref qw, .ref qg, .ref qh, .ref qx, .ref qc, .ref qa, .ref qb, .ref qd, .int (iI fm), .ref qp, .ref qq])), (qx, eL t.2.1 54 u.2)]) H → va_D A ([(o, .inr (5, [.int (iI cd), .int (iI z), .int (iI lv), .ref qT, .ref qC, .ref qF, .ref qY, .ref qZ, .ref qu, .ref qv, .ref qw, .ref qg, .ref qh, .ref qx, .ref qc, .ref qa, .ref qb, .ref qd, .int (iI fm), .ref qp, .ref qq])), (qx, eL t.2.1 54 u.2)]) → va_S A zs.heap H locs → W zp l ze rm_Mo_isBelow zs zm [.ref o, .long (lI od), .int (iI len), .long (lI m), .long (lI n)].toArray zb zt zc H locs 0 0 zQ (F0 zm pc ls [.int (iI 1)]) := fun u H locs pc ls d h hP hD hS => by have r := ret u H locs pc ls d h.2 hP hD hS; have hv := h.1; simp only [hv] at r; exact r
  have ret0 : ∀ (u : Bool × (Int → Int)) (H : Heap) (locs : List Loc) (pc : Nat) (ls : Array Slot), decode b_Mo_isBelow pc = .ok (.ireturn, 1) → (u.1 = false ∧ (u.1 = ibZ od len m n)) → va_P D classes ([(o, .inr (5, [.int (iI cd), .int (iI z), .int (iI lv), .ref qT, .ref qC, .ref qF, .ref qY, .ref qZ, .ref qu, .ref qv, .ref qw, .ref qg, .ref qh, .ref qx, .ref qc, .ref qa, .ref qb, .ref qd, .int (iI fm), .ref qp, .ref qq])), (qx, eL t.2.1 54 u.2)]) H → va_D A ([(o, .inr (5, [.int (iI cd), .int (iI z), .int (iI lv), .ref qT, .ref qC, .ref qF, .ref qY, .ref qZ, .ref qu, .ref qv, .ref qw, .ref qg, .ref qh, .ref qx, .ref qc, .ref qa, .ref qb, .ref qd, .int (iI fm), .ref qp, .ref qq])), (qx, eL t.2.1 54 u.2)]) → va_S A zs.heap H locs → W zp l ze rm_Mo_isBelow zs zm [.ref o, .long (lI od), .int (iI len), .long (lI m), .long (lI n)].toArray zb zt zc H locs 0 0 zQ (F0 zm pc ls [.int (iI 0)]) := fun u H locs pc ls d h hP hD hS => by have r := ret u H locs pc ls d h.2 hP hD hS; have hv := h.1; simp only [hv] at r; exact r
  refine lv_aload_n hC.1 hC.2.1 d_Mo_isBelow_0 rfl (lv_at hl 0 rfl) ?_
  refine lv_lload hC.1 hC.2.1 d_Mo_isBelow_1 (lv_at hl 3 rfl) ?_
  refine lv_lload hC.1 hC.2.1 d_Mo_isBelow_3 (lv_at hl 4 rfl) ?_
  refine z_mVi (As := [.long (lI m), .long (lI n)]) (rest := []) (wr := []) hC (c_Mo_sign l D t ts o qT qC qF qY qZ qu qv qw qg qh qx qc qa qb qd qp qq cd z lv fm Wd m n (by omega) (by omega) _) (cw_V hC k_577 k_579 kp_32 k_6 k_580 ye_Mo_sign (by decide)) hP hD hK hE hS hA [0, 1] [] (by decide) rfl rfl (by decide) (by decide) 0 (ci := 5) rfl rfl rfl rfl hl.1 rfl (Nat.le_of_ble_eq_true rfl) ⟨Nat.le_of_ble_eq_true rfl, Nat.le_of_ble_eq_true rfl⟩ d_Mo_isBelow_5 (fun u1 H locs eu1 hP hD hS => ?_)
  obtain ⟨u1r, u1X⟩ := u1
  dsimp only at eu1 hP hD ⊢
  have hP : va_P D classes [(o, .inr (5, [.int (iI cd), .int (iI z), .int (iI lv), .ref qT, .ref qC, .ref qF, .ref qY, .ref qZ, .ref qu, .ref qv, .ref qw, .ref qg, .ref qh, .ref qx, .ref qc, .ref qa, .ref qb, .ref qd, .int (iI fm), .ref qp, .ref qq])), (qx, eL t.2.1 54 u1X)] H := hP
  have hD : va_D A [(o, .inr (5, [.int (iI cd), .int (iI z), .int (iI lv), .ref qT, .ref qC, .ref qF, .ref qY, .ref qZ, .ref qu, .ref qv, .ref qw, .ref qg, .ref qh, .ref qx, .ref qc, .ref qa, .ref qb, .ref qd, .int (iI fm), .ref qp, .ref qq])), (qx, eL t.2.1 54 u1X)] := hD
  have ru1 : -1 ≤ u1r ∧ u1r ≤ 1 := by rw [eu1]; exact sgZ_in _ _
  refine lv_istore (lv' := [(8, .int (iI u1r)), (0, .ref o), (1, .long (lI od)), (3, .int (iI len)), (4, .long (lI m)), (6, .long (lI n))]) hC.1 hC.2.1 d_Mo_isBelow_8 hl (by decide) rfl (fun ls hl => ?_)
  refine lv_iload hC.1 hC.2.1 d_Mo_isBelow_10 (lv_at hl 0 rfl) ?_
  refine z_if_ne (tgt := 27) hC d_Mo_isBelow_12 (by decide) (by omega) (fun h12 => ?_) (fun h12 => ?_)
  · refine lv_lload_n hC.1 hC.2.1 d_Mo_isBelow_27 rfl (lv_at hl 2 rfl) ?_
    refine z_lconst (v := 0) hC d_Mo_isBelow_28 (by decide) ?_
    refine z_lcmp_le (tgt := 37) hC d_Mo_isBelow_29 d_Mo_isBelow_30 (by decide) (by omega) (by decide) (fun h29 => ?_) (fun h29 => ?_)
    · refine z_iconst hC d_Mo_isBelow_37 ?_
      refine lv_iload hC.1 hC.2.1 d_Mo_isBelow_38 (lv_at hl 0 rfl) ?_
      refine z_if_le (tgt := 47) hC d_Mo_isBelow_40 (by decide) (by omega) (fun h40 => ?_) (fun h40 => ?_)
      · refine z_iconst hC d_Mo_isBelow_47 ?_
        refine z_icmp_eq (tgt := 63) hC d_Mo_isBelow_48 (by decide) (by decide) (by decide) (fun _ => ?_) (fun h => absurd h (by decide))
        have mm := mul_bd (a := m) (b := m) (A := 2000000) (B := 2000000) (by omega) (by omega)
        have nn := mul_bd (a := n) (b := n) (A := 1000000) (B := 1000000) (by omega) (by omega)
        have mn := mul_bd (a := 2 * m) (b := n) (A := 4000000) (B := 1000000) (by omega) (by omega)
        refine lv_lload hC.1 hC.2.1 d_Mo_isBelow_63 (lv_at hl 4 rfl) ?_
        refine lv_lload hC.1 hC.2.1 d_Mo_isBelow_65 (lv_at hl 4 rfl) ?_
        refine z_lmul hC d_Mo_isBelow_67 ?_
        refine lv_lload hC.1 hC.2.1 d_Mo_isBelow_68 (lv_at hl 5 rfl) ?_
        refine lv_lload hC.1 hC.2.1 d_Mo_isBelow_70 (lv_at hl 5 rfl) ?_
        refine z_lmul hC d_Mo_isBelow_72 ?_
        refine z_ladd hC d_Mo_isBelow_73 ?_
        refine z_topl (z := (m * m) + (n * n)) (by omega) ?_
        refine lv_lstore (lv' := [(9, .long (lI ((m * m) + (n * n)))), (8, .int (iI u1r)), (0, .ref o), (1, .long (lI od)), (3, .int (iI len)), (4, .long (lI m)), (6, .long (lI n))]) hC.1 hC.2.1 d_Mo_isBelow_74 hl (by decide) rfl (fun ls hl => ?_)
        refine z_ldc2 hC k_575 d_Mo_isBelow_76 ?_
        refine lv_lload hC.1 hC.2.1 d_Mo_isBelow_79 (lv_at hl 5 rfl) ?_
        refine z_lmul hC d_Mo_isBelow_81 ?_
        refine lv_lload hC.1 hC.2.1 d_Mo_isBelow_82 (lv_at hl 6 rfl) ?_
        refine z_lmul hC d_Mo_isBelow_84 ?_
        refine lv_lload hC.1 hC.2.1 d_Mo_isBelow_85 (lv_at hl 6 rfl) ?_
        refine lv_lload hC.1 hC.2.1 d_Mo_isBelow_87 (lv_at hl 6 rfl) ?_
        refine z_lmul hC d_Mo_isBelow_89 ?_
        refine z_ladd hC d_Mo_isBelow_90 ?_
        refine z_topl (z := ((2 * m) * n) + (n * n)) (by omega) ?_
        refine lv_lstore (lv' := [(11, .long (lI (((2 * m) * n) + (n * n)))), (9, .long (lI ((m * m) + (n * n)))), (8, .int (iI u1r)), (0, .ref o), (1, .long (lI od)), (3, .int (iI len)), (4, .long (lI m)), (6, .long (lI n))]) hC.1 hC.2.1 d_Mo_isBelow_91 hl (by decide) rfl (fun ls hl => ?_)
        refine lv_aload_n hC.1 hC.2.1 d_Mo_isBelow_93 rfl (lv_at hl 3 rfl) ?_
        refine lv_lload_n hC.1 hC.2.1 d_Mo_isBelow_94 rfl (lv_at hl 4 rfl) ?_
        refine lv_iload_n hC.1 hC.2.1 d_Mo_isBelow_95 rfl (lv_at hl 5 rfl) ?_
        refine z_ldc2 hC k_750 d_Mo_isBelow_96 ?_
        refine lv_lload hC.1 hC.2.1 d_Mo_isBelow_99 (lv_at hl 1 rfl) ?_
        refine z_lmul hC d_Mo_isBelow_101 ?_
        refine z_topl (z := 3 * (m * m) + 3 * (n * n)) (by omega) ?_
        refine lv_lload hC.1 hC.2.1 d_Mo_isBelow_102 (lv_at hl 0 rfl) ?_
        refine z_lsub hC d_Mo_isBelow_104 ?_
        refine z_topl (z := -((2 * m) * n) + 3 * (m * m) + 2 * (n * n)) (by omega) ?_
        refine z_ldc2 hC k_575 d_Mo_isBelow_105 ?_
        refine lv_lload hC.1 hC.2.1 d_Mo_isBelow_108 (lv_at hl 0 rfl) ?_
        refine z_lmul hC d_Mo_isBelow_110 ?_
        refine z_topl (z := 2 * ((2 * m) * n) + 2 * (n * n)) (by omega) ?_
        refine lv_lload hC.1 hC.2.1 d_Mo_isBelow_111 (lv_at hl 1 rfl) ?_
        refine z_lsub hC d_Mo_isBelow_113 ?_
        refine z_topl (z := 2 * ((2 * m) * n) - (m * m) + (n * n)) (by omega) ?_
        refine z_mVi (As := [.long (lI od), .int (iI len), .long (lI (-((2 * m) * n) + 3 * (m * m) + 2 * (n * n))), .long (lI (2 * ((2 * m) * n) - (m * m) + (n * n)))]) (rest := []) (wr := []) hC (c_Mo_squareSign l D t ts o qT qC qF qY qZ qu qv qw qg qh qx qc qa qb qd qp qq cd z lv fm u1X od len (-((2 * m) * n) + 3 * (m * m) + 2 * (n * n)) (2 * ((2 * m) * n) - (m * m) + (n * n)) (by omega) (by omega) (by omega) (by omega) _) (cw_V hC k_751 k_753 kp_64 k_6 k_754 ye_Mo_squareSign (by decide)) hP hD hK hE hS hA [0, 1] [] (by decide) rfl rfl (by decide) (by decide) 0 (ci := 5) rfl rfl rfl rfl hl.1 rfl (Nat.le_of_ble_eq_true rfl) ⟨Nat.le_of_ble_eq_true rfl, Nat.le_of_ble_eq_true rfl⟩ d_Mo_isBelow_114 (fun u2 H locs eu2 hP hD hS => ?_)
        obtain ⟨u2r, u2X⟩ := u2
        dsimp only at eu2 hP hD ⊢
        have hP : va_P D classes [(o, .inr (5, [.int (iI cd), .int (iI z), .int (iI lv), .ref qT, .ref qC, .ref qF, .ref qY, .ref qZ, .ref qu, .ref qv, .ref qw, .ref qg, .ref qh, .ref qx, .ref qc, .ref qa, .ref qb, .ref qd, .int (iI fm), .ref qp, .ref qq])), (qx, eL t.2.1 54 u2X)] H := hP
        have hD : va_D A [(o, .inr (5, [.int (iI cd), .int (iI z), .int (iI lv), .ref qT, .ref qC, .ref qF, .ref qY, .ref qZ, .ref qu, .ref qv, .ref qw, .ref qg, .ref qh, .ref qx, .ref qc, .ref qa, .ref qb, .ref qd, .int (iI fm), .ref qp, .ref qq])), (qx, eL t.2.1 54 u2X)] := hD
        have ru2 : -1 ≤ u2r ∧ u2r ≤ 1 := by rw [eu2]; exact rsZ_in _ _
        refine lv_istore (lv' := [(13, .int (iI u2r)), (11, .long (lI (((2 * m) * n) + (n * n)))), (9, .long (lI ((m * m) + (n * n)))), (8, .int (iI u1r)), (0, .ref o), (1, .long (lI od)), (3, .int (iI len)), (4, .long (lI m)), (6, .long (lI n))]) hC.1 hC.2.1 d_Mo_isBelow_117 hl (by decide) rfl (fun ls hl => ?_)
        refine lv_iload hC.1 hC.2.1 d_Mo_isBelow_119 (lv_at hl 3 rfl) ?_
        refine z_if_le (tgt := 137) hC d_Mo_isBelow_121 (by decide) (by omega) (fun h121 => ?_) (fun h121 => ?_)
        · refine lv_iload hC.1 hC.2.1 d_Mo_isBelow_137 (lv_at hl 0 rfl) ?_
          refine z_if_gt (tgt := 146) hC d_Mo_isBelow_139 (by decide) (by omega) (fun h139 => ?_) (fun h139 => ?_)
          · refine z_iconst hC d_Mo_isBelow_146 ?_
            have hP9 := hP.sub (ws' := [(o, .inr (5, [.int (iI cd), .int (iI z), .int (iI lv), .ref qT, .ref qC, .ref qF, .ref qY, .ref qZ, .ref qu, .ref qv, .ref qw, .ref qg, .ref qh, .ref qx, .ref qc, .ref qa, .ref qb, .ref qd, .int (iI fm), .ref qp, .ref qq])), (qx, eL t.2.1 54 u2X)]) [0, 1] rfl
            have hD9 := hD.sub (ws' := [(o, .inr (5, [.int (iI cd), .int (iI z), .int (iI lv), .ref qT, .ref qC, .ref qF, .ref qY, .ref qZ, .ref qu, .ref qv, .ref qw, .ref qg, .ref qh, .ref qx, .ref qc, .ref qa, .ref qb, .ref qd, .int (iI fm), .ref qp, .ref qq])), (qx, eL t.2.1 54 u2X)]) [0, 1] (by decide) rfl
            exact ret0 (false, u2X) _ _ 147 _ d_Mo_isBelow_147 (by refine ⟨rfl, ?_⟩; show false = _; symm; unfold ibZ; rw [← eu1]; rw [if_neg (by omega), if_pos (by simp; omega), if_neg (by omega)]; have q : u2r = ssZ od len (3 * (m * m) + 3 * (n * n) - (2 * m * n + n * n)) (2 * (2 * m * n) + 2 * (n * n) - (m * m + n * n)) := (Eq.trans eu2 (by congr 1 <;> omega)); rw [← q]; simp; omega) hP9 hD9 hS
          · refine z_iconst hC d_Mo_isBelow_142 ?_
            refine z_goto (tgt := 147) hC d_Mo_isBelow_143 (by decide) ?_
            have hP9 := hP.sub (ws' := [(o, .inr (5, [.int (iI cd), .int (iI z), .int (iI lv), .ref qT, .ref qC, .ref qF, .ref qY, .ref qZ, .ref qu, .ref qv, .ref qw, .ref qg, .ref qh, .ref qx, .ref qc, .ref qa, .ref qb, .ref qd, .int (iI fm), .ref qp, .ref qq])), (qx, eL t.2.1 54 u2X)]) [0, 1] rfl
            have hD9 := hD.sub (ws' := [(o, .inr (5, [.int (iI cd), .int (iI z), .int (iI lv), .ref qT, .ref qC, .ref qF, .ref qY, .ref qZ, .ref qu, .ref qv, .ref qw, .ref qg, .ref qh, .ref qx, .ref qc, .ref qa, .ref qb, .ref qd, .int (iI fm), .ref qp, .ref qq])), (qx, eL t.2.1 54 u2X)]) [0, 1] (by decide) rfl
            exact ret1 (true, u2X) _ _ 147 _ d_Mo_isBelow_147 (by refine ⟨rfl, ?_⟩; show true = _; symm; unfold ibZ; rw [← eu1]; rw [if_neg (by omega), if_pos (by simp; omega), if_neg (by omega)]; have q : u2r = ssZ od len (3 * (m * m) + 3 * (n * n) - (2 * m * n + n * n)) (2 * (2 * m * n) + 2 * (n * n) - (m * m + n * n)) := (Eq.trans eu2 (by congr 1 <;> omega)); rw [← q]; simp; omega) hP9 hD9 hS
        · refine lv_iload hC.1 hC.2.1 d_Mo_isBelow_124 (lv_at hl 0 rfl) ?_
          refine z_if_lt (tgt := 133) hC d_Mo_isBelow_126 (by decide) (by omega) (fun h126 => ?_) (fun h126 => ?_)
          · refine z_iconst hC d_Mo_isBelow_133 ?_
            refine z_goto (tgt := 147) hC d_Mo_isBelow_134 (by decide) ?_
            have hP9 := hP.sub (ws' := [(o, .inr (5, [.int (iI cd), .int (iI z), .int (iI lv), .ref qT, .ref qC, .ref qF, .ref qY, .ref qZ, .ref qu, .ref qv, .ref qw, .ref qg, .ref qh, .ref qx, .ref qc, .ref qa, .ref qb, .ref qd, .int (iI fm), .ref qp, .ref qq])), (qx, eL t.2.1 54 u2X)]) [0, 1] rfl
            have hD9 := hD.sub (ws' := [(o, .inr (5, [.int (iI cd), .int (iI z), .int (iI lv), .ref qT, .ref qC, .ref qF, .ref qY, .ref qZ, .ref qu, .ref qv, .ref qw, .ref qg, .ref qh, .ref qx, .ref qc, .ref qa, .ref qb, .ref qd, .int (iI fm), .ref qp, .ref qq])), (qx, eL t.2.1 54 u2X)]) [0, 1] (by decide) rfl
            exact ret0 (false, u2X) _ _ 147 _ d_Mo_isBelow_147 (by refine ⟨rfl, ?_⟩; show false = _; symm; unfold ibZ; rw [← eu1]; rw [if_neg (by omega), if_pos (by simp; omega), if_pos (by omega)]; have q : u2r = ssZ od len (3 * (m * m) + 3 * (n * n) - (2 * m * n + n * n)) (2 * (2 * m * n) + 2 * (n * n) - (m * m + n * n)) := (Eq.trans eu2 (by congr 1 <;> omega)); rw [← q]; simp; omega) hP9 hD9 hS
          · refine z_iconst hC d_Mo_isBelow_129 ?_
            refine z_goto (tgt := 147) hC d_Mo_isBelow_130 (by decide) ?_
            have hP9 := hP.sub (ws' := [(o, .inr (5, [.int (iI cd), .int (iI z), .int (iI lv), .ref qT, .ref qC, .ref qF, .ref qY, .ref qZ, .ref qu, .ref qv, .ref qw, .ref qg, .ref qh, .ref qx, .ref qc, .ref qa, .ref qb, .ref qd, .int (iI fm), .ref qp, .ref qq])), (qx, eL t.2.1 54 u2X)]) [0, 1] rfl
            have hD9 := hD.sub (ws' := [(o, .inr (5, [.int (iI cd), .int (iI z), .int (iI lv), .ref qT, .ref qC, .ref qF, .ref qY, .ref qZ, .ref qu, .ref qv, .ref qw, .ref qg, .ref qh, .ref qx, .ref qc, .ref qa, .ref qb, .ref qd, .int (iI fm), .ref qp, .ref qq])), (qx, eL t.2.1 54 u2X)]) [0, 1] (by decide) rfl
            exact ret1 (true, u2X) _ _ 147 _ d_Mo_isBelow_147 (by refine ⟨rfl, ?_⟩; show true = _; symm; unfold ibZ; rw [← eu1]; rw [if_neg (by omega), if_pos (by simp; omega), if_pos (by omega)]; have q : u2r = ssZ od len (3 * (m * m) + 3 * (n * n) - (2 * m * n + n * n)) (2 * (2 * m * n) + 2 * (n * n) - (m * m + n * n)) := (Eq.trans eu2 (by congr 1 <;> omega)); rw [← q]; simp; omega) hP9 hD9 hS
      · refine z_iconst hC d_Mo_isBelow_43 ?_
        refine z_goto (tgt := 48) hC d_Mo_isBelow_44 (by decide) ?_
        refine z_icmp_eq (tgt := 63) hC d_Mo_isBelow_48 (by decide) (by decide) (by decide) (fun h => absurd h (by decide)) (fun _ => ?_)
        refine lv_lload_n hC.1 hC.2.1 d_Mo_isBelow_51 rfl (lv_at hl 2 rfl) ?_
        refine z_lconst (v := 0) hC d_Mo_isBelow_52 (by decide) ?_
        refine z_lcmp_ge (tgt := 61) hC d_Mo_isBelow_53 d_Mo_isBelow_54 (by decide) (by omega) (by decide) (fun h53 => ?_) (fun h53 => ?_)
        · refine z_iconst hC d_Mo_isBelow_61 ?_
          have hP9 := hP.sub (ws' := [(o, .inr (5, [.int (iI cd), .int (iI z), .int (iI lv), .ref qT, .ref qC, .ref qF, .ref qY, .ref qZ, .ref qu, .ref qv, .ref qw, .ref qg, .ref qh, .ref qx, .ref qc, .ref qa, .ref qb, .ref qd, .int (iI fm), .ref qp, .ref qq])), (qx, eL t.2.1 54 u1X)]) [0, 1] rfl
          have hD9 := hD.sub (ws' := [(o, .inr (5, [.int (iI cd), .int (iI z), .int (iI lv), .ref qT, .ref qC, .ref qF, .ref qY, .ref qZ, .ref qu, .ref qv, .ref qw, .ref qg, .ref qh, .ref qx, .ref qc, .ref qa, .ref qb, .ref qd, .int (iI fm), .ref qp, .ref qq])), (qx, eL t.2.1 54 u1X)]) [0, 1] (by decide) rfl
          exact ret0 (false, u1X) _ _ 62 _ d_Mo_isBelow_62 (by refine ⟨rfl, ?_⟩; show false = _; symm; unfold ibZ; rw [← eu1]; rw [if_neg (by omega), if_neg (by simp; omega)]; simp; omega) hP9 hD9 hS
        · refine z_iconst hC d_Mo_isBelow_57 ?_
          refine z_goto (tgt := 62) hC d_Mo_isBelow_58 (by decide) ?_
          have hP9 := hP.sub (ws' := [(o, .inr (5, [.int (iI cd), .int (iI z), .int (iI lv), .ref qT, .ref qC, .ref qF, .ref qY, .ref qZ, .ref qu, .ref qv, .ref qw, .ref qg, .ref qh, .ref qx, .ref qc, .ref qa, .ref qb, .ref qd, .int (iI fm), .ref qp, .ref qq])), (qx, eL t.2.1 54 u1X)]) [0, 1] rfl
          have hD9 := hD.sub (ws' := [(o, .inr (5, [.int (iI cd), .int (iI z), .int (iI lv), .ref qT, .ref qC, .ref qF, .ref qY, .ref qZ, .ref qu, .ref qv, .ref qw, .ref qg, .ref qh, .ref qx, .ref qc, .ref qa, .ref qb, .ref qd, .int (iI fm), .ref qp, .ref qq])), (qx, eL t.2.1 54 u1X)]) [0, 1] (by decide) rfl
          exact ret1 (true, u1X) _ _ 62 _ d_Mo_isBelow_62 (by refine ⟨rfl, ?_⟩; show true = _; symm; unfold ibZ; rw [← eu1]; rw [if_neg (by omega), if_neg (by simp; omega)]; simp; omega) hP9 hD9 hS
    · refine z_iconst hC d_Mo_isBelow_33 ?_
      refine z_goto (tgt := 38) hC d_Mo_isBelow_34 (by decide) ?_
      refine lv_iload hC.1 hC.2.1 d_Mo_isBelow_38 (lv_at hl 0 rfl) ?_
      refine z_if_le (tgt := 47) hC d_Mo_isBelow_40 (by decide) (by omega) (fun h40 => ?_) (fun h40 => ?_)
      · refine z_iconst hC d_Mo_isBelow_47 ?_
        refine z_icmp_eq (tgt := 63) hC d_Mo_isBelow_48 (by decide) (by decide) (by decide) (fun h => absurd h (by decide)) (fun _ => ?_)
        refine lv_lload_n hC.1 hC.2.1 d_Mo_isBelow_51 rfl (lv_at hl 2 rfl) ?_
        refine z_lconst (v := 0) hC d_Mo_isBelow_52 (by decide) ?_
        refine z_lcmp_ge (tgt := 61) hC d_Mo_isBelow_53 d_Mo_isBelow_54 (by decide) (by omega) (by decide) (fun h53 => ?_) (fun h53 => ?_)
        · refine z_iconst hC d_Mo_isBelow_61 ?_
          have hP9 := hP.sub (ws' := [(o, .inr (5, [.int (iI cd), .int (iI z), .int (iI lv), .ref qT, .ref qC, .ref qF, .ref qY, .ref qZ, .ref qu, .ref qv, .ref qw, .ref qg, .ref qh, .ref qx, .ref qc, .ref qa, .ref qb, .ref qd, .int (iI fm), .ref qp, .ref qq])), (qx, eL t.2.1 54 u1X)]) [0, 1] rfl
          have hD9 := hD.sub (ws' := [(o, .inr (5, [.int (iI cd), .int (iI z), .int (iI lv), .ref qT, .ref qC, .ref qF, .ref qY, .ref qZ, .ref qu, .ref qv, .ref qw, .ref qg, .ref qh, .ref qx, .ref qc, .ref qa, .ref qb, .ref qd, .int (iI fm), .ref qp, .ref qq])), (qx, eL t.2.1 54 u1X)]) [0, 1] (by decide) rfl
          exact ret0 (false, u1X) _ _ 62 _ d_Mo_isBelow_62 (by refine ⟨rfl, ?_⟩; show false = _; symm; unfold ibZ; rw [← eu1]; rw [if_neg (by omega), if_neg (by simp; omega)]; simp; omega) hP9 hD9 hS
        · refine z_iconst hC d_Mo_isBelow_57 ?_
          refine z_goto (tgt := 62) hC d_Mo_isBelow_58 (by decide) ?_
          have hP9 := hP.sub (ws' := [(o, .inr (5, [.int (iI cd), .int (iI z), .int (iI lv), .ref qT, .ref qC, .ref qF, .ref qY, .ref qZ, .ref qu, .ref qv, .ref qw, .ref qg, .ref qh, .ref qx, .ref qc, .ref qa, .ref qb, .ref qd, .int (iI fm), .ref qp, .ref qq])), (qx, eL t.2.1 54 u1X)]) [0, 1] rfl
          have hD9 := hD.sub (ws' := [(o, .inr (5, [.int (iI cd), .int (iI z), .int (iI lv), .ref qT, .ref qC, .ref qF, .ref qY, .ref qZ, .ref qu, .ref qv, .ref qw, .ref qg, .ref qh, .ref qx, .ref qc, .ref qa, .ref qb, .ref qd, .int (iI fm), .ref qp, .ref qq])), (qx, eL t.2.1 54 u1X)]) [0, 1] (by decide) rfl
          exact ret1 (true, u1X) _ _ 62 _ d_Mo_isBelow_62 (by refine ⟨rfl, ?_⟩; show true = _; symm; unfold ibZ; rw [← eu1]; rw [if_neg (by omega), if_neg (by simp; omega)]; simp; omega) hP9 hD9 hS
      · refine z_iconst hC d_Mo_isBelow_43 ?_
        refine z_goto (tgt := 48) hC d_Mo_isBelow_44 (by decide) ?_
        refine z_icmp_eq (tgt := 63) hC d_Mo_isBelow_48 (by decide) (by decide) (by decide) (fun _ => ?_) (fun h => absurd h (by decide))
        have mm := mul_bd (a := m) (b := m) (A := 2000000) (B := 2000000) (by omega) (by omega)
        have nn := mul_bd (a := n) (b := n) (A := 1000000) (B := 1000000) (by omega) (by omega)
        have mn := mul_bd (a := 2 * m) (b := n) (A := 4000000) (B := 1000000) (by omega) (by omega)
        refine lv_lload hC.1 hC.2.1 d_Mo_isBelow_63 (lv_at hl 4 rfl) ?_
        refine lv_lload hC.1 hC.2.1 d_Mo_isBelow_65 (lv_at hl 4 rfl) ?_
        refine z_lmul hC d_Mo_isBelow_67 ?_
        refine lv_lload hC.1 hC.2.1 d_Mo_isBelow_68 (lv_at hl 5 rfl) ?_
        refine lv_lload hC.1 hC.2.1 d_Mo_isBelow_70 (lv_at hl 5 rfl) ?_
        refine z_lmul hC d_Mo_isBelow_72 ?_
        refine z_ladd hC d_Mo_isBelow_73 ?_
        refine z_topl (z := (m * m) + (n * n)) (by omega) ?_
        refine lv_lstore (lv' := [(9, .long (lI ((m * m) + (n * n)))), (8, .int (iI u1r)), (0, .ref o), (1, .long (lI od)), (3, .int (iI len)), (4, .long (lI m)), (6, .long (lI n))]) hC.1 hC.2.1 d_Mo_isBelow_74 hl (by decide) rfl (fun ls hl => ?_)
        refine z_ldc2 hC k_575 d_Mo_isBelow_76 ?_
        refine lv_lload hC.1 hC.2.1 d_Mo_isBelow_79 (lv_at hl 5 rfl) ?_
        refine z_lmul hC d_Mo_isBelow_81 ?_
        refine lv_lload hC.1 hC.2.1 d_Mo_isBelow_82 (lv_at hl 6 rfl) ?_
        refine z_lmul hC d_Mo_isBelow_84 ?_
        refine lv_lload hC.1 hC.2.1 d_Mo_isBelow_85 (lv_at hl 6 rfl) ?_
        refine lv_lload hC.1 hC.2.1 d_Mo_isBelow_87 (lv_at hl 6 rfl) ?_
        refine z_lmul hC d_Mo_isBelow_89 ?_
        refine z_ladd hC d_Mo_isBelow_90 ?_
        refine z_topl (z := ((2 * m) * n) + (n * n)) (by omega) ?_
        refine lv_lstore (lv' := [(11, .long (lI (((2 * m) * n) + (n * n)))), (9, .long (lI ((m * m) + (n * n)))), (8, .int (iI u1r)), (0, .ref o), (1, .long (lI od)), (3, .int (iI len)), (4, .long (lI m)), (6, .long (lI n))]) hC.1 hC.2.1 d_Mo_isBelow_91 hl (by decide) rfl (fun ls hl => ?_)
        refine lv_aload_n hC.1 hC.2.1 d_Mo_isBelow_93 rfl (lv_at hl 3 rfl) ?_
        refine lv_lload_n hC.1 hC.2.1 d_Mo_isBelow_94 rfl (lv_at hl 4 rfl) ?_
        refine lv_iload_n hC.1 hC.2.1 d_Mo_isBelow_95 rfl (lv_at hl 5 rfl) ?_
        refine z_ldc2 hC k_750 d_Mo_isBelow_96 ?_
        refine lv_lload hC.1 hC.2.1 d_Mo_isBelow_99 (lv_at hl 1 rfl) ?_
        refine z_lmul hC d_Mo_isBelow_101 ?_
        refine z_topl (z := 3 * (m * m) + 3 * (n * n)) (by omega) ?_
        refine lv_lload hC.1 hC.2.1 d_Mo_isBelow_102 (lv_at hl 0 rfl) ?_
        refine z_lsub hC d_Mo_isBelow_104 ?_
        refine z_topl (z := -((2 * m) * n) + 3 * (m * m) + 2 * (n * n)) (by omega) ?_
        refine z_ldc2 hC k_575 d_Mo_isBelow_105 ?_
        refine lv_lload hC.1 hC.2.1 d_Mo_isBelow_108 (lv_at hl 0 rfl) ?_
        refine z_lmul hC d_Mo_isBelow_110 ?_
        refine z_topl (z := 2 * ((2 * m) * n) + 2 * (n * n)) (by omega) ?_
        refine lv_lload hC.1 hC.2.1 d_Mo_isBelow_111 (lv_at hl 1 rfl) ?_
        refine z_lsub hC d_Mo_isBelow_113 ?_
        refine z_topl (z := 2 * ((2 * m) * n) - (m * m) + (n * n)) (by omega) ?_
        refine z_mVi (As := [.long (lI od), .int (iI len), .long (lI (-((2 * m) * n) + 3 * (m * m) + 2 * (n * n))), .long (lI (2 * ((2 * m) * n) - (m * m) + (n * n)))]) (rest := []) (wr := []) hC (c_Mo_squareSign l D t ts o qT qC qF qY qZ qu qv qw qg qh qx qc qa qb qd qp qq cd z lv fm u1X od len (-((2 * m) * n) + 3 * (m * m) + 2 * (n * n)) (2 * ((2 * m) * n) - (m * m) + (n * n)) (by omega) (by omega) (by omega) (by omega) _) (cw_V hC k_751 k_753 kp_64 k_6 k_754 ye_Mo_squareSign (by decide)) hP hD hK hE hS hA [0, 1] [] (by decide) rfl rfl (by decide) (by decide) 0 (ci := 5) rfl rfl rfl rfl hl.1 rfl (Nat.le_of_ble_eq_true rfl) ⟨Nat.le_of_ble_eq_true rfl, Nat.le_of_ble_eq_true rfl⟩ d_Mo_isBelow_114 (fun u3 H locs eu3 hP hD hS => ?_)
        obtain ⟨u3r, u3X⟩ := u3
        dsimp only at eu3 hP hD ⊢
        have hP : va_P D classes [(o, .inr (5, [.int (iI cd), .int (iI z), .int (iI lv), .ref qT, .ref qC, .ref qF, .ref qY, .ref qZ, .ref qu, .ref qv, .ref qw, .ref qg, .ref qh, .ref qx, .ref qc, .ref qa, .ref qb, .ref qd, .int (iI fm), .ref qp, .ref qq])), (qx, eL t.2.1 54 u3X)] H := hP
        have hD : va_D A [(o, .inr (5, [.int (iI cd), .int (iI z), .int (iI lv), .ref qT, .ref qC, .ref qF, .ref qY, .ref qZ, .ref qu, .ref qv, .ref qw, .ref qg, .ref qh, .ref qx, .ref qc, .ref qa, .ref qb, .ref qd, .int (iI fm), .ref qp, .ref qq])), (qx, eL t.2.1 54 u3X)] := hD
        have ru3 : -1 ≤ u3r ∧ u3r ≤ 1 := by rw [eu3]; exact rsZ_in _ _
        refine lv_istore (lv' := [(13, .int (iI u3r)), (11, .long (lI (((2 * m) * n) + (n * n)))), (9, .long (lI ((m * m) + (n * n)))), (8, .int (iI u1r)), (0, .ref o), (1, .long (lI od)), (3, .int (iI len)), (4, .long (lI m)), (6, .long (lI n))]) hC.1 hC.2.1 d_Mo_isBelow_117 hl (by decide) rfl (fun ls hl => ?_)
        refine lv_iload hC.1 hC.2.1 d_Mo_isBelow_119 (lv_at hl 3 rfl) ?_
        refine z_if_le (tgt := 137) hC d_Mo_isBelow_121 (by decide) (by omega) (fun h121 => ?_) (fun h121 => ?_)
        · refine lv_iload hC.1 hC.2.1 d_Mo_isBelow_137 (lv_at hl 0 rfl) ?_
          refine z_if_gt (tgt := 146) hC d_Mo_isBelow_139 (by decide) (by omega) (fun h139 => ?_) (fun h139 => ?_)
          · refine z_iconst hC d_Mo_isBelow_146 ?_
            have hP9 := hP.sub (ws' := [(o, .inr (5, [.int (iI cd), .int (iI z), .int (iI lv), .ref qT, .ref qC, .ref qF, .ref qY, .ref qZ, .ref qu, .ref qv, .ref qw, .ref qg, .ref qh, .ref qx, .ref qc, .ref qa, .ref qb, .ref qd, .int (iI fm), .ref qp, .ref qq])), (qx, eL t.2.1 54 u3X)]) [0, 1] rfl
            have hD9 := hD.sub (ws' := [(o, .inr (5, [.int (iI cd), .int (iI z), .int (iI lv), .ref qT, .ref qC, .ref qF, .ref qY, .ref qZ, .ref qu, .ref qv, .ref qw, .ref qg, .ref qh, .ref qx, .ref qc, .ref qa, .ref qb, .ref qd, .int (iI fm), .ref qp, .ref qq])), (qx, eL t.2.1 54 u3X)]) [0, 1] (by decide) rfl
            exact ret0 (false, u3X) _ _ 147 _ d_Mo_isBelow_147 (by refine ⟨rfl, ?_⟩; show false = _; symm; unfold ibZ; rw [← eu1]; rw [if_neg (by omega), if_pos (by simp; omega), if_neg (by omega)]; have q : u3r = ssZ od len (3 * (m * m) + 3 * (n * n) - (2 * m * n + n * n)) (2 * (2 * m * n) + 2 * (n * n) - (m * m + n * n)) := (Eq.trans eu3 (by congr 1 <;> omega)); rw [← q]; simp; omega) hP9 hD9 hS
          · refine z_iconst hC d_Mo_isBelow_142 ?_
            refine z_goto (tgt := 147) hC d_Mo_isBelow_143 (by decide) ?_
            have hP9 := hP.sub (ws' := [(o, .inr (5, [.int (iI cd), .int (iI z), .int (iI lv), .ref qT, .ref qC, .ref qF, .ref qY, .ref qZ, .ref qu, .ref qv, .ref qw, .ref qg, .ref qh, .ref qx, .ref qc, .ref qa, .ref qb, .ref qd, .int (iI fm), .ref qp, .ref qq])), (qx, eL t.2.1 54 u3X)]) [0, 1] rfl
            have hD9 := hD.sub (ws' := [(o, .inr (5, [.int (iI cd), .int (iI z), .int (iI lv), .ref qT, .ref qC, .ref qF, .ref qY, .ref qZ, .ref qu, .ref qv, .ref qw, .ref qg, .ref qh, .ref qx, .ref qc, .ref qa, .ref qb, .ref qd, .int (iI fm), .ref qp, .ref qq])), (qx, eL t.2.1 54 u3X)]) [0, 1] (by decide) rfl
            exact ret1 (true, u3X) _ _ 147 _ d_Mo_isBelow_147 (by refine ⟨rfl, ?_⟩; show true = _; symm; unfold ibZ; rw [← eu1]; rw [if_neg (by omega), if_pos (by simp; omega), if_neg (by omega)]; have q : u3r = ssZ od len (3 * (m * m) + 3 * (n * n) - (2 * m * n + n * n)) (2 * (2 * m * n) + 2 * (n * n) - (m * m + n * n)) := (Eq.trans eu3 (by congr 1 <;> omega)); rw [← q]; simp; omega) hP9 hD9 hS
        · refine lv_iload hC.1 hC.2.1 d_Mo_isBelow_124 (lv_at hl 0 rfl) ?_
          refine z_if_lt (tgt := 133) hC d_Mo_isBelow_126 (by decide) (by omega) (fun h126 => ?_) (fun h126 => ?_)
          · refine z_iconst hC d_Mo_isBelow_133 ?_
            refine z_goto (tgt := 147) hC d_Mo_isBelow_134 (by decide) ?_
            have hP9 := hP.sub (ws' := [(o, .inr (5, [.int (iI cd), .int (iI z), .int (iI lv), .ref qT, .ref qC, .ref qF, .ref qY, .ref qZ, .ref qu, .ref qv, .ref qw, .ref qg, .ref qh, .ref qx, .ref qc, .ref qa, .ref qb, .ref qd, .int (iI fm), .ref qp, .ref qq])), (qx, eL t.2.1 54 u3X)]) [0, 1] rfl
            have hD9 := hD.sub (ws' := [(o, .inr (5, [.int (iI cd), .int (iI z), .int (iI lv), .ref qT, .ref qC, .ref qF, .ref qY, .ref qZ, .ref qu, .ref qv, .ref qw, .ref qg, .ref qh, .ref qx, .ref qc, .ref qa, .ref qb, .ref qd, .int (iI fm), .ref qp, .ref qq])), (qx, eL t.2.1 54 u3X)]) [0, 1] (by decide) rfl
            exact ret0 (false, u3X) _ _ 147 _ d_Mo_isBelow_147 (by refine ⟨rfl, ?_⟩; show false = _; symm; unfold ibZ; rw [← eu1]; rw [if_neg (by omega), if_pos (by simp; omega), if_pos (by omega)]; have q : u3r = ssZ od len (3 * (m * m) + 3 * (n * n) - (2 * m * n + n * n)) (2 * (2 * m * n) + 2 * (n * n) - (m * m + n * n)) := (Eq.trans eu3 (by congr 1 <;> omega)); rw [← q]; simp; omega) hP9 hD9 hS
          · refine z_iconst hC d_Mo_isBelow_129 ?_
            refine z_goto (tgt := 147) hC d_Mo_isBelow_130 (by decide) ?_
            have hP9 := hP.sub (ws' := [(o, .inr (5, [.int (iI cd), .int (iI z), .int (iI lv), .ref qT, .ref qC, .ref qF, .ref qY, .ref qZ, .ref qu, .ref qv, .ref qw, .ref qg, .ref qh, .ref qx, .ref qc, .ref qa, .ref qb, .ref qd, .int (iI fm), .ref qp, .ref qq])), (qx, eL t.2.1 54 u3X)]) [0, 1] rfl
            have hD9 := hD.sub (ws' := [(o, .inr (5, [.int (iI cd), .int (iI z), .int (iI lv), .ref qT, .ref qC, .ref qF, .ref qY, .ref qZ, .ref qu, .ref qv, .ref qw, .ref qg, .ref qh, .ref qx, .ref qc, .ref qa, .ref qb, .ref qd, .int (iI fm), .ref qp, .ref qq])), (qx, eL t.2.1 54 u3X)]) [0, 1] (by decide) rfl
            exact ret1 (true, u3X) _ _ 147 _ d_Mo_isBelow_147 (by refine ⟨rfl, ?_⟩; show true = _; symm; unfold ibZ; rw [← eu1]; rw [if_neg (by omega), if_pos (by simp; omega), if_pos (by omega)]; have q : u3r = ssZ od len (3 * (m * m) + 3 * (n * n) - (2 * m * n + n * n)) (2 * (2 * m * n) + 2 * (n * n) - (m * m + n * n)) := (Eq.trans eu3 (by congr 1 <;> omega)); rw [← q]; simp; omega) hP9 hD9 hS
  · refine lv_lload_n hC.1 hC.2.1 d_Mo_isBelow_15 rfl (lv_at hl 2 rfl) ?_
    refine z_lconst (v := 0) hC d_Mo_isBelow_16 (by decide) ?_
    refine z_lcmp_ge (tgt := 25) hC d_Mo_isBelow_17 d_Mo_isBelow_18 (by decide) (by omega) (by decide) (fun h17 => ?_) (fun h17 => ?_)
    · refine z_iconst hC d_Mo_isBelow_25 ?_
      have hP9 := hP.sub (ws' := [(o, .inr (5, [.int (iI cd), .int (iI z), .int (iI lv), .ref qT, .ref qC, .ref qF, .ref qY, .ref qZ, .ref qu, .ref qv, .ref qw, .ref qg, .ref qh, .ref qx, .ref qc, .ref qa, .ref qb, .ref qd, .int (iI fm), .ref qp, .ref qq])), (qx, eL t.2.1 54 u1X)]) [0, 1] rfl
      have hD9 := hD.sub (ws' := [(o, .inr (5, [.int (iI cd), .int (iI z), .int (iI lv), .ref qT, .ref qC, .ref qF, .ref qY, .ref qZ, .ref qu, .ref qv, .ref qw, .ref qg, .ref qh, .ref qx, .ref qc, .ref qa, .ref qb, .ref qd, .int (iI fm), .ref qp, .ref qq])), (qx, eL t.2.1 54 u1X)]) [0, 1] (by decide) rfl
      exact ret0 (false, u1X) _ _ 26 _ d_Mo_isBelow_26 (by refine ⟨rfl, ?_⟩; show false = _; symm; unfold ibZ; rw [← eu1]; rw [if_pos (by omega)]; simp; omega) hP9 hD9 hS
    · refine z_iconst hC d_Mo_isBelow_21 ?_
      refine z_goto (tgt := 26) hC d_Mo_isBelow_22 (by decide) ?_
      have hP9 := hP.sub (ws' := [(o, .inr (5, [.int (iI cd), .int (iI z), .int (iI lv), .ref qT, .ref qC, .ref qF, .ref qY, .ref qZ, .ref qu, .ref qv, .ref qw, .ref qg, .ref qh, .ref qx, .ref qc, .ref qa, .ref qb, .ref qd, .int (iI fm), .ref qp, .ref qq])), (qx, eL t.2.1 54 u1X)]) [0, 1] rfl
      have hD9 := hD.sub (ws' := [(o, .inr (5, [.int (iI cd), .int (iI z), .int (iI lv), .ref qT, .ref qC, .ref qF, .ref qY, .ref qZ, .ref qu, .ref qv, .ref qw, .ref qg, .ref qh, .ref qx, .ref qc, .ref qa, .ref qb, .ref qd, .int (iI fm), .ref qp, .ref qq])), (qx, eL t.2.1 54 u1X)]) [0, 1] (by decide) rfl
      exact ret1 (true, u1X) _ _ 26 _ d_Mo_isBelow_26 (by refine ⟨rfl, ?_⟩; show true = _; symm; unfold ibZ; rw [← eu1]; rw [if_pos (by omega)]; simp; omega) hP9 hD9 hS
theorem ye_Mo_steps : ye y_Mo_steps R_Mo 4 := by unfold ye; decide +kernel
abbrev rm_Mo_steps : Room := { frames := 4, cells := 0, slots := 0, locals := 110 }
set_option maxHeartbeats 4000000 in
set_option maxRecDepth 100000 in
theorem c_Mo_steps (l : Launch) (D : va_G) (t : vt) (ts : Nat → Nat) (o qT qC qF qY qZ qu qv qw qg qh qx qc qa qb qd qp qq : Nat) (cd z lv fm : Int) (Wd : Int → Int) (F : Int → Int) (hz : 0 ≤ z ∧ z ≤ 400) (hM : bM F z) (n c ax len : Int) (hn : inI n) (hc : inI c) (hax : inI ax) (hlen : inI len) (sz : Nat) : Met l y_Mo_steps (.code y_Mo_steps b_Mo_steps 21 (some .long) :: tb_ws) rm_Mo_steps (MP D t ts [.ref o, .int (iI n), .int (iI c), .int (iI ax), .int (iI len)] [(o, .inr (5, [.int (iI cd), .int (iI z), .int (iI lv), .ref qT, .ref qC, .ref qF, .ref qY, .ref qZ, .ref qu, .ref qv, .ref qw, .ref qg, .ref qh, .ref qx, .ref qc, .ref qa, .ref qb, .ref qd, .int (iI fm), .ref qp, .ref qq])), (qC, eI t.1 14400 F), (qx, eL t.2.1 54 Wd)] sz) (va_Ql (fun zr u => zr = lI ((fun u : Int × (Int → Int) => u.1) u) ∧ ((fun u : Int × (Int → Int) => mstp F z n c ax len u.1)) u) (MB D (va_A [(o, .inr (5, [.int (iI cd), .int (iI z), .int (iI lv), .ref qT, .ref qC, .ref qF, .ref qY, .ref qZ, .ref qu, .ref qv, .ref qw, .ref qg, .ref qh, .ref qx, .ref qc, .ref qa, .ref qb, .ref qd, .int (iI fm), .ref qp, .ref qq])), (qC, eI t.1 14400 F), (qx, eL t.2.1 54 Wd)] sz) (fun u : Int × (Int → Int) => [(o, .inr (5, [.int (iI 0), .int (iI z), .int (iI lv), .ref qT, .ref qC, .ref qF, .ref qY, .ref qZ, .ref qu, .ref qv, .ref qw, .ref qg, .ref qh, .ref qx, .ref qc, .ref qa, .ref qb, .ref qd, .int (iI fm), .ref qp, .ref qq])), (qC, eI t.1 14400 F), (qx, eL t.2.1 54 u.2)])) (va_A [(o, .inr (5, [.int (iI cd), .int (iI z), .int (iI lv), .ref qT, .ref qC, .ref qF, .ref qY, .ref qZ, .ref qu, .ref qv, .ref qw, .ref qg, .ref qh, .ref qx, .ref qc, .ref qa, .ref qb, .ref qd, .int (iI fm), .ref qp, .ref qq])), (qC, eI t.1 14400 F), (qx, eL t.2.1 54 Wd)] sz)) 0 0 (va_A [(o, .inr (5, [.int (iI cd), .int (iI z), .int (iI lv), .ref qT, .ref qC, .ref qF, .ref qY, .ref qZ, .ref qu, .ref qv, .ref qw, .ref qg, .ref qh, .ref qx, .ref qc, .ref qa, .ref qb, .ref qd, .int (iI fm), .ref qp, .ref qq])), (qC, eI t.1 14400 F), (qx, eL t.2.1 54 Wd)] sz) := by
  refine m_l (by decide +kernel) (Nat.le_of_ble_eq_true rfl) ?_
  intro zp ze zs zm zb zt zc zQ A ls hC hA hP hK hD hE hS hl ret
  have hl : lv_has ls 21 [(0, .ref o), (1, .int (iI n)), (2, .int (iI c)), (3, .int (iI ax)), (4, .int (iI len))] := hl
  have retv : ∀ (u : Int × (Int → Int)) (H : Heap) (locs : List Loc) (pc : Nat) (ls : Array Slot) (zv : Int), decode b_Mo_steps pc = .ok (.lreturn, 1) → (zv = u.1 ∧ (mstp F z n c ax len u.1)) → va_P D classes ([(o, .inr (5, [.int (iI 0), .int (iI z), .int (iI lv), .ref qT, .ref qC, .ref qF, .ref qY, .ref qZ, .ref qu, .ref qv, .ref qw, .ref qg, .ref qh, .ref qx, .ref qc, .ref qa, .ref qb, .ref qd, .int (iI fm), .ref qp, .ref qq])), (qC, eI t.1 14400 F), (qx, eL t.2.1 54 u.2)]) H → va_D A ([(o, .inr (5, [.int (iI 0), .int (iI z), .int (iI lv), .ref qT, .ref qC, .ref qF, .ref qY, .ref qZ, .ref qu, .ref qv, .ref qw, .ref qg, .ref qh, .ref qx, .ref qc, .ref qa, .ref qb, .ref qd, .int (iI fm), .ref qp, .ref qq])), (qC, eI t.1 14400 F), (qx, eL t.2.1 54 u.2)]) → va_S A zs.heap H locs → W zp l ze rm_Mo_steps zs zm [.ref o, .int (iI n), .int (iI c), .int (iI ax), .int (iI len)].toArray zb zt zc H locs 0 0 zQ (F0 zm pc ls [.long (lI zv)]) := fun u H locs pc ls v d h hP hD hS => by rw [h.1]; exact ret u H locs pc ls d h.2 hP hD hS
  refine lv_aload_n hC.1 hC.2.1 d_Mo_steps_0 rfl (lv_at hl 0 rfl) ?_
  refine z_iconst hC d_Mo_steps_1 ?_
  refine z_put (ci := 5) (C := R_Mo) (T := F_Mo) (N := 21) (v := .int (iI 0)) (ws' := [(o, .inr (5, [.int (iI 0), .int (iI z), .int (iI lv), .ref qT, .ref qC, .ref qF, .ref qY, .ref qZ, .ref qu, .ref qv, .ref qw, .ref qg, .ref qh, .ref qx, .ref qc, .ref qa, .ref qb, .ref qd, .int (iI fm), .ref qp, .ref qq])), (qC, eI t.1 14400 F), (qx, eL t.2.1 54 Wd)]) hC in_Mo t_Mo t_Mo_ok n_Mo hK hP hD hS 0 rfl rfl 0 (by decide) k_453 rfl rfl rfl (Nat.le_of_ble_eq_true rfl) rfl d_Mo_steps_2 (fun H locs hP hD hS => ?_)
  refine lv_aload_n hC.1 hC.2.1 d_Mo_steps_5 rfl (lv_at hl 0 rfl) ?_
  refine lv_iload_n hC.1 hC.2.1 d_Mo_steps_6 rfl (lv_at hl 1 rfl) ?_
  refine lv_iload_n hC.1 hC.2.1 d_Mo_steps_7 rfl (lv_at hl 2 rfl) ?_
  refine z_roVi (As := [.int (iI n), .int (iI c)]) (rest := []) hC (c_Mo_isCorner l D t ts o qT qC qF qY qZ qu qv qw qg qh qx qc qa qb qd qp qq 0 z lv fm n c (by omega) (by omega) (by omega)) (cw_V hC k_718 k_720 kp_60 k_6 k_721 ye_Mo_isCorner (by decide)) hP hK hE hS [0] rfl 0 (ci := 5) rfl rfl rfl rfl hl.1 rfl (Nat.le_of_ble_eq_true rfl) ⟨Nat.le_of_ble_eq_true rfl, Nat.le_of_ble_eq_true rfl⟩ d_Mo_steps_8 ?_
  refine z_if_eqB (tgt := 37) hC d_Mo_steps_11 (by decide) (fun h11 => ?_) (fun h11 => ?_)
  · refine z_lconst (v := 0) hC d_Mo_steps_37 (by decide) ?_
    have hP9 := hP.sub (ws' := [(o, .inr (5, [.int (iI 0), .int (iI z), .int (iI lv), .ref qT, .ref qC, .ref qF, .ref qY, .ref qZ, .ref qu, .ref qv, .ref qw, .ref qg, .ref qh, .ref qx, .ref qc, .ref qa, .ref qb, .ref qd, .int (iI fm), .ref qp, .ref qq])), (qC, eI t.1 14400 F), (qx, eL t.2.1 54 Wd)]) [0, 1, 2] rfl
    have hD9 := hD.sub (ws' := [(o, .inr (5, [.int (iI 0), .int (iI z), .int (iI lv), .ref qT, .ref qC, .ref qF, .ref qY, .ref qZ, .ref qu, .ref qv, .ref qw, .ref qg, .ref qh, .ref qx, .ref qc, .ref qa, .ref qb, .ref qd, .int (iI fm), .ref qp, .ref qq])), (qC, eI t.1 14400 F), (qx, eL t.2.1 54 Wd)]) [0, 1, 2] (by decide) rfl
    exact retv (0, Wd) _ _ 38 _ _ d_Mo_steps_38 ⟨rfl, Or.inl ⟨by rw [h11]; simp, rfl⟩⟩ hP9 hD9 hS
  · refine lv_iload_n hC.1 hC.2.1 d_Mo_steps_14 rfl (lv_at hl 3 rfl) ?_
    refine z_if_lt (tgt := 37) hC d_Mo_steps_15 (by decide) (by omega) (fun h15 => ?_) (fun h15 => ?_)
    · refine z_lconst (v := 0) hC d_Mo_steps_37 (by decide) ?_
      have hP9 := hP.sub (ws' := [(o, .inr (5, [.int (iI 0), .int (iI z), .int (iI lv), .ref qT, .ref qC, .ref qF, .ref qY, .ref qZ, .ref qu, .ref qv, .ref qw, .ref qg, .ref qh, .ref qx, .ref qc, .ref qa, .ref qb, .ref qd, .int (iI fm), .ref qp, .ref qq])), (qC, eI t.1 14400 F), (qx, eL t.2.1 54 Wd)]) [0, 1, 2] rfl
      have hD9 := hD.sub (ws' := [(o, .inr (5, [.int (iI 0), .int (iI z), .int (iI lv), .ref qT, .ref qC, .ref qF, .ref qY, .ref qZ, .ref qu, .ref qv, .ref qw, .ref qg, .ref qh, .ref qx, .ref qc, .ref qa, .ref qb, .ref qd, .int (iI fm), .ref qp, .ref qq])), (qC, eI t.1 14400 F), (qx, eL t.2.1 54 Wd)]) [0, 1, 2] (by decide) rfl
      exact retv (0, Wd) _ _ 38 _ _ d_Mo_steps_38 ⟨rfl, Or.inl ⟨by omega, rfl⟩⟩ hP9 hD9 hS
    · refine lv_iload_n hC.1 hC.2.1 d_Mo_steps_18 rfl (lv_at hl 3 rfl) ?_
      refine z_iconst hC d_Mo_steps_19 ?_
      refine z_icmp_gt (tgt := 37) hC d_Mo_steps_20 (by decide) (by omega) (by decide) (fun h20 => ?_) (fun h20 => ?_)
      · refine z_lconst (v := 0) hC d_Mo_steps_37 (by decide) ?_
        have hP9 := hP.sub (ws' := [(o, .inr (5, [.int (iI 0), .int (iI z), .int (iI lv), .ref qT, .ref qC, .ref qF, .ref qY, .ref qZ, .ref qu, .ref qv, .ref qw, .ref qg, .ref qh, .ref qx, .ref qc, .ref qa, .ref qb, .ref qd, .int (iI fm), .ref qp, .ref qq])), (qC, eI t.1 14400 F), (qx, eL t.2.1 54 Wd)]) [0, 1, 2] rfl
        have hD9 := hD.sub (ws' := [(o, .inr (5, [.int (iI 0), .int (iI z), .int (iI lv), .ref qT, .ref qC, .ref qF, .ref qY, .ref qZ, .ref qu, .ref qv, .ref qw, .ref qg, .ref qh, .ref qx, .ref qc, .ref qa, .ref qb, .ref qd, .int (iI fm), .ref qp, .ref qq])), (qC, eI t.1 14400 F), (qx, eL t.2.1 54 Wd)]) [0, 1, 2] (by decide) rfl
        exact retv (0, Wd) _ _ 38 _ _ d_Mo_steps_38 ⟨rfl, Or.inl ⟨by omega, rfl⟩⟩ hP9 hD9 hS
      · refine lv_iload hC.1 hC.2.1 d_Mo_steps_23 (lv_at hl 4 rfl) ?_
        refine z_iconst hC d_Mo_steps_25 ?_
        refine z_icmp_lt (tgt := 37) hC d_Mo_steps_26 (by decide) (by omega) (by decide) (fun h26 => ?_) (fun h26 => ?_)
        · refine z_lconst (v := 0) hC d_Mo_steps_37 (by decide) ?_
          have hP9 := hP.sub (ws' := [(o, .inr (5, [.int (iI 0), .int (iI z), .int (iI lv), .ref qT, .ref qC, .ref qF, .ref qY, .ref qZ, .ref qu, .ref qv, .ref qw, .ref qg, .ref qh, .ref qx, .ref qc, .ref qa, .ref qb, .ref qd, .int (iI fm), .ref qp, .ref qq])), (qC, eI t.1 14400 F), (qx, eL t.2.1 54 Wd)]) [0, 1, 2] rfl
          have hD9 := hD.sub (ws' := [(o, .inr (5, [.int (iI 0), .int (iI z), .int (iI lv), .ref qT, .ref qC, .ref qF, .ref qY, .ref qZ, .ref qu, .ref qv, .ref qw, .ref qg, .ref qh, .ref qx, .ref qc, .ref qa, .ref qb, .ref qd, .int (iI fm), .ref qp, .ref qq])), (qC, eI t.1 14400 F), (qx, eL t.2.1 54 Wd)]) [0, 1, 2] (by decide) rfl
          exact retv (0, Wd) _ _ 38 _ _ d_Mo_steps_38 ⟨rfl, Or.inl ⟨by omega, rfl⟩⟩ hP9 hD9 hS
        · refine lv_iload hC.1 hC.2.1 d_Mo_steps_29 (lv_at hl 4 rfl) ?_
          refine z_ldcw hC k_743 d_Mo_steps_31 ?_
          refine z_icmp_le (tgt := 39) hC d_Mo_steps_34 (by decide) (by omega) (by decide) (fun h34 => ?_) (fun h34 => ?_)
          · have g := h11
            unfold hasZ at g
            simp at g
            have k0 := hM (4 * c + 12 * n) (by omega) (by omega)
            have k1 := hM (4 * c + 12 * n + 1) (by omega) (by omega)
            have k2 := hM (4 * c + 12 * n + 2) (by omega) (by omega)
            have k3 := hM (4 * c + 12 * n + 3) (by omega) (by omega)
            have l1 := mul_bd (a := len) (b := -F (4 * c + 12 * n + 1) + 2 * F (4 * c + 12 * n)) (A := 10000000) (B := 3000000) (by omega) (by omega)
            have l2 := mul_bd (a := len) (b := F (4 * c + 12 * n + 1) - F (4 * c + 12 * n + 2) - F (4 * c + 12 * n + 3)) (A := 10000000) (B := 3000000) (by omega) (by omega)
            refine lv_aload_n hC.1 hC.2.1 d_Mo_steps_39 rfl (lv_at hl 0 rfl) ?_
            refine lv_iload_n hC.1 hC.2.1 d_Mo_steps_40 rfl (lv_at hl 1 rfl) ?_
            refine lv_iload_n hC.1 hC.2.1 d_Mo_steps_41 rfl (lv_at hl 2 rfl) ?_
            refine z_roVi (As := [.int (iI n), .int (iI c)]) (rest := []) hC (c_Mo_at l D t ts o n c (4 * c + 12 * n) (by omega)) (cw_V hC k_537 k_539 kp_26 k_6 k_540 ye_Mo_at (by decide)) hP hK hE hS [] rfl 0 (ci := 5) rfl rfl rfl rfl hl.1 rfl (Nat.le_of_ble_eq_true rfl) ⟨Nat.le_of_ble_eq_true rfl, Nat.le_of_ble_eq_true rfl⟩ d_Mo_steps_42 ?_
            refine lv_istore (lv' := [(5, .int (iI (4 * c + 12 * n))), (0, .ref o), (1, .int (iI n)), (2, .int (iI c)), (3, .int (iI ax)), (4, .int (iI len))]) hC.1 hC.2.1 d_Mo_steps_45 hl (by decide) rfl (fun ls hl => ?_)
            refine lv_aload_n hC.1 hC.2.1 d_Mo_steps_47 rfl (lv_at hl 1 rfl) ?_
            refine z_get (ci := 5) (C := R_Mo) (T := F_Mo) (N := 21) (v := .ref qC) hC in_Mo hK hP 0 rfl rfl 4 (by decide) k_457 rfl d_Mo_steps_48 ?_
            refine lv_iload hC.1 hC.2.1 d_Mo_steps_51 (lv_at hl 0 rfl) ?_
            refine z_iald hC hK hP 1 rfl (by omega) d_Mo_steps_53 ?_
            refine z_i2l hC d_Mo_steps_54 (by omega) ?_
            refine lv_lstore (lv' := [(6, .long (lI (F (4 * c + 12 * n)))), (5, .int (iI (4 * c + 12 * n))), (0, .ref o), (1, .int (iI n)), (2, .int (iI c)), (3, .int (iI ax)), (4, .int (iI len))]) hC.1 hC.2.1 d_Mo_steps_55 hl (by decide) rfl (fun ls hl => ?_)
            refine lv_aload_n hC.1 hC.2.1 d_Mo_steps_57 rfl (lv_at hl 2 rfl) ?_
            refine z_get (ci := 5) (C := R_Mo) (T := F_Mo) (N := 21) (v := .ref qC) hC in_Mo hK hP 0 rfl rfl 4 (by decide) k_457 rfl d_Mo_steps_58 ?_
            refine lv_iload hC.1 hC.2.1 d_Mo_steps_61 (lv_at hl 1 rfl) ?_
            refine z_iconst hC d_Mo_steps_63 ?_
            refine z_iadd hC d_Mo_steps_64 ?_
            refine z_topi (z := 4 * c + 12 * n + 1) (by omega) ?_
            refine z_iald hC hK hP 1 rfl (by omega) d_Mo_steps_65 ?_
            refine z_i2l hC d_Mo_steps_66 (by omega) ?_
            refine lv_lstore (lv' := [(8, .long (lI (F (4 * c + 12 * n + 1)))), (6, .long (lI (F (4 * c + 12 * n)))), (5, .int (iI (4 * c + 12 * n))), (0, .ref o), (1, .int (iI n)), (2, .int (iI c)), (3, .int (iI ax)), (4, .int (iI len))]) hC.1 hC.2.1 d_Mo_steps_67 hl (by decide) rfl (fun ls hl => ?_)
            refine lv_aload_n hC.1 hC.2.1 d_Mo_steps_69 rfl (lv_at hl 3 rfl) ?_
            refine z_get (ci := 5) (C := R_Mo) (T := F_Mo) (N := 21) (v := .ref qC) hC in_Mo hK hP 0 rfl rfl 4 (by decide) k_457 rfl d_Mo_steps_70 ?_
            refine lv_iload hC.1 hC.2.1 d_Mo_steps_73 (lv_at hl 2 rfl) ?_
            refine z_iconst hC d_Mo_steps_75 ?_
            refine z_iadd hC d_Mo_steps_76 ?_
            refine z_topi (z := 4 * c + 12 * n + 2) (by omega) ?_
            refine z_iald hC hK hP 1 rfl (by omega) d_Mo_steps_77 ?_
            refine z_i2l hC d_Mo_steps_78 (by omega) ?_
            refine lv_lstore (lv' := [(10, .long (lI (F (4 * c + 12 * n + 2)))), (8, .long (lI (F (4 * c + 12 * n + 1)))), (6, .long (lI (F (4 * c + 12 * n)))), (5, .int (iI (4 * c + 12 * n))), (0, .ref o), (1, .int (iI n)), (2, .int (iI c)), (3, .int (iI ax)), (4, .int (iI len))]) hC.1 hC.2.1 d_Mo_steps_79 hl (by decide) rfl (fun ls hl => ?_)
            refine lv_aload_n hC.1 hC.2.1 d_Mo_steps_81 rfl (lv_at hl 4 rfl) ?_
            refine z_get (ci := 5) (C := R_Mo) (T := F_Mo) (N := 21) (v := .ref qC) hC in_Mo hK hP 0 rfl rfl 4 (by decide) k_457 rfl d_Mo_steps_82 ?_
            refine lv_iload hC.1 hC.2.1 d_Mo_steps_85 (lv_at hl 3 rfl) ?_
            refine z_iconst hC d_Mo_steps_87 ?_
            refine z_iadd hC d_Mo_steps_88 ?_
            refine z_topi (z := 4 * c + 12 * n + 3) (by omega) ?_
            refine z_iald hC hK hP 1 rfl (by omega) d_Mo_steps_89 ?_
            refine z_i2l hC d_Mo_steps_90 (by omega) ?_
            refine lv_lstore (lv' := [(12, .long (lI (F (4 * c + 12 * n + 3)))), (10, .long (lI (F (4 * c + 12 * n + 2)))), (8, .long (lI (F (4 * c + 12 * n + 1)))), (6, .long (lI (F (4 * c + 12 * n)))), (5, .int (iI (4 * c + 12 * n))), (0, .ref o), (1, .int (iI n)), (2, .int (iI c)), (3, .int (iI ax)), (4, .int (iI len))]) hC.1 hC.2.1 d_Mo_steps_91 hl (by decide) rfl (fun ls hl => ?_)
            refine z_ldc2 hC k_744 d_Mo_steps_93 ?_
            refine lv_lstore (lv' := [(14, .long (lI (-100000000000000))), (12, .long (lI (F (4 * c + 12 * n + 3)))), (10, .long (lI (F (4 * c + 12 * n + 2)))), (8, .long (lI (F (4 * c + 12 * n + 1)))), (6, .long (lI (F (4 * c + 12 * n)))), (5, .int (iI (4 * c + 12 * n))), (0, .ref o), (1, .int (iI n)), (2, .int (iI c)), (3, .int (iI ax)), (4, .int (iI len))]) hC.1 hC.2.1 d_Mo_steps_96 hl (by decide) rfl (fun ls hl => ?_)
            refine z_ldc2 hC k_745 d_Mo_steps_98 ?_
            refine lv_lstore (lv' := [(16, .long (lI 100000000000000)), (14, .long (lI (-100000000000000))), (12, .long (lI (F (4 * c + 12 * n + 3)))), (10, .long (lI (F (4 * c + 12 * n + 2)))), (8, .long (lI (F (4 * c + 12 * n + 1)))), (6, .long (lI (F (4 * c + 12 * n)))), (5, .int (iI (4 * c + 12 * n))), (0, .ref o), (1, .int (iI n)), (2, .int (iI c)), (3, .int (iI ax)), (4, .int (iI len))]) hC.1 hC.2.1 d_Mo_steps_101 hl (by decide) rfl (fun ls hl => ?_)
            have L103 : ∀ (fu : Nat) (Wl : Int → Int) (low : Int) (high : Int) (H : Heap) (locs : List Loc) (ls : Array Slot), high - low + 1 ≤ (fu : Int) → (-100000000000000 ≤ low ∧ low ≤ high ∧ high ≤ 100000000000000) → (low = -100000000000000 ∨ mtR F (4 * c + 12 * n) ax len low = true) → (high = 100000000000000 ∨ mtR F (4 * c + 12 * n) ax len (high + 1) = false) → va_P D classes [(o, .inr (5, [.int (iI 0), .int (iI z), .int (iI lv), .ref qT, .ref qC, .ref qF, .ref qY, .ref qZ, .ref qu, .ref qv, .ref qw, .ref qg, .ref qh, .ref qx, .ref qc, .ref qa, .ref qb, .ref qd, .int (iI fm), .ref qp, .ref qq])), (qC, eI t.1 14400 F), (qx, eL t.2.1 54 Wl)] H → va_D A [(o, .inr (5, [.int (iI 0), .int (iI z), .int (iI lv), .ref qT, .ref qC, .ref qF, .ref qY, .ref qZ, .ref qu, .ref qv, .ref qw, .ref qg, .ref qh, .ref qx, .ref qc, .ref qa, .ref qb, .ref qd, .int (iI fm), .ref qp, .ref qq])), (qC, eI t.1 14400 F), (qx, eL t.2.1 54 Wl)] → va_S A zs.heap H locs → lv_has ls 21 [(16, .long (lI high)), (14, .long (lI low)), (12, .long (lI (F (4 * c + 12 * n + 3)))), (10, .long (lI (F (4 * c + 12 * n + 2)))), (8, .long (lI (F (4 * c + 12 * n + 1)))), (6, .long (lI (F (4 * c + 12 * n)))), (5, .int (iI (4 * c + 12 * n))), (0, .ref o), (1, .int (iI n)), (2, .int (iI c)), (3, .int (iI ax)), (4, .int (iI len))] → W zp l ze rm_Mo_steps zs zm [.ref o, .int (iI n), .int (iI c), .int (iI ax), .int (iI len)].toArray zb zt zc H locs 0 0 zQ (F0 zm 103 ls []) := by
              intro fu
              induction fu with
              | zero =>
                intro Wl low high H locs ls hm103 hlh hlo hhi hP hD hS hl
                exact absurd hm103 (by omega)
              | succ fu ih103 =>
                intro Wl low high H locs ls hm103 hlh hlo hhi hP hD hS hl
                refine lv_lload hC.1 hC.2.1 d_Mo_steps_103 (lv_at hl 1 rfl) ?_
                refine lv_lload hC.1 hC.2.1 d_Mo_steps_105 (lv_at hl 0 rfl) ?_
                refine z_lcmp_ge (tgt := 224) hC d_Mo_steps_107 d_Mo_steps_108 (by decide) (by omega) (by omega) (fun h107 => ?_) (fun h107 => ?_)
                · refine lv_lload hC.1 hC.2.1 d_Mo_steps_224 (lv_at hl 1 rfl) ?_
                  have hP9 := hP.sub (ws' := [(o, .inr (5, [.int (iI 0), .int (iI z), .int (iI lv), .ref qT, .ref qC, .ref qF, .ref qY, .ref qZ, .ref qu, .ref qv, .ref qw, .ref qg, .ref qh, .ref qx, .ref qc, .ref qa, .ref qb, .ref qd, .int (iI fm), .ref qp, .ref qq])), (qC, eI t.1 14400 F), (qx, eL t.2.1 54 Wl)]) [0, 1, 2] rfl
                  have hD9 := hD.sub (ws' := [(o, .inr (5, [.int (iI 0), .int (iI z), .int (iI lv), .ref qT, .ref qC, .ref qF, .ref qY, .ref qZ, .ref qu, .ref qv, .ref qw, .ref qg, .ref qh, .ref qx, .ref qc, .ref qa, .ref qb, .ref qd, .int (iI fm), .ref qp, .ref qq])), (qC, eI t.1 14400 F), (qx, eL t.2.1 54 Wl)]) [0, 1, 2] (by decide) rfl
                  exact retv (low, Wl) _ _ 226 _ _ d_Mo_steps_226 ⟨rfl, Or.inr ⟨⟨h11, by omega⟩, by show -100000000000000 ≤ low ∧ low ≤ 100000000000000; omega, hlo, by rw [show low = high by omega]; exact hhi⟩⟩ hP9 hD9 hS
                · refine lv_lload hC.1 hC.2.1 d_Mo_steps_111 (lv_at hl 1 rfl) ?_
                  refine lv_lload hC.1 hC.2.1 d_Mo_steps_113 (lv_at hl 0 rfl) ?_
                  refine lv_lload hC.1 hC.2.1 d_Mo_steps_115 (lv_at hl 1 rfl) ?_
                  refine z_lsub hC d_Mo_steps_117 ?_
                  refine z_lconst (v := 1) hC d_Mo_steps_118 (by decide) ?_
                  refine z_ladd hC d_Mo_steps_119 ?_
                  refine z_topl (z := high - low + 1) (by omega) ?_
                  refine z_ldc2 hC k_575 d_Mo_steps_120 ?_
                  refine z_ldiv2 (z := ((high - low + 1) / 2)) hC (l_div2 (by omega) (by omega)) d_Mo_steps_123 ?_
                  refine z_ladd hC d_Mo_steps_124 ?_
                  refine z_topl (z := ((high - low + 1) / 2) + low) (by omega) ?_
                  obtain ⟨tt, ett⟩ : ∃ z : Int, z = ((high - low + 1) / 2) + low := ⟨_, rfl⟩
                  have htt : low < tt ∧ tt ≤ high := by omega
                  rw [← ett]
                  refine lv_lstore (lv' := [(18, .long (lI tt)), (16, .long (lI high)), (14, .long (lI low)), (12, .long (lI (F (4 * c + 12 * n + 3)))), (10, .long (lI (F (4 * c + 12 * n + 2)))), (8, .long (lI (F (4 * c + 12 * n + 1)))), (6, .long (lI (F (4 * c + 12 * n)))), (5, .int (iI (4 * c + 12 * n))), (0, .ref o), (1, .int (iI n)), (2, .int (iI c)), (3, .int (iI ax)), (4, .int (iI len))]) hC.1 hC.2.1 d_Mo_steps_125 hl (by decide) rfl (fun ls hl => ?_)
                  refine lv_iload_n hC.1 hC.2.1 d_Mo_steps_127 rfl (lv_at hl 11 rfl) ?_
                  refine z_if_ne (tgt := 180) hC d_Mo_steps_128 (by decide) (by omega) (fun h128 => ?_) (fun h128 => ?_)
                  · refine lv_aload_n hC.1 hC.2.1 d_Mo_steps_180 rfl (lv_at hl 8 rfl) ?_
                    refine z_ldc2 hC k_575 d_Mo_steps_181 ?_
                    refine lv_lload hC.1 hC.2.1 d_Mo_steps_184 (lv_at hl 0 rfl) ?_
                    refine z_lmul hC d_Mo_steps_186 ?_
                    refine z_lconst (v := 1) hC d_Mo_steps_187 (by decide) ?_
                    refine z_lsub hC d_Mo_steps_188 ?_
                    refine z_topl (z := 2 * tt - 1) (by omega) ?_
                    refine lv_iload hC.1 hC.2.1 d_Mo_steps_189 (lv_at hl 12 rfl) ?_
                    refine lv_lload hC.1 hC.2.1 d_Mo_steps_191 (lv_at hl 4 rfl) ?_
                    refine lv_lload hC.1 hC.2.1 d_Mo_steps_193 (lv_at hl 3 rfl) ?_
                    refine z_lsub hC d_Mo_steps_195 ?_
                    refine z_topl (z := F (4 * c + 12 * n + 2) - F (4 * c + 12 * n + 3)) (by omega) ?_
                    refine lv_lload hC.1 hC.2.1 d_Mo_steps_196 (lv_at hl 5 rfl) ?_
                    refine z_mVi (As := [.long (lI (2 * tt - 1)), .int (iI len), .long (lI (F (4 * c + 12 * n + 2) - F (4 * c + 12 * n + 3))), .long (lI (F (4 * c + 12 * n + 1)))]) (rest := []) (wr := [(qC, eI t.1 14400 F)]) hC (c_Mo_isBelow l D t ts o qT qC qF qY qZ qu qv qw qg qh qx qc qa qb qd qp qq 0 z lv fm Wl (2 * tt - 1) len (F (4 * c + 12 * n + 2) - F (4 * c + 12 * n + 3)) (F (4 * c + 12 * n + 1)) (by omega) (by omega) (by omega) (by omega) _) (cw_V hC k_746 k_748 kp_63 k_6 k_749 ye_Mo_isBelow (by decide)) hP hD hK hE hS hA [0, 2] [1] (by decide) rfl rfl (by decide) (by decide) 0 (ci := 5) rfl rfl rfl rfl hl.1 rfl (Nat.le_of_ble_eq_true rfl) ⟨Nat.le_of_ble_eq_true rfl, Nat.le_of_ble_eq_true rfl⟩ d_Mo_steps_198 (fun u1 H locs eu1 hP hD hS => ?_)
                    obtain ⟨u1r, u1X⟩ := u1
                    dsimp only at eu1 hP hD ⊢
                    have hP : va_P D classes [(qC, eI t.1 14400 F), (o, .inr (5, [.int (iI 0), .int (iI z), .int (iI lv), .ref qT, .ref qC, .ref qF, .ref qY, .ref qZ, .ref qu, .ref qv, .ref qw, .ref qg, .ref qh, .ref qx, .ref qc, .ref qa, .ref qb, .ref qd, .int (iI fm), .ref qp, .ref qq])), (qx, eL t.2.1 54 u1X)] H := hP
                    have hD : va_D A [(qC, eI t.1 14400 F), (o, .inr (5, [.int (iI 0), .int (iI z), .int (iI lv), .ref qT, .ref qC, .ref qF, .ref qY, .ref qZ, .ref qu, .ref qv, .ref qw, .ref qg, .ref qh, .ref qx, .ref qc, .ref qa, .ref qb, .ref qd, .int (iI fm), .ref qp, .ref qq])), (qx, eL t.2.1 54 u1X)] := hD
                    have hR : mtR F (4 * c + 12 * n) ax len tt = u1r := by unfold mtR; rw [if_neg (by omega), eu1, show 4 * c + 12 * n + 1 = 4 * c + 12 * n + 1 from rfl]
                    refine lv_istore (lv' := [(20, .int (iI (zB u1r))), (18, .long (lI tt)), (16, .long (lI high)), (14, .long (lI low)), (12, .long (lI (F (4 * c + 12 * n + 3)))), (10, .long (lI (F (4 * c + 12 * n + 2)))), (8, .long (lI (F (4 * c + 12 * n + 1)))), (6, .long (lI (F (4 * c + 12 * n)))), (5, .int (iI (4 * c + 12 * n))), (0, .ref o), (1, .int (iI n)), (2, .int (iI c)), (3, .int (iI ax)), (4, .int (iI len))]) hC.1 hC.2.1 d_Mo_steps_201 hl (by decide) rfl (fun ls hl => ?_)
                    refine lv_iload hC.1 hC.2.1 d_Mo_steps_203 (lv_at hl 0 rfl) ?_
                    refine z_if_eqB (tgt := 215) hC d_Mo_steps_205 (by decide) (fun h205 => ?_) (fun h205 => ?_)
                    · refine lv_lload hC.1 hC.2.1 d_Mo_steps_215 (lv_at hl 1 rfl) ?_
                      refine z_lconst (v := 1) hC d_Mo_steps_217 (by decide) ?_
                      refine z_lsub hC d_Mo_steps_218 ?_
                      refine lv_lstore (lv' := [(16, .long (lI (tt - 1))), (20, .int (iI (zB u1r))), (18, .long (lI tt)), (14, .long (lI low)), (12, .long (lI (F (4 * c + 12 * n + 3)))), (10, .long (lI (F (4 * c + 12 * n + 2)))), (8, .long (lI (F (4 * c + 12 * n + 1)))), (6, .long (lI (F (4 * c + 12 * n)))), (5, .int (iI (4 * c + 12 * n))), (0, .ref o), (1, .int (iI n)), (2, .int (iI c)), (3, .int (iI ax)), (4, .int (iI len))]) hC.1 hC.2.1 d_Mo_steps_219 hl (by decide) rfl (fun ls hl => ?_)
                      refine z_goto (tgt := 103) hC d_Mo_steps_221 (by decide) ?_
                      exact ih103 u1X low (tt - 1) _ _ _ (by omega) (by omega) hlo (Or.inr (by rw [show tt - 1 + 1 = tt by omega, hR]; exact h205)) (hP.sub (ws' := [(o, .inr (5, [.int (iI 0), .int (iI z), .int (iI lv), .ref qT, .ref qC, .ref qF, .ref qY, .ref qZ, .ref qu, .ref qv, .ref qw, .ref qg, .ref qh, .ref qx, .ref qc, .ref qa, .ref qb, .ref qd, .int (iI fm), .ref qp, .ref qq])), (qC, eI t.1 14400 F), (qx, eL t.2.1 54 u1X)]) [1, 0, 2] rfl) (hD.sub (ws' := [(o, .inr (5, [.int (iI 0), .int (iI z), .int (iI lv), .ref qT, .ref qC, .ref qF, .ref qY, .ref qZ, .ref qu, .ref qv, .ref qw, .ref qg, .ref qh, .ref qx, .ref qc, .ref qa, .ref qb, .ref qd, .int (iI fm), .ref qp, .ref qq])), (qC, eI t.1 14400 F), (qx, eL t.2.1 54 u1X)]) [1, 0, 2] (by decide) rfl) hS (lv_sub hl [0, 3, 4, 5, 6, 7, 8, 9, 10, 11, 12, 13] rfl)
                    · refine lv_lload hC.1 hC.2.1 d_Mo_steps_208 (lv_at hl 1 rfl) ?_
                      refine lv_lstore (lv' := [(14, .long (lI tt)), (20, .int (iI (zB u1r))), (18, .long (lI tt)), (16, .long (lI high)), (12, .long (lI (F (4 * c + 12 * n + 3)))), (10, .long (lI (F (4 * c + 12 * n + 2)))), (8, .long (lI (F (4 * c + 12 * n + 1)))), (6, .long (lI (F (4 * c + 12 * n)))), (5, .int (iI (4 * c + 12 * n))), (0, .ref o), (1, .int (iI n)), (2, .int (iI c)), (3, .int (iI ax)), (4, .int (iI len))]) hC.1 hC.2.1 d_Mo_steps_210 hl (by decide) rfl (fun ls hl => ?_)
                      refine z_goto (tgt := 221) hC d_Mo_steps_212 (by decide) ?_
                      refine z_goto (tgt := 103) hC d_Mo_steps_221 (by decide) ?_
                      exact ih103 u1X tt high _ _ _ (by omega) (by omega) (Or.inr (by rw [hR]; exact h205)) hhi (hP.sub (ws' := [(o, .inr (5, [.int (iI 0), .int (iI z), .int (iI lv), .ref qT, .ref qC, .ref qF, .ref qY, .ref qZ, .ref qu, .ref qv, .ref qw, .ref qg, .ref qh, .ref qx, .ref qc, .ref qa, .ref qb, .ref qd, .int (iI fm), .ref qp, .ref qq])), (qC, eI t.1 14400 F), (qx, eL t.2.1 54 u1X)]) [1, 0, 2] rfl) (hD.sub (ws' := [(o, .inr (5, [.int (iI 0), .int (iI z), .int (iI lv), .ref qT, .ref qC, .ref qF, .ref qY, .ref qZ, .ref qu, .ref qv, .ref qw, .ref qg, .ref qh, .ref qx, .ref qc, .ref qa, .ref qb, .ref qd, .int (iI fm), .ref qp, .ref qq])), (qC, eI t.1 14400 F), (qx, eL t.2.1 54 u1X)]) [1, 0, 2] (by decide) rfl) hS (lv_sub hl [3, 0, 4, 5, 6, 7, 8, 9, 10, 11, 12, 13] rfl)
                  · refine lv_aload_n hC.1 hC.2.1 d_Mo_steps_131 rfl (lv_at hl 8 rfl) ?_
                    refine lv_iload hC.1 hC.2.1 d_Mo_steps_132 (lv_at hl 12 rfl) ?_
                    refine z_i2l hC d_Mo_steps_134 (by omega) ?_
                    refine z_ldc2 hC k_575 d_Mo_steps_135 ?_
                    refine lv_lload hC.1 hC.2.1 d_Mo_steps_138 (lv_at hl 6 rfl) ?_
                    refine z_lmul hC d_Mo_steps_140 ?_
                    refine z_topl (z := 2 * F (4 * c + 12 * n)) (by omega) ?_
                    refine lv_lload hC.1 hC.2.1 d_Mo_steps_141 (lv_at hl 5 rfl) ?_
                    refine z_lsub hC d_Mo_steps_143 ?_
                    refine z_topl (z := -F (4 * c + 12 * n + 1) + 2 * F (4 * c + 12 * n)) (by omega) ?_
                    refine z_lmul hC d_Mo_steps_144 ?_
                    refine z_ldc2 hC k_575 d_Mo_steps_145 ?_
                    refine lv_lload hC.1 hC.2.1 d_Mo_steps_148 (lv_at hl 0 rfl) ?_
                    refine z_lmul hC d_Mo_steps_150 ?_
                    refine z_lconst (v := 1) hC d_Mo_steps_151 (by decide) ?_
                    refine z_lsub hC d_Mo_steps_152 ?_
                    refine z_topl (z := 2 * tt - 1) (by omega) ?_
                    refine z_lsub hC d_Mo_steps_153 ?_
                    refine z_topl (z := (len * (-F (4 * c + 12 * n + 1) + 2 * F (4 * c + 12 * n))) - 2 * tt + 1) (by omega) ?_
                    refine lv_iload hC.1 hC.2.1 d_Mo_steps_154 (lv_at hl 12 rfl) ?_
                    refine z_i2l hC d_Mo_steps_156 (by omega) ?_
                    refine lv_lload hC.1 hC.2.1 d_Mo_steps_157 (lv_at hl 5 rfl) ?_
                    refine lv_lload hC.1 hC.2.1 d_Mo_steps_159 (lv_at hl 4 rfl) ?_
                    refine z_lsub hC d_Mo_steps_161 ?_
                    refine z_topl (z := F (4 * c + 12 * n + 1) - F (4 * c + 12 * n + 2)) (by omega) ?_
                    refine lv_lload hC.1 hC.2.1 d_Mo_steps_162 (lv_at hl 3 rfl) ?_
                    refine z_lsub hC d_Mo_steps_164 ?_
                    refine z_topl (z := F (4 * c + 12 * n + 1) - F (4 * c + 12 * n + 2) - F (4 * c + 12 * n + 3)) (by omega) ?_
                    refine z_lmul hC d_Mo_steps_165 ?_
                    refine z_mVi (As := [.long (lI ((len * (-F (4 * c + 12 * n + 1) + 2 * F (4 * c + 12 * n))) - 2 * tt + 1)), .long (lI ((len * (F (4 * c + 12 * n + 1) - F (4 * c + 12 * n + 2) - F (4 * c + 12 * n + 3)))))]) (rest := []) (wr := [(qC, eI t.1 14400 F)]) hC (c_Mo_sign l D t ts o qT qC qF qY qZ qu qv qw qg qh qx qc qa qb qd qp qq 0 z lv fm Wl ((len * (-F (4 * c + 12 * n + 1) + 2 * F (4 * c + 12 * n))) - 2 * tt + 1) ((len * (F (4 * c + 12 * n + 1) - F (4 * c + 12 * n + 2) - F (4 * c + 12 * n + 3)))) (by omega) (by omega) _) (cw_V hC k_577 k_579 kp_32 k_6 k_580 ye_Mo_sign (by decide)) hP hD hK hE hS hA [0, 2] [1] (by decide) rfl rfl (by decide) (by decide) 0 (ci := 5) rfl rfl rfl rfl hl.1 rfl (Nat.le_of_ble_eq_true rfl) ⟨Nat.le_of_ble_eq_true rfl, Nat.le_of_ble_eq_true rfl⟩ d_Mo_steps_166 (fun u2 H locs eu2 hP hD hS => ?_)
                    obtain ⟨u2r, u2X⟩ := u2
                    dsimp only at eu2 hP hD ⊢
                    have hP : va_P D classes [(qC, eI t.1 14400 F), (o, .inr (5, [.int (iI 0), .int (iI z), .int (iI lv), .ref qT, .ref qC, .ref qF, .ref qY, .ref qZ, .ref qu, .ref qv, .ref qw, .ref qg, .ref qh, .ref qx, .ref qc, .ref qa, .ref qb, .ref qd, .int (iI fm), .ref qp, .ref qq])), (qx, eL t.2.1 54 u2X)] H := hP
                    have hD : va_D A [(qC, eI t.1 14400 F), (o, .inr (5, [.int (iI 0), .int (iI z), .int (iI lv), .ref qT, .ref qC, .ref qF, .ref qY, .ref qZ, .ref qu, .ref qv, .ref qw, .ref qg, .ref qh, .ref qx, .ref qc, .ref qa, .ref qb, .ref qd, .int (iI fm), .ref qp, .ref qq])), (qx, eL t.2.1 54 u2X)] := hD
                    have ru2 : -1 ≤ u2r ∧ u2r ≤ 1 := by rw [eu2]; exact sgZ_in _ _
                    refine z_if_lt (tgt := 176) hC d_Mo_steps_169 (by decide) (by omega) (fun h169 => ?_) (fun h169 => ?_)
                    · refine z_iconst hC d_Mo_steps_176 ?_
                      refine z_goto (tgt := 201) hC d_Mo_steps_177 (by decide) ?_
                      have hR : mtR F (4 * c + 12 * n) ax len tt = false := by unfold mtR; rw [if_pos (by omega)]; have q : u2r = sgZ (len * (-F (4 * c + 12 * n + 1) + 2 * F (4 * c + 12 * n)) - (2 * tt - 1)) (len * (F (4 * c + 12 * n + 1) - F (4 * c + 12 * n + 2) - F (4 * c + 12 * n + 3))) := (Eq.trans eu2 (by congr 1 <;> omega)); rw [← q]; simp; omega
                      refine lv_istore (lv' := [(20, .int (iI 0)), (18, .long (lI tt)), (16, .long (lI high)), (14, .long (lI low)), (12, .long (lI (F (4 * c + 12 * n + 3)))), (10, .long (lI (F (4 * c + 12 * n + 2)))), (8, .long (lI (F (4 * c + 12 * n + 1)))), (6, .long (lI (F (4 * c + 12 * n)))), (5, .int (iI (4 * c + 12 * n))), (0, .ref o), (1, .int (iI n)), (2, .int (iI c)), (3, .int (iI ax)), (4, .int (iI len))]) hC.1 hC.2.1 d_Mo_steps_201 hl (by decide) rfl (fun ls hl => ?_)
                      refine lv_iload hC.1 hC.2.1 d_Mo_steps_203 (lv_at hl 0 rfl) ?_
                      refine z_if_eq (tgt := 215) hC d_Mo_steps_205 (by decide) (by decide) (fun _ => ?_) (fun h => absurd h (by decide))
                      refine lv_lload hC.1 hC.2.1 d_Mo_steps_215 (lv_at hl 1 rfl) ?_
                      refine z_lconst (v := 1) hC d_Mo_steps_217 (by decide) ?_
                      refine z_lsub hC d_Mo_steps_218 ?_
                      refine lv_lstore (lv' := [(16, .long (lI (tt - 1))), (20, .int (iI 0)), (18, .long (lI tt)), (14, .long (lI low)), (12, .long (lI (F (4 * c + 12 * n + 3)))), (10, .long (lI (F (4 * c + 12 * n + 2)))), (8, .long (lI (F (4 * c + 12 * n + 1)))), (6, .long (lI (F (4 * c + 12 * n)))), (5, .int (iI (4 * c + 12 * n))), (0, .ref o), (1, .int (iI n)), (2, .int (iI c)), (3, .int (iI ax)), (4, .int (iI len))]) hC.1 hC.2.1 d_Mo_steps_219 hl (by decide) rfl (fun ls hl => ?_)
                      refine z_goto (tgt := 103) hC d_Mo_steps_221 (by decide) ?_
                      exact ih103 u2X low (tt - 1) _ _ _ (by omega) (by omega) hlo (Or.inr (by rw [show tt - 1 + 1 = tt by omega, hR])) (hP.sub (ws' := [(o, .inr (5, [.int (iI 0), .int (iI z), .int (iI lv), .ref qT, .ref qC, .ref qF, .ref qY, .ref qZ, .ref qu, .ref qv, .ref qw, .ref qg, .ref qh, .ref qx, .ref qc, .ref qa, .ref qb, .ref qd, .int (iI fm), .ref qp, .ref qq])), (qC, eI t.1 14400 F), (qx, eL t.2.1 54 u2X)]) [1, 0, 2] rfl) (hD.sub (ws' := [(o, .inr (5, [.int (iI 0), .int (iI z), .int (iI lv), .ref qT, .ref qC, .ref qF, .ref qY, .ref qZ, .ref qu, .ref qv, .ref qw, .ref qg, .ref qh, .ref qx, .ref qc, .ref qa, .ref qb, .ref qd, .int (iI fm), .ref qp, .ref qq])), (qC, eI t.1 14400 F), (qx, eL t.2.1 54 u2X)]) [1, 0, 2] (by decide) rfl) hS (lv_sub hl [0, 3, 4, 5, 6, 7, 8, 9, 10, 11, 12, 13] rfl)
                    · refine z_iconst hC d_Mo_steps_172 ?_
                      refine z_goto (tgt := 201) hC d_Mo_steps_173 (by decide) ?_
                      have hR : mtR F (4 * c + 12 * n) ax len tt = true := by unfold mtR; rw [if_pos (by omega)]; have q : u2r = sgZ (len * (-F (4 * c + 12 * n + 1) + 2 * F (4 * c + 12 * n)) - (2 * tt - 1)) (len * (F (4 * c + 12 * n + 1) - F (4 * c + 12 * n + 2) - F (4 * c + 12 * n + 3))) := (Eq.trans eu2 (by congr 1 <;> omega)); rw [← q]; simp; omega
                      refine lv_istore (lv' := [(20, .int (iI 1)), (18, .long (lI tt)), (16, .long (lI high)), (14, .long (lI low)), (12, .long (lI (F (4 * c + 12 * n + 3)))), (10, .long (lI (F (4 * c + 12 * n + 2)))), (8, .long (lI (F (4 * c + 12 * n + 1)))), (6, .long (lI (F (4 * c + 12 * n)))), (5, .int (iI (4 * c + 12 * n))), (0, .ref o), (1, .int (iI n)), (2, .int (iI c)), (3, .int (iI ax)), (4, .int (iI len))]) hC.1 hC.2.1 d_Mo_steps_201 hl (by decide) rfl (fun ls hl => ?_)
                      refine lv_iload hC.1 hC.2.1 d_Mo_steps_203 (lv_at hl 0 rfl) ?_
                      refine z_if_eq (tgt := 215) hC d_Mo_steps_205 (by decide) (by decide) (fun h => absurd h (by decide)) (fun _ => ?_)
                      refine lv_lload hC.1 hC.2.1 d_Mo_steps_208 (lv_at hl 1 rfl) ?_
                      refine lv_lstore (lv' := [(14, .long (lI tt)), (20, .int (iI 1)), (18, .long (lI tt)), (16, .long (lI high)), (12, .long (lI (F (4 * c + 12 * n + 3)))), (10, .long (lI (F (4 * c + 12 * n + 2)))), (8, .long (lI (F (4 * c + 12 * n + 1)))), (6, .long (lI (F (4 * c + 12 * n)))), (5, .int (iI (4 * c + 12 * n))), (0, .ref o), (1, .int (iI n)), (2, .int (iI c)), (3, .int (iI ax)), (4, .int (iI len))]) hC.1 hC.2.1 d_Mo_steps_210 hl (by decide) rfl (fun ls hl => ?_)
                      refine z_goto (tgt := 221) hC d_Mo_steps_212 (by decide) ?_
                      refine z_goto (tgt := 103) hC d_Mo_steps_221 (by decide) ?_
                      exact ih103 u2X tt high _ _ _ (by omega) (by omega) (Or.inr (by rw [hR])) hhi (hP.sub (ws' := [(o, .inr (5, [.int (iI 0), .int (iI z), .int (iI lv), .ref qT, .ref qC, .ref qF, .ref qY, .ref qZ, .ref qu, .ref qv, .ref qw, .ref qg, .ref qh, .ref qx, .ref qc, .ref qa, .ref qb, .ref qd, .int (iI fm), .ref qp, .ref qq])), (qC, eI t.1 14400 F), (qx, eL t.2.1 54 u2X)]) [1, 0, 2] rfl) (hD.sub (ws' := [(o, .inr (5, [.int (iI 0), .int (iI z), .int (iI lv), .ref qT, .ref qC, .ref qF, .ref qY, .ref qZ, .ref qu, .ref qv, .ref qw, .ref qg, .ref qh, .ref qx, .ref qc, .ref qa, .ref qb, .ref qd, .int (iI fm), .ref qp, .ref qq])), (qC, eI t.1 14400 F), (qx, eL t.2.1 54 u2X)]) [1, 0, 2] (by decide) rfl) hS (lv_sub hl [3, 0, 4, 5, 6, 7, 8, 9, 10, 11, 12, 13] rfl)
            exact L103 (100000000000000 - (-100000000000000) + 1 : Int).toNat Wd (-100000000000000) 100000000000000 _ _ _ (by omega) (by omega) (Or.inl rfl) (Or.inl rfl) hP hD hS (lv_sub hl [0, 1, 2, 3, 4, 5, 6, 7, 8, 9, 10, 11] rfl)
          · refine z_lconst (v := 0) hC d_Mo_steps_37 (by decide) ?_
            have hP9 := hP.sub (ws' := [(o, .inr (5, [.int (iI 0), .int (iI z), .int (iI lv), .ref qT, .ref qC, .ref qF, .ref qY, .ref qZ, .ref qu, .ref qv, .ref qw, .ref qg, .ref qh, .ref qx, .ref qc, .ref qa, .ref qb, .ref qd, .int (iI fm), .ref qp, .ref qq])), (qC, eI t.1 14400 F), (qx, eL t.2.1 54 Wd)]) [0, 1, 2] rfl
            have hD9 := hD.sub (ws' := [(o, .inr (5, [.int (iI 0), .int (iI z), .int (iI lv), .ref qT, .ref qC, .ref qF, .ref qY, .ref qZ, .ref qu, .ref qv, .ref qw, .ref qg, .ref qh, .ref qx, .ref qc, .ref qa, .ref qb, .ref qd, .int (iI fm), .ref qp, .ref qq])), (qC, eI t.1 14400 F), (qx, eL t.2.1 54 Wd)]) [0, 1, 2] (by decide) rfl
            exact retv (0, Wd) _ _ 38 _ _ d_Mo_steps_38 ⟨rfl, Or.inl ⟨by omega, rfl⟩⟩ hP9 hD9 hS
