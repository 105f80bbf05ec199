theorem ye_Po_runsMeet : ye y_Po_runsMeet R_Po 6 := by unfold ye; decide +kernel
abbrev rm_Po_runsMeet : Room := { frames := 1, cells := 0, slots := 0, locals := 23 }
set_option maxHeartbeats 4000000 in
set_option maxRecDepth 100000 in
theorem c_Po_runsMeet (l : Launch) (D : va_G) (t : vt) (ts : Nat → Nat) (x : Int) (hx : 0 ≤ x ∧ x < 5) (a n : Nat) (F : Int → Int) (p q r s : Int) (hn : (n : Int) ≤ 2147483647) (hp : 0 ≤ p ∧ p + 3 < n) (hq : 0 ≤ q ∧ q + 3 < n) (hr : 0 ≤ r ∧ r + 3 < n) (hs : 0 ≤ s ∧ s + 3 < n) (hF : bF F) : Met l y_Po_runsMeet (.code y_Po_runsMeet b_Po_runsMeet 14 (some .boolean) :: tb_ws) rm_Po_runsMeet (RoP D t ts [.int (iI x), .ref a, .int (iI p), .int (iI q), .int (iI r), .int (iI s)] [(a, eI t.1 n F)]) (vp_Si (fun zr => zr = iI (zB (rmZ x F p q r s)))) 0 0 (fun _ => False) := by
  refine ro_z (by decide +kernel) (Nat.le_of_ble_eq_true rfl) ?_
  intro zp ze zs zm zb zt zc zQ ls hC hP hK hE hl ret
  have hS : va_S (fun _ => False) zs.heap zs.heap [] := va_S.rf
  have hl : lv_has ls 14 [(0, .int (iI x)), (1, .ref a), (2, .int (iI p)), (3, .int (iI q)), (4, .int (iI r)), (5, .int (iI s))] := hl
  have ret1 : ∀ (pc : Nat) (ls : Array Slot), decode b_Po_runsMeet pc = .ok (.ireturn, 1) → (rmZ x F p q r s) = true → W zp l ze rm_Po_runsMeet zs zm [.int (iI x), .ref a, .int (iI p), .int (iI q), .int (iI r), .int (iI s)].toArray zb zt zc zs.heap [] 0 0 zQ (F0 zm pc ls [.int (iI 1)]) := fun pc ls d h => by have r := ret pc ls d; rw [h] at r; exact r
  have ret0 : ∀ (pc : Nat) (ls : Array Slot), decode b_Po_runsMeet pc = .ok (.ireturn, 1) → (rmZ x F p q r s) = false → W zp l ze rm_Po_runsMeet zs zm [.int (iI x), .ref a, .int (iI p), .int (iI q), .int (iI r), .int (iI s)].toArray zb zt zc zs.heap [] 0 0 zQ (F0 zm pc ls [.int (iI 0)]) := fun pc ls d h => by have r := ret pc ls d; rw [h] at r; exact r
  have retb : ∀ (pc : Nat) (ls : Array Slot), decode b_Po_runsMeet pc = .ok (.ireturn, 1) → ∀ zv : Bool, zv = (rmZ x F p q r s) → W zp l ze rm_Po_runsMeet zs zm [.int (iI x), .ref a, .int (iI p), .int (iI q), .int (iI r), .int (iI s)].toArray zb zt zc zs.heap [] 0 0 zQ (F0 zm pc ls [.int (iI (zB zv))]) := fun pc ls d b h => by rw [h]; exact ret pc ls d
  refine lv_iload_n hC.1 hC.2.1 d_Po_runsMeet_0 rfl (lv_at hl 0 rfl) ?_
  refine lv_aload_n hC.1 hC.2.1 d_Po_runsMeet_1 rfl (lv_at hl 1 rfl) ?_
  refine lv_iload_n hC.1 hC.2.1 d_Po_runsMeet_2 rfl (lv_at hl 2 rfl) ?_
  refine z_roSl (As := [.int (iI x), .ref a, .int (iI p)]) (rest := []) hC (c_Po_height l D t ts x a n F p (by omega) (by omega) (by omega) hF) (cw_S hC k_226 k_157 k_8 k_158 ye_Po_height (by decide)) hP hK hE hS [0] rfl rfl hl.1 rfl (Nat.le_of_ble_eq_true rfl) ⟨Nat.le_of_ble_eq_true rfl, Nat.le_of_ble_eq_true rfl⟩ d_Po_runsMeet_3 ?_
  refine lv_lstore (lv' := [(6, .long (lI (hZ x F p))), (0, .int (iI x)), (1, .ref a), (2, .int (iI p)), (3, .int (iI q)), (4, .int (iI r)), (5, .int (iI s))]) hC.1 hC.2.1 d_Po_runsMeet_6 hl (by decide) rfl (fun ls hl => ?_)
  refine lv_iload_n hC.1 hC.2.1 d_Po_runsMeet_8 rfl (lv_at hl 1 rfl) ?_
  refine lv_aload_n hC.1 hC.2.1 d_Po_runsMeet_9 rfl (lv_at hl 2 rfl) ?_
  refine lv_iload_n hC.1 hC.2.1 d_Po_runsMeet_10 rfl (lv_at hl 4 rfl) ?_
  refine z_roSl (As := [.int (iI x), .ref a, .int (iI q)]) (rest := []) hC (c_Po_height l D t ts x a n F q (by omega) (by omega) (by omega) hF) (cw_S hC k_226 k_157 k_8 k_158 ye_Po_height (by decide)) hP hK hE hS [0] rfl rfl hl.1 rfl (Nat.le_of_ble_eq_true rfl) ⟨Nat.le_of_ble_eq_true rfl, Nat.le_of_ble_eq_true rfl⟩ d_Po_runsMeet_11 ?_
  refine lv_lstore (lv' := [(8, .long (lI (hZ x F q))), (6, .long (lI (hZ x F p))), (0, .int (iI x)), (1, .ref a), (2, .int (iI p)), (3, .int (iI q)), (4, .int (iI r)), (5, .int (iI s))]) hC.1 hC.2.1 d_Po_runsMeet_14 hl (by decide) rfl (fun ls hl => ?_)
  refine lv_iload_n hC.1 hC.2.1 d_Po_runsMeet_16 rfl (lv_at hl 2 rfl) ?_
  refine lv_aload_n hC.1 hC.2.1 d_Po_runsMeet_17 rfl (lv_at hl 3 rfl) ?_
  refine lv_iload hC.1 hC.2.1 d_Po_runsMeet_18 (lv_at hl 6 rfl) ?_
  refine z_roSl (As := [.int (iI x), .ref a, .int (iI r)]) (rest := []) hC (c_Po_height l D t ts x a n F r (by omega) (by omega) (by omega) hF) (cw_S hC k_226 k_157 k_8 k_158 ye_Po_height (by decide)) hP hK hE hS [0] rfl rfl hl.1 rfl (Nat.le_of_ble_eq_true rfl) ⟨Nat.le_of_ble_eq_true rfl, Nat.le_of_ble_eq_true rfl⟩ d_Po_runsMeet_20 ?_
  refine lv_lstore (lv' := [(10, .long (lI (hZ x F r))), (8, .long (lI (hZ x F q))), (6, .long (lI (hZ x F p))), (0, .int (iI x)), (1, .ref a), (2, .int (iI p)), (3, .int (iI q)), (4, .int (iI r)), (5, .int (iI s))]) hC.1 hC.2.1 d_Po_runsMeet_23 hl (by decide) rfl (fun ls hl => ?_)
  refine lv_iload_n hC.1 hC.2.1 d_Po_runsMeet_25 rfl (lv_at hl 3 rfl) ?_
  refine lv_aload_n hC.1 hC.2.1 d_Po_runsMeet_26 rfl (lv_at hl 4 rfl) ?_
  refine lv_iload hC.1 hC.2.1 d_Po_runsMeet_27 (lv_at hl 8 rfl) ?_
  refine z_roSl (As := [.int (iI x), .ref a, .int (iI s)]) (rest := []) hC (c_Po_height l D t ts x a n F s (by omega) (by omega) (by omega) hF) (cw_S hC k_226 k_157 k_8 k_158 ye_Po_height (by decide)) hP hK hE hS [0] rfl rfl hl.1 rfl (Nat.le_of_ble_eq_true rfl) ⟨Nat.le_of_ble_eq_true rfl, Nat.le_of_ble_eq_true rfl⟩ d_Po_runsMeet_29 ?_
  refine lv_lstore (lv' := [(12, .long (lI (hZ x F s))), (10, .long (lI (hZ x F r))), (8, .long (lI (hZ x F q))), (6, .long (lI (hZ x F p))), (0, .int (iI x)), (1, .ref a), (2, .int (iI p)), (3, .int (iI q)), (4, .int (iI r)), (5, .int (iI s))]) hC.1 hC.2.1 d_Po_runsMeet_32 hl (by decide) rfl (fun ls hl => ?_)
  refine lv_lload hC.1 hC.2.1 d_Po_runsMeet_34 (lv_at hl 3 rfl) ?_
  refine lv_lload hC.1 hC.2.1 d_Po_runsMeet_36 (lv_at hl 2 rfl) ?_
  refine z_lmin hC k_230 hl.1 (by decide) (Nat.le_of_ble_eq_true rfl) ⟨Nat.le_of_ble_eq_true rfl, Nat.le_of_ble_eq_true rfl⟩ (by have := hZ_in hF x p; omega) (by have := hZ_in hF x q; omega) d_Po_runsMeet_38 ?_
  refine lv_lload hC.1 hC.2.1 d_Po_runsMeet_41 (lv_at hl 1 rfl) ?_
  refine lv_lload hC.1 hC.2.1 d_Po_runsMeet_43 (lv_at hl 0 rfl) ?_
  refine z_lmax hC k_231 hl.1 (by decide) (Nat.le_of_ble_eq_true rfl) ⟨Nat.le_of_ble_eq_true rfl, Nat.le_of_ble_eq_true rfl⟩ (by have := hZ_in hF x r; omega) (by have := hZ_in hF x s; omega) d_Po_runsMeet_45 ?_
  refine z_lcmp_ge (tgt := 74) hC d_Po_runsMeet_48 d_Po_runsMeet_49 (by decide) (by have := hZ_in hF x p; have := hZ_in hF x q; omega) (by have := hZ_in hF x r; have := hZ_in hF x s; omega) (fun h48 => ?_) (fun h48 => ?_)
  · refine z_iconst hC d_Po_runsMeet_74 ?_
    exact ret0 75 _ d_Po_runsMeet_75 (by unfold rmZ; simp; omega)
  · refine lv_lload hC.1 hC.2.1 d_Po_runsMeet_52 (lv_at hl 1 rfl) ?_
    refine lv_lload hC.1 hC.2.1 d_Po_runsMeet_54 (lv_at hl 0 rfl) ?_
    refine z_lmin hC k_230 hl.1 (by decide) (Nat.le_of_ble_eq_true rfl) ⟨Nat.le_of_ble_eq_true rfl, Nat.le_of_ble_eq_true rfl⟩ (by have := hZ_in hF x r; omega) (by have := hZ_in hF x s; omega) d_Po_runsMeet_56 ?_
    refine lv_lload hC.1 hC.2.1 d_Po_runsMeet_59 (lv_at hl 3 rfl) ?_
    refine lv_lload hC.1 hC.2.1 d_Po_runsMeet_61 (lv_at hl 2 rfl) ?_
    refine z_lmax hC k_231 hl.1 (by decide) (Nat.le_of_ble_eq_true rfl) ⟨Nat.le_of_ble_eq_true rfl, Nat.le_of_ble_eq_true rfl⟩ (by have := hZ_in hF x p; omega) (by have := hZ_in hF x q; omega) d_Po_runsMeet_63 ?_
    refine z_lcmp_ge (tgt := 74) hC d_Po_runsMeet_66 d_Po_runsMeet_67 (by decide) (by have := hZ_in hF x r; have := hZ_in hF x s; omega) (by have := hZ_in hF x p; have := hZ_in hF x q; omega) (fun h66 => ?_) (fun h66 => ?_)
    · refine z_iconst hC d_Po_runsMeet_74 ?_
      exact ret0 75 _ d_Po_runsMeet_75 (by unfold rmZ; simp; omega)
    · refine z_iconst hC d_Po_runsMeet_70 ?_
      refine z_goto (tgt := 75) hC d_Po_runsMeet_71 (by decide) ?_
      exact ret1 75 _ d_Po_runsMeet_75 (by unfold rmZ; simp; omega)
theorem ye_Po_piecesShare : ye y_Po_piecesShare R_Po 5 := by unfold ye; decide +kernel
abbrev rm_Po_piecesShare : Room := { frames := 2, cells := 0, slots := 0, locals := 56 }
set_option maxHeartbeats 4000000 in
set_option maxRecDepth 100000 in
theorem c_Po_piecesShare (l : Launch) (D : va_G) (t : vt) (ts : Nat → Nat) (a n : Nat) (F : Int → Int) (p q r s : Int) (hn : (n : Int) ≤ 2147483647) (hp : 0 ≤ p ∧ p + 3 < n) (hq : 0 ≤ q ∧ q + 3 < n) (hr : 0 ≤ r ∧ r + 3 < n) (hs : 0 ≤ s ∧ s + 3 < n) (hF : bF F) : Met l y_Po_piecesShare (.code y_Po_piecesShare b_Po_piecesShare 8 (some .boolean) :: tb_ws) rm_Po_piecesShare (RoP D t ts [.ref a, .int (iI p), .int (iI q), .int (iI r), .int (iI s)] [(a, eI t.1 n F)]) (vp_Si (fun zr => zr = iI (zB (pshZ F p q r s)))) 0 0 (fun _ => False) := by
  refine ro_z (by decide +kernel) (Nat.le_of_ble_eq_true rfl) ?_
  intro zp ze zs zm zb zt zc zQ ls hC hP hK hE hl ret
  have hS : va_S (fun _ => False) zs.heap zs.heap [] := va_S.rf
  have hl : lv_has ls 8 [(0, .ref a), (1, .int (iI p)), (2, .int (iI q)), (3, .int (iI r)), (4, .int (iI s))] := hl
  have ret1 : ∀ (pc : Nat) (ls : Array Slot), decode b_Po_piecesShare pc = .ok (.ireturn, 1) → (pshZ F p q r s) = true → W zp l ze rm_Po_piecesShare zs zm [.ref a, .int (iI p), .int (iI q), .int (iI r), .int (iI s)].toArray zb zt zc zs.heap [] 0 0 zQ (F0 zm pc ls [.int (iI 1)]) := fun pc ls d h => by have r := ret pc ls d; rw [h] at r; exact r
  have ret0 : ∀ (pc : Nat) (ls : Array Slot), decode b_Po_piecesShare pc = .ok (.ireturn, 1) → (pshZ F p q r s) = false → W zp l ze rm_Po_piecesShare zs zm [.ref a, .int (iI p), .int (iI q), .int (iI r), .int (iI s)].toArray zb zt zc zs.heap [] 0 0 zQ (F0 zm pc ls [.int (iI 0)]) := fun pc ls d h => by have r := ret pc ls d; rw [h] at r; exact r
  have retb : ∀ (pc : Nat) (ls : Array Slot), decode b_Po_piecesShare pc = .ok (.ireturn, 1) → ∀ zv : Bool, zv = (pshZ F p q r s) → W zp l ze rm_Po_piecesShare zs zm [.ref a, .int (iI p), .int (iI q), .int (iI r), .int (iI s)].toArray zb zt zc zs.heap [] 0 0 zQ (F0 zm pc ls [.int (iI (zB zv))]) := fun pc ls d b h => by rw [h]; exact ret pc ls d
  refine z_iconst hC d_Po_piecesShare_0 ?_
  refine lv_istore (lv' := [(5, .int (iI 0)), (0, .ref a), (1, .int (iI p)), (2, .int (iI q)), (3, .int (iI r)), (4, .int (iI s))]) hC.1 hC.2.1 d_Po_piecesShare_1 hl (by decide) rfl (fun ls hl => ?_)
  have L3 : ∀ (fu : Nat) (k : Int) (ls : Array Slot), 5 - k + 1 ≤ (fu : Int) → (0 ≤ k ∧ k ≤ 5) → (∀ j, 0 ≤ j → j < k → lnf F p q j = false) → lv_has ls 8 [(5, .int (iI k)), (0, .ref a), (1, .int (iI p)), (2, .int (iI q)), (3, .int (iI r)), (4, .int (iI s))] → W zp l ze rm_Po_piecesShare zs zm [.ref a, .int (iI p), .int (iI q), .int (iI r), .int (iI s)].toArray zb zt zc zs.heap [] 0 0 zQ (F0 zm 3 ls []) := by
    intro fu
    induction fu with
    | zero =>
      intro k ls hm3 hk hi hl
      exact absurd hm3 (by omega)
    | succ fu ih3 =>
      intro k ls hm3 hk hi hl
      refine lv_iload hC.1 hC.2.1 d_Po_piecesShare_3 (lv_at hl 0 rfl) ?_
      refine z_iconst hC d_Po_piecesShare_5 ?_
      refine z_icmp_ge (tgt := 88) hC d_Po_piecesShare_6 (by decide) (by omega) (by decide) (fun h6 => ?_) (fun h6 => ?_)
      · refine z_iconst hC d_Po_piecesShare_88 ?_
        exact ret0 89 _ d_Po_piecesShare_89 (by unfold pshZ; rw [fstZ_none (fun j h1 h2 => hi j h1 (by omega)), if_pos rfl])
      · refine lv_iload hC.1 hC.2.1 d_Po_piecesShare_9 (lv_at hl 0 rfl) ?_
        refine lv_aload_n hC.1 hC.2.1 d_Po_piecesShare_11 rfl (lv_at hl 1 rfl) ?_
        refine lv_iload_n hC.1 hC.2.1 d_Po_piecesShare_12 rfl (lv_at hl 2 rfl) ?_
        refine z_roSl (As := [.int (iI k), .ref a, .int (iI p)]) (rest := []) hC (c_Po_height l D t ts k a n F p (by omega) (by omega) (by omega) hF) (cw_S hC k_226 k_157 k_8 k_158 ye_Po_height (by decide)) hP hK hE hS [0] rfl rfl hl.1 rfl (Nat.le_of_ble_eq_true rfl) ⟨Nat.le_of_ble_eq_true rfl, Nat.le_of_ble_eq_true rfl⟩ d_Po_piecesShare_13 ?_
        refine lv_lstore (lv' := [(6, .long (lI (hZ k F p))), (5, .int (iI k)), (0, .ref a), (1, .int (iI p)), (2, .int (iI q)), (3, .int (iI r)), (4, .int (iI s))]) hC.1 hC.2.1 d_Po_piecesShare_16 hl (by decide) rfl (fun ls hl => ?_)
        refine lv_lload hC.1 hC.2.1 d_Po_piecesShare_18 (lv_at hl 0 rfl) ?_
        refine lv_iload hC.1 hC.2.1 d_Po_piecesShare_20 (lv_at hl 1 rfl) ?_
        refine lv_aload_n hC.1 hC.2.1 d_Po_piecesShare_22 rfl (lv_at hl 2 rfl) ?_
        refine lv_iload_n hC.1 hC.2.1 d_Po_piecesShare_23 rfl (lv_at hl 4 rfl) ?_
        refine z_roSl (As := [.int (iI k), .ref a, .int (iI q)]) (rest := [.long (lI (hZ k F p))]) hC (c_Po_height l D t ts k a n F q (by omega) (by omega) (by omega) hF) (cw_S hC k_226 k_157 k_8 k_158 ye_Po_height (by decide)) hP hK hE hS [0] rfl rfl hl.1 rfl (Nat.le_of_ble_eq_true rfl) ⟨Nat.le_of_ble_eq_true rfl, Nat.le_of_ble_eq_true rfl⟩ d_Po_piecesShare_24 ?_
        refine z_lcmp_ne (tgt := 82) hC d_Po_piecesShare_27 d_Po_piecesShare_28 (by decide) (by have := hZ_in hF k p; omega) (by have := hZ_in hF k q; omega) (fun h27 => ?_) (fun h27 => ?_)
        · refine lv_iinc (v := iI (k + 1)) (lv' := [(5, .int (iI (k + 1))), (6, .long (lI (hZ k F p))), (0, .ref a), (1, .int (iI p)), (2, .int (iI q)), (3, .int (iI r)), (4, .int (iI s))]) hC.1 hC.2.1 d_Po_piecesShare_82 hl (k := 1) rfl (z_inc (by omega)) (by decide) rfl (fun ls hl => ?_)
          refine z_goto (tgt := 3) hC d_Po_piecesShare_85 (by decide) ?_
          exact ih3 (k + 1) _ (by omega) (by omega) (stepF hi (by unfold lnf; simp; omega)) (lv_sub hl [0, 2, 3, 4, 5, 6] rfl)
        · refine lv_lload hC.1 hC.2.1 d_Po_piecesShare_31 (lv_at hl 0 rfl) ?_
          refine lv_iload hC.1 hC.2.1 d_Po_piecesShare_33 (lv_at hl 1 rfl) ?_
          refine lv_aload_n hC.1 hC.2.1 d_Po_piecesShare_35 rfl (lv_at hl 2 rfl) ?_
          refine lv_iload_n hC.1 hC.2.1 d_Po_piecesShare_36 rfl (lv_at hl 5 rfl) ?_
          refine z_roSl (As := [.int (iI k), .ref a, .int (iI r)]) (rest := [.long (lI (hZ k F p))]) hC (c_Po_height l D t ts k a n F r (by omega) (by omega) (by omega) hF) (cw_S hC k_226 k_157 k_8 k_158 ye_Po_height (by decide)) hP hK hE hS [0] rfl rfl hl.1 rfl (Nat.le_of_ble_eq_true rfl) ⟨Nat.le_of_ble_eq_true rfl, Nat.le_of_ble_eq_true rfl⟩ d_Po_piecesShare_37 ?_
          refine z_lcmp_ne (tgt := 80) hC d_Po_piecesShare_40 d_Po_piecesShare_41 (by decide) (by have := hZ_in hF k p; omega) (by have := hZ_in hF k r; omega) (fun h40 => ?_) (fun h40 => ?_)
          · refine z_iconst hC d_Po_piecesShare_80 ?_
            exact ret0 81 _ d_Po_piecesShare_81 (by unfold pshZ; rw [fstZ_at (k := k) (by omega) (by omega) hi (by unfold lnf; simp; omega), if_neg (by omega)]; unfold pshA; simp; first | exact ⟨⟨by omega, by omega⟩, by assumption⟩ | (intros; omega) | (intros; assumption))
          · refine lv_lload hC.1 hC.2.1 d_Po_piecesShare_44 (lv_at hl 0 rfl) ?_
            refine lv_iload hC.1 hC.2.1 d_Po_piecesShare_46 (lv_at hl 1 rfl) ?_
            refine lv_aload_n hC.1 hC.2.1 d_Po_piecesShare_48 rfl (lv_at hl 2 rfl) ?_
            refine lv_iload hC.1 hC.2.1 d_Po_piecesShare_49 (lv_at hl 6 rfl) ?_
            refine z_roSl (As := [.int (iI k), .ref a, .int (iI s)]) (rest := [.long (lI (hZ k F p))]) hC (c_Po_height l D t ts k a n F s (by omega) (by omega) (by omega) hF) (cw_S hC k_226 k_157 k_8 k_158 ye_Po_height (by decide)) hP hK hE hS [0] rfl rfl hl.1 rfl (Nat.le_of_ble_eq_true rfl) ⟨Nat.le_of_ble_eq_true rfl, Nat.le_of_ble_eq_true rfl⟩ d_Po_piecesShare_51 ?_
            refine z_lcmp_ne (tgt := 80) hC d_Po_piecesShare_54 d_Po_piecesShare_55 (by decide) (by have := hZ_in hF k p; omega) (by have := hZ_in hF k s; omega) (fun h54 => ?_) (fun h54 => ?_)
            · refine z_iconst hC d_Po_piecesShare_80 ?_
              exact ret0 81 _ d_Po_piecesShare_81 (by unfold pshZ; rw [fstZ_at (k := k) (by omega) (by omega) hi (by unfold lnf; simp; omega), if_neg (by omega)]; unfold pshA; simp; first | exact ⟨⟨by omega, by omega⟩, by assumption⟩ | (intros; omega) | (intros; assumption))
            · refine lv_iload hC.1 hC.2.1 d_Po_piecesShare_58 (lv_at hl 1 rfl) ?_
              refine z_iconst hC d_Po_piecesShare_60 ?_
              refine z_iadd hC d_Po_piecesShare_61 ?_
              refine z_iconst hC d_Po_piecesShare_62 ?_
              refine z_irem hC d_Po_piecesShare_63 (by omega) (by omega) ?_
              refine lv_aload_n hC.1 hC.2.1 d_Po_piecesShare_64 rfl (lv_at hl 2 rfl) ?_
              refine lv_iload_n hC.1 hC.2.1 d_Po_piecesShare_65 rfl (lv_at hl 3 rfl) ?_
              refine lv_iload_n hC.1 hC.2.1 d_Po_piecesShare_66 rfl (lv_at hl 4 rfl) ?_
              refine lv_iload_n hC.1 hC.2.1 d_Po_piecesShare_67 rfl (lv_at hl 5 rfl) ?_
              refine lv_iload hC.1 hC.2.1 d_Po_piecesShare_68 (lv_at hl 6 rfl) ?_
              refine z_roSi (As := [.int (iI (((k + 1) % 5))), .ref a, .int (iI p), .int (iI q), .int (iI r), .int (iI s)]) (rest := []) hC (c_Po_runsMeet l D t ts (((k + 1) % 5)) (by omega) a n F p q r s (by omega) (by omega) (by omega) (by omega) (by omega) hF) (cw_S hC k_227 k_228 k_8 k_229 ye_Po_runsMeet (by decide)) hP hK hE hS [0] rfl rfl hl.1 rfl (Nat.le_of_ble_eq_true rfl) ⟨Nat.le_of_ble_eq_true rfl, Nat.le_of_ble_eq_true rfl⟩ d_Po_piecesShare_70 ?_
              refine z_if_eqB (tgt := 80) hC d_Po_piecesShare_73 (by decide) (fun h73 => ?_) (fun h73 => ?_)
              · refine z_iconst hC d_Po_piecesShare_80 ?_
                exact ret0 81 _ d_Po_piecesShare_81 (by unfold pshZ; rw [fstZ_at (k := k) (by omega) (by omega) hi (by unfold lnf; simp; omega), if_neg (by omega)]; unfold pshA; simp; first | exact ⟨⟨by omega, by omega⟩, by assumption⟩ | (intros; omega) | (intros; assumption))
              · refine z_iconst hC d_Po_piecesShare_76 ?_
                refine z_goto (tgt := 81) hC d_Po_piecesShare_77 (by decide) ?_
                exact ret1 81 _ d_Po_piecesShare_81 (by unfold pshZ; rw [fstZ_at (k := k) (by omega) (by omega) hi (by unfold lnf; simp; omega), if_neg (by omega)]; unfold pshA; simp; first | exact ⟨⟨by omega, by omega⟩, by assumption⟩ | (intros; omega) | (intros; assumption))
  exact L3 (5 - 0 + 1 : Int).toNat 0 _ (by omega) (by omega) (by intro j _ _; omega) (lv_sub hl [0, 1, 2, 3, 4, 5] rfl)
theorem ye_X_disagree : ye y_X_disagree R_X 4 := by unfold ye; decide +kernel
abbrev rm_X_disagree : Room := { frames := 3, cells := 0, slots := 0, locals := 83 }
set_option maxHeartbeats 4000000 in
set_option maxRecDepth 100000 in
theorem c_X_disagree (l : Launch) (D : va_G) (t : vt) (ts : Nat → Nat) (x qs qr qw qg qu qp ql qh qt qn : Nat) (sp : Value) (lv z : Int) (Lo Hi T F : Int → Int) (hz : 0 ≤ z ∧ z ≤ 400) (hLo : bL Lo) (hHi : bL Hi) (hT : bT T) (hF : bF F) (m e n f : Int) (hm : 0 ≤ m ∧ m < 400) (he : 0 ≤ e ∧ e < 6) (hn : 0 ≤ n ∧ n < 400) (hf : 0 ≤ f ∧ f < 6) : Met l y_X_disagree (.code y_X_disagree b_X_disagree 9 (some .boolean) :: tb_ws) rm_X_disagree (RoP D t ts [.ref x, .int (iI m), .int (iI e), .int (iI n), .int (iI f)] [(x, .inr (4, [.ref qs, .ref qr, .ref qw, .ref qg, .ref qu, .ref qp, sp, .int (iI lv)])), (qs, .inr (2, [.ref ql, .ref qh])), (ql, eL t.2.1 2000 Lo), (qh, eL t.2.1 2000 Hi), (qp, .inr (0, [.ref qt, .ref qn, .int (iI z)])), (qt, eI t.1 400 T), (qn, eI t.1 4800 F)]) (vp_Si (fun zr => zr = iI (zB (disZ F m e n f)))) 0 0 (fun _ => False) := by
  refine ro_z (by decide +kernel) (Nat.le_of_ble_eq_true rfl) ?_
  intro zp ze zs zm zb zt zc zQ ls hC hP hK hE hl ret
  have hS : va_S (fun _ => False) zs.heap zs.heap [] := va_S.rf
  have hl : lv_has ls 9 [(0, .ref x), (1, .int (iI m)), (2, .int (iI e)), (3, .int (iI n)), (4, .int (iI f))] := hl
  have ret1 : ∀ (pc : Nat) (ls : Array Slot), decode b_X_disagree pc = .ok (.ireturn, 1) → (disZ F m e n f) = true → W zp l ze rm_X_disagree zs zm [.ref x, .int (iI m), .int (iI e), .int (iI n), .int (iI f)].toArray zb zt zc zs.heap [] 0 0 zQ (F0 zm pc ls [.int (iI 1)]) := fun pc ls d h => by have r := ret pc ls d; rw [h] at r; exact r
  have ret0 : ∀ (pc : Nat) (ls : Array Slot), decode b_X_disagree pc = .ok (.ireturn, 1) → (disZ F m e n f) = false → W zp l ze rm_X_disagree zs zm [.ref x, .int (iI m), .int (iI e), .int (iI n), .int (iI f)].toArray zb zt zc zs.heap [] 0 0 zQ (F0 zm pc ls [.int (iI 0)]) := fun pc ls d h => by have r := ret pc ls d; rw [h] at r; exact r
  have retb : ∀ (pc : Nat) (ls : Array Slot), decode b_X_disagree pc = .ok (.ireturn, 1) → ∀ zv : Bool, zv = (disZ F m e n f) → W zp l ze rm_X_disagree zs zm [.ref x, .int (iI m), .int (iI e), .int (iI n), .int (iI f)].toArray zb zt zc zs.heap [] 0 0 zQ (F0 zm pc ls [.int (iI (zB zv))]) := fun pc ls d b h => by rw [h]; exact ret pc ls d
  have b1 := EB_in e
  have b2 := EB_in f
  have b3 := EE_in e
  have b4 := EE_in f
  have b5 := EM_in e
  have b6 := EM_in f
  refine lv_iload_n hC.1 hC.2.1 d_X_disagree_0 rfl (lv_at hl 1 rfl) ?_
  refine z_gets hC hE.2.2.2.1 hS k_213 d_X_disagree_1 ?_
  refine lv_iload_n hC.1 hC.2.1 d_X_disagree_4 rfl (lv_at hl 2 rfl) ?_
  refine z_ti hC hE.2.2.2.2.1 hS (by omega) d_X_disagree_5 ?_
  refine z_roSi (As := [.int (iI m), .int (iI (z_EDGE_BEGINS e))]) (rest := []) hC (c_Ha_at l D t ts m (z_EDGE_BEGINS e) (12 * m + 4 * z_EDGE_BEGINS e) (by omega)) (cw_S hC k_215 k_142 k_5 k_143 ye_Ha_at (by decide)) hP hK hE hS [] rfl rfl hl.1 rfl (Nat.le_of_ble_eq_true rfl) ⟨Nat.le_of_ble_eq_true rfl, Nat.le_of_ble_eq_true rfl⟩ d_X_disagree_6 ?_
  refine lv_istore (lv' := [(5, .int (iI (12 * m + 4 * z_EDGE_BEGINS e))), (0, .ref x), (1, .int (iI m)), (2, .int (iI e)), (3, .int (iI n)), (4, .int (iI f))]) hC.1 hC.2.1 d_X_disagree_9 hl (by decide) rfl (fun ls hl => ?_)
  refine lv_iload_n hC.1 hC.2.1 d_X_disagree_11 rfl (lv_at hl 2 rfl) ?_
  refine z_gets hC hE.2.2.2.2.2.1 hS k_216 d_X_disagree_12 ?_
  refine lv_iload_n hC.1 hC.2.1 d_X_disagree_15 rfl (lv_at hl 3 rfl) ?_
  refine z_ti hC hE.2.2.2.2.2.2.1 hS (by omega) d_X_disagree_16 ?_
  refine z_roSi (As := [.int (iI m), .int (iI (z_EDGE_ENDS e))]) (rest := []) hC (c_Ha_at l D t ts m (z_EDGE_ENDS e) (12 * m + 4 * z_EDGE_ENDS e) (by omega)) (cw_S hC k_215 k_142 k_5 k_143 ye_Ha_at (by decide)) hP hK hE hS [] rfl rfl hl.1 rfl (Nat.le_of_ble_eq_true rfl) ⟨Nat.le_of_ble_eq_true rfl, Nat.le_of_ble_eq_true rfl⟩ d_X_disagree_17 ?_
  refine lv_istore (lv' := [(6, .int (iI (12 * m + 4 * z_EDGE_ENDS e))), (5, .int (iI (12 * m + 4 * z_EDGE_BEGINS e))), (0, .ref x), (1, .int (iI m)), (2, .int (iI e)), (3, .int (iI n)), (4, .int (iI f))]) hC.1 hC.2.1 d_X_disagree_20 hl (by decide) rfl (fun ls hl => ?_)
  refine lv_iload_n hC.1 hC.2.1 d_X_disagree_22 rfl (lv_at hl 5 rfl) ?_
  refine z_gets hC hE.2.2.2.1 hS k_213 d_X_disagree_23 ?_
  refine lv_iload hC.1 hC.2.1 d_X_disagree_26 (lv_at hl 6 rfl) ?_
  refine z_ti hC hE.2.2.2.2.1 hS (by omega) d_X_disagree_28 ?_
  refine z_roSi (As := [.int (iI n), .int (iI (z_EDGE_BEGINS f))]) (rest := []) hC (c_Ha_at l D t ts n (z_EDGE_BEGINS f) (12 * n + 4 * z_EDGE_BEGINS f) (by omega)) (cw_S hC k_215 k_142 k_5 k_143 ye_Ha_at (by decide)) hP hK hE hS [] rfl rfl hl.1 rfl (Nat.le_of_ble_eq_true rfl) ⟨Nat.le_of_ble_eq_true rfl, Nat.le_of_ble_eq_true rfl⟩ d_X_disagree_29 ?_
  refine lv_istore (lv' := [(7, .int (iI (12 * n + 4 * z_EDGE_BEGINS f))), (6, .int (iI (12 * m + 4 * z_EDGE_ENDS e))), (5, .int (iI (12 * m + 4 * z_EDGE_BEGINS e))), (0, .ref x), (1, .int (iI m)), (2, .int (iI e)), (3, .int (iI n)), (4, .int (iI f))]) hC.1 hC.2.1 d_X_disagree_32 hl (by decide) rfl (fun ls hl => ?_)
  refine lv_iload_n hC.1 hC.2.1 d_X_disagree_34 rfl (lv_at hl 6 rfl) ?_
  refine z_gets hC hE.2.2.2.2.2.1 hS k_216 d_X_disagree_35 ?_
  refine lv_iload hC.1 hC.2.1 d_X_disagree_38 (lv_at hl 7 rfl) ?_
  refine z_ti hC hE.2.2.2.2.2.2.1 hS (by omega) d_X_disagree_40 ?_
  refine z_roSi (As := [.int (iI n), .int (iI (z_EDGE_ENDS f))]) (rest := []) hC (c_Ha_at l D t ts n (z_EDGE_ENDS f) (12 * n + 4 * z_EDGE_ENDS f) (by omega)) (cw_S hC k_215 k_142 k_5 k_143 ye_Ha_at (by decide)) hP hK hE hS [] rfl rfl hl.1 rfl (Nat.le_of_ble_eq_true rfl) ⟨Nat.le_of_ble_eq_true rfl, Nat.le_of_ble_eq_true rfl⟩ d_X_disagree_41 ?_
  refine lv_istore (lv' := [(8, .int (iI (12 * n + 4 * z_EDGE_ENDS f))), (7, .int (iI (12 * n + 4 * z_EDGE_BEGINS f))), (6, .int (iI (12 * m + 4 * z_EDGE_ENDS e))), (5, .int (iI (12 * m + 4 * z_EDGE_BEGINS e))), (0, .ref x), (1, .int (iI m)), (2, .int (iI e)), (3, .int (iI n)), (4, .int (iI f))]) hC.1 hC.2.1 d_X_disagree_44 hl (by decide) rfl (fun ls hl => ?_)
  refine z_gets hC hE.2.2.2.2.2.2.2.1 hS k_218 d_X_disagree_46 ?_
  refine lv_iload_n hC.1 hC.2.1 d_X_disagree_49 rfl (lv_at hl 6 rfl) ?_
  refine z_ti hC hE.2.2.2.2.2.2.2.2.1 hS (by omega) d_X_disagree_50 ?_
  refine z_gets hC hE.2.2.2.2.2.2.2.1 hS k_218 d_X_disagree_51 ?_
  refine lv_iload hC.1 hC.2.1 d_X_disagree_54 (lv_at hl 8 rfl) ?_
  refine z_ti hC hE.2.2.2.2.2.2.2.2.1 hS (by omega) d_X_disagree_56 ?_
  refine z_icmp_ne (tgt := 96) hC d_X_disagree_57 (by decide) (by have := EM_in e; omega) (by have := EM_in f; omega) (fun h57 => ?_) (fun h57 => ?_)
  · refine lv_aload_n hC.1 hC.2.1 d_X_disagree_96 rfl (lv_at hl 4 rfl) ?_
    refine z_get (ci := 4) (C := R_X) (T := F_X) (N := 8) (v := .ref qp) hC in_X hK hP 0 rfl rfl 5 (by decide) k_103 rfl d_X_disagree_97 ?_
    refine z_getN (ci := 0) (C := R_Ha) (T := F_Ha) (N := 3) (v := .ref qn) hC in_Ha hK hP 4 rfl rfl 1 (by decide) hE.1.2.2.1 rfl d_X_disagree_100 ?_
    refine lv_iload hC.1 hC.2.1 d_X_disagree_103 (lv_at hl 3 rfl) ?_
    refine lv_iload hC.1 hC.2.1 d_X_disagree_105 (lv_at hl 2 rfl) ?_
    refine lv_iload hC.1 hC.2.1 d_X_disagree_107 (lv_at hl 1 rfl) ?_
    refine lv_iload hC.1 hC.2.1 d_X_disagree_109 (lv_at hl 0 rfl) ?_
    refine z_roSi (As := [.ref qn, .int (iI (12 * m + 4 * z_EDGE_BEGINS e)), .int (iI (12 * m + 4 * z_EDGE_ENDS e)), .int (iI (12 * n + 4 * z_EDGE_BEGINS f)), .int (iI (12 * n + 4 * z_EDGE_ENDS f))]) (rest := []) hC (c_Po_piecesShare l D t ts qn 4800 F (12 * m + 4 * z_EDGE_BEGINS e) (12 * m + 4 * z_EDGE_ENDS e) (12 * n + 4 * z_EDGE_BEGINS f) (12 * n + 4 * z_EDGE_ENDS f) (by decide) (by have := EB_in e; omega) (by have := EE_in e; omega) (by have := EB_in f; omega) (by have := EE_in f; omega) hF) (cw_S hC k_223 k_224 k_8 k_225 ye_Po_piecesShare (by decide)) hP hK hE hS [6] rfl rfl hl.1 rfl (Nat.le_of_ble_eq_true rfl) ⟨Nat.le_of_ble_eq_true rfl, Nat.le_of_ble_eq_true rfl⟩ d_X_disagree_111 ?_
    exact retb 114 _ d_X_disagree_114 _ (by unfold disZ; rw [if_neg (fun q => by obtain ⟨a, b, c⟩ := q; first | omega | (rw [h57] at b; cases b) | (rw [h57] at c; cases c))])
  · refine lv_aload_n hC.1 hC.2.1 d_X_disagree_60 rfl (lv_at hl 4 rfl) ?_
    refine z_get (ci := 4) (C := R_X) (T := F_X) (N := 8) (v := .ref qp) hC in_X hK hP 0 rfl rfl 5 (by decide) k_103 rfl d_X_disagree_61 ?_
    refine z_getN (ci := 0) (C := R_Ha) (T := F_Ha) (N := 3) (v := .ref qn) hC in_Ha hK hP 4 rfl rfl 1 (by decide) hE.1.2.2.1 rfl d_X_disagree_64 ?_
    refine lv_iload hC.1 hC.2.1 d_X_disagree_67 (lv_at hl 3 rfl) ?_
    refine lv_iload hC.1 hC.2.1 d_X_disagree_69 (lv_at hl 1 rfl) ?_
    refine z_roSi (As := [.ref qn, .int (iI (12 * m + 4 * z_EDGE_BEGINS e)), .int (iI (12 * n + 4 * z_EDGE_BEGINS f))]) (rest := []) hC (c_Po_same l D t ts qn 4800 F (12 * m + 4 * z_EDGE_BEGINS e) (12 * n + 4 * z_EDGE_BEGINS f) (by decide) (by omega) (by omega) hF) (cw_S hC k_220 k_221 k_8 k_222 ye_Po_same (by decide)) hP hK hE hS [6] rfl rfl hl.1 rfl (Nat.le_of_ble_eq_true rfl) ⟨Nat.le_of_ble_eq_true rfl, Nat.le_of_ble_eq_true rfl⟩ d_X_disagree_71 ?_
    refine z_if_eqB (tgt := 96) hC d_X_disagree_74 (by decide) (fun h74 => ?_) (fun h74 => ?_)
    · refine lv_aload_n hC.1 hC.2.1 d_X_disagree_96 rfl (lv_at hl 4 rfl) ?_
      refine z_get (ci := 4) (C := R_X) (T := F_X) (N := 8) (v := .ref qp) hC in_X hK hP 0 rfl rfl 5 (by decide) k_103 rfl d_X_disagree_97 ?_
      refine z_getN (ci := 0) (C := R_Ha) (T := F_Ha) (N := 3) (v := .ref qn) hC in_Ha hK hP 4 rfl rfl 1 (by decide) hE.1.2.2.1 rfl d_X_disagree_100 ?_
      refine lv_iload hC.1 hC.2.1 d_X_disagree_103 (lv_at hl 3 rfl) ?_
      refine lv_iload hC.1 hC.2.1 d_X_disagree_105 (lv_at hl 2 rfl) ?_
      refine lv_iload hC.1 hC.2.1 d_X_disagree_107 (lv_at hl 1 rfl) ?_
      refine lv_iload hC.1 hC.2.1 d_X_disagree_109 (lv_at hl 0 rfl) ?_
      refine z_roSi (As := [.ref qn, .int (iI (12 * m + 4 * z_EDGE_BEGINS e)), .int (iI (12 * m + 4 * z_EDGE_ENDS e)), .int (iI (12 * n + 4 * z_EDGE_BEGINS f)), .int (iI (12 * n + 4 * z_EDGE_ENDS f))]) (rest := []) hC (c_Po_piecesShare l D t ts qn 4800 F (12 * m + 4 * z_EDGE_BEGINS e) (12 * m + 4 * z_EDGE_ENDS e) (12 * n + 4 * z_EDGE_BEGINS f) (12 * n + 4 * z_EDGE_ENDS f) (by decide) (by have := EB_in e; omega) (by have := EE_in e; omega) (by have := EB_in f; omega) (by have := EE_in f; omega) hF) (cw_S hC k_223 k_224 k_8 k_225 ye_Po_piecesShare (by decide)) hP hK hE hS [6] rfl rfl hl.1 rfl (Nat.le_of_ble_eq_true rfl) ⟨Nat.le_of_ble_eq_true rfl, Nat.le_of_ble_eq_true rfl⟩ d_X_disagree_111 ?_
      exact retb 114 _ d_X_disagree_114 _ (by unfold disZ; rw [if_neg (fun q => by obtain ⟨a, b, c⟩ := q; first | omega | (rw [h74] at b; cases b) | (rw [h74] at c; cases c))])
    · refine lv_aload_n hC.1 hC.2.1 d_X_disagree_77 rfl (lv_at hl 4 rfl) ?_
      refine z_get (ci := 4) (C := R_X) (T := F_X) (N := 8) (v := .ref qp) hC in_X hK hP 0 rfl rfl 5 (by decide) k_103 rfl d_X_disagree_78 ?_
      refine z_getN (ci := 0) (C := R_Ha) (T := F_Ha) (N := 3) (v := .ref qn) hC in_Ha hK hP 4 rfl rfl 1 (by decide) hE.1.2.2.1 rfl d_X_disagree_81 ?_
      refine lv_iload hC.1 hC.2.1 d_X_disagree_84 (lv_at hl 2 rfl) ?_
      refine lv_iload hC.1 hC.2.1 d_X_disagree_86 (lv_at hl 0 rfl) ?_
      refine z_roSi (As := [.ref qn, .int (iI (12 * m + 4 * z_EDGE_ENDS e)), .int (iI (12 * n + 4 * z_EDGE_ENDS f))]) (rest := []) hC (c_Po_same l D t ts qn 4800 F (12 * m + 4 * z_EDGE_ENDS e) (12 * n + 4 * z_EDGE_ENDS f) (by decide) (by omega) (by omega) hF) (cw_S hC k_220 k_221 k_8 k_222 ye_Po_same (by decide)) hP hK hE hS [6] rfl rfl hl.1 rfl (Nat.le_of_ble_eq_true rfl) ⟨Nat.le_of_ble_eq_true rfl, Nat.le_of_ble_eq_true rfl⟩ d_X_disagree_88 ?_
      refine z_if_eqB (tgt := 96) hC d_X_disagree_91 (by decide) (fun h91 => ?_) (fun h91 => ?_)
      · refine lv_aload_n hC.1 hC.2.1 d_X_disagree_96 rfl (lv_at hl 4 rfl) ?_
        refine z_get (ci := 4) (C := R_X) (T := F_X) (N := 8) (v := .ref qp) hC in_X hK hP 0 rfl rfl 5 (by decide) k_103 rfl d_X_disagree_97 ?_
        refine z_getN (ci := 0) (C := R_Ha) (T := F_Ha) (N := 3) (v := .ref qn) hC in_Ha hK hP 4 rfl rfl 1 (by decide) hE.1.2.2.1 rfl d_X_disagree_100 ?_
        refine lv_iload hC.1 hC.2.1 d_X_disagree_103 (lv_at hl 3 rfl) ?_
        refine lv_iload hC.1 hC.2.1 d_X_disagree_105 (lv_at hl 2 rfl) ?_
        refine lv_iload hC.1 hC.2.1 d_X_disagree_107 (lv_at hl 1 rfl) ?_
        refine lv_iload hC.1 hC.2.1 d_X_disagree_109 (lv_at hl 0 rfl) ?_
        refine z_roSi (As := [.ref qn, .int (iI (12 * m + 4 * z_EDGE_BEGINS e)), .int (iI (12 * m + 4 * z_EDGE_ENDS e)), .int (iI (12 * n + 4 * z_EDGE_BEGINS f)), .int (iI (12 * n + 4 * z_EDGE_ENDS f))]) (rest := []) hC (c_Po_piecesShare l D t ts qn 4800 F (12 * m + 4 * z_EDGE_BEGINS e) (12 * m + 4 * z_EDGE_ENDS e) (12 * n + 4 * z_EDGE_BEGINS f) (12 * n + 4 * z_EDGE_ENDS f) (by decide) (by have := EB_in e; omega) (by have := EE_in e; omega) (by have := EB_in f; omega) (by have := EE_in f; omega) hF) (cw_S hC k_223 k_224 k_8 k_225 ye_Po_piecesShare (by decide)) hP hK hE hS [6] rfl rfl hl.1 rfl (Nat.le_of_ble_eq_true rfl) ⟨Nat.le_of_ble_eq_true rfl, Nat.le_of_ble_eq_true rfl⟩ d_X_disagree_111 ?_
        exact retb 114 _ d_X_disagree_114 _ (by unfold disZ; rw [if_neg (fun q => by obtain ⟨a, b, c⟩ := q; first | omega | (rw [h91] at b; cases b) | (rw [h91] at c; cases c))])
      · refine z_iconst hC d_X_disagree_94 ?_
        exact ret0 95 _ d_X_disagree_95 (by unfold disZ; rw [if_pos ⟨by omega, by assumption, by assumption⟩])
theorem ye_X_clashing : ye y_X_clashing R_X 2 := by unfold ye; decide +kernel
abbrev rm_X_clashing : Room := { frames := 4, cells := 0, slots := 0, locals := 111 }
set_option maxHeartbeats 4000000 in
set_option maxRecDepth 100000 in
theorem c_X_clashing (l : Launch) (D : va_G) (t : vt) (ts : Nat → Nat) (x qs qr qw qg qu qp ql qh qt qn : Nat) (sp : Value) (lv z : Int) (Lo Hi T F : Int → Int) (hz : 0 ≤ z ∧ z ≤ 400) (hLo : bL Lo) (hHi : bL Hi) (hT : bT T) (hF : bF F) (m n : Int) (hm : 0 ≤ m ∧ m < 400) (hn : 0 ≤ n ∧ n < 400) : Met l y_X_clashing (.code y_X_clashing b_X_clashing 4 (some .boolean) :: tb_ws) rm_X_clashing (RoP D t ts [.ref x, .int (iI m), .int (iI n)] [(x, .inr (4, [.ref qs, .ref qr, .ref qw, .ref qg, .ref qu, .ref qp, sp, .int (iI lv)])), (qs, .inr (2, [.ref ql, .ref qh])), (ql, eL t.2.1 2000 Lo), (qh, eL t.2.1 2000 Hi), (qp, .inr (0, [.ref qt, .ref qn, .int (iI z)])), (qt, eI t.1 400 T), (qn, eI t.1 4800 F)]) (vp_Si (fun zr => zr = iI (zB (clZ Lo Hi T F m n)))) 0 0 (fun _ => False) := by
  refine ro_z (by decide +kernel) (Nat.le_of_ble_eq_true rfl) ?_
  intro zp ze zs zm zb zt zc zQ ls hC hP hK hE hl ret
  have hS : va_S (fun _ => False) zs.heap zs.heap [] := va_S.rf
  have hl : lv_has ls 4 [(0, .ref x), (1, .int (iI m)), (2, .int (iI n))] := hl
  have ret1 : ∀ (pc : Nat) (ls : Array Slot), decode b_X_clashing pc = .ok (.ireturn, 1) → (clZ Lo Hi T F m n) = true → W zp l ze rm_X_clashing zs zm [.ref x, .int (iI m), .int (iI n)].toArray zb zt zc zs.heap [] 0 0 zQ (F0 zm pc ls [.int (iI 1)]) := fun pc ls d h => by have r := ret pc ls d; rw [h] at r; exact r
  have ret0 : ∀ (pc : Nat) (ls : Array Slot), decode b_X_clashing pc = .ok (.ireturn, 1) → (clZ Lo Hi T F m n) = false → W zp l ze rm_X_clashing zs zm [.ref x, .int (iI m), .int (iI n)].toArray zb zt zc zs.heap [] 0 0 zQ (F0 zm pc ls [.int (iI 0)]) := fun pc ls d h => by have r := ret pc ls d; rw [h] at r; exact r
  have retb : ∀ (pc : Nat) (ls : Array Slot), decode b_X_clashing pc = .ok (.ireturn, 1) → ∀ zv : Bool, zv = (clZ Lo Hi T F m n) → W zp l ze rm_X_clashing zs zm [.ref x, .int (iI m), .int (iI n)].toArray zb zt zc zs.heap [] 0 0 zQ (F0 zm pc ls [.int (iI (zB zv))]) := fun pc ls d b h => by rw [h]; exact ret pc ls d
  have t1 := hT m
  have t2 := hT n
  refine lv_aload_n hC.1 hC.2.1 d_X_clashing_0 rfl (lv_at hl 0 rfl) ?_
  refine z_get (ci := 4) (C := R_X) (T := F_X) (N := 8) (v := .ref qs) hC in_X hK hP 0 rfl rfl 0 (by decide) k_98 rfl d_X_clashing_1 ?_
  refine lv_iload_n hC.1 hC.2.1 d_X_clashing_4 rfl (lv_at hl 1 rfl) ?_
  refine lv_iload_n hC.1 hC.2.1 d_X_clashing_5 rfl (lv_at hl 2 rfl) ?_
  refine z_roVi (As := [.int (iI m), .int (iI n)]) (rest := []) hC (c_St_apart l D t ts qs ql qh Lo Hi m n (by omega) (by omega) hLo hHi) (cw_V hC k_201 k_202 k_203 k_2 k_204 ye_St_apart (by decide)) hP hK hE hS [1, 2, 3] rfl 1 (ci := 2) rfl rfl rfl rfl hl.1 rfl (Nat.le_of_ble_eq_true rfl) ⟨Nat.le_of_ble_eq_true rfl, Nat.le_of_ble_eq_true rfl⟩ d_X_clashing_6 ?_
  refine z_if_eqB (tgt := 14) hC d_X_clashing_9 (by decide) (fun h9 => ?_) (fun h9 => ?_)
  · refine lv_aload_n hC.1 hC.2.1 d_X_clashing_14 rfl (lv_at hl 0 rfl) ?_
    refine z_get (ci := 4) (C := R_X) (T := F_X) (N := 8) (v := .ref qs) hC in_X hK hP 0 rfl rfl 0 (by decide) k_98 rfl d_X_clashing_15 ?_
    refine lv_iload_n hC.1 hC.2.1 d_X_clashing_18 rfl (lv_at hl 1 rfl) ?_
    refine lv_iload_n hC.1 hC.2.1 d_X_clashing_19 rfl (lv_at hl 2 rfl) ?_
    refine z_roVi (As := [.int (iI m), .int (iI n)]) (rest := []) hC (c_St_overlap l D t ts qs ql qh Lo Hi m n (by omega) (by omega) hLo hHi) (cw_V hC k_205 k_206 k_207 k_2 k_208 ye_St_overlap (by decide)) hP hK hE hS [1, 2, 3] rfl 1 (ci := 2) rfl rfl rfl rfl hl.1 rfl (Nat.le_of_ble_eq_true rfl) ⟨Nat.le_of_ble_eq_true rfl, Nat.le_of_ble_eq_true rfl⟩ d_X_clashing_20 ?_
    refine z_if_eqB (tgt := 28) hC d_X_clashing_23 (by decide) (fun h23 => ?_) (fun h23 => ?_)
    · refine z_iconst hC d_X_clashing_28 ?_
      refine lv_istore_n (lv' := [(3, .int (iI 0)), (0, .ref x), (1, .int (iI m)), (2, .int (iI n))]) hC.1 hC.2.1 d_X_clashing_29 rfl hl (by decide) rfl (fun ls hl => ?_)
      have L30 : ∀ (fu : Nat) (k : Int) (ls : Array Slot), 9 - k + 1 ≤ (fu : Int) → (0 ≤ k ∧ k ≤ 9) → (∀ j, 0 ≤ j → j < k → disZ F m ((j / 3) + 3 * T m) n ((j % 3) + 3 * T n) = false) → lv_has ls 4 [(3, .int (iI k)), (0, .ref x), (1, .int (iI m)), (2, .int (iI n))] → W zp l ze rm_X_clashing zs zm [.ref x, .int (iI m), .int (iI n)].toArray zb zt zc zs.heap [] 0 0 zQ (F0 zm 30 ls []) := by
        intro fu
        induction fu with
        | zero =>
          intro k ls hm30 hk hi hl
          exact absurd hm30 (by omega)
        | succ fu ih30 =>
          intro k ls hm30 hk hi hl
          refine lv_iload_n hC.1 hC.2.1 d_X_clashing_30 rfl (lv_at hl 0 rfl) ?_
          refine z_bipush hC d_X_clashing_31 (by decide) ?_
          refine z_icmp_ge (tgt := 83) hC d_X_clashing_33 (by decide) (by omega) (by decide) (fun h33 => ?_) (fun h33 => ?_)
          · refine z_iconst hC d_X_clashing_83 ?_
            exact ret0 84 _ d_X_clashing_84 (by rw [clZ_e h9 h23]; exact edZ_f (fun j h1 h2 => hi j h1 (by omega)))
          · refine lv_aload_n hC.1 hC.2.1 d_X_clashing_36 rfl (lv_at hl 1 rfl) ?_
            refine lv_iload_n hC.1 hC.2.1 d_X_clashing_37 rfl (lv_at hl 2 rfl) ?_
            refine z_iconst hC d_X_clashing_38 ?_
            refine lv_aload_n hC.1 hC.2.1 d_X_clashing_39 rfl (lv_at hl 1 rfl) ?_
            refine z_get (ci := 4) (C := R_X) (T := F_X) (N := 8) (v := .ref qp) hC in_X hK hP 0 rfl rfl 5 (by decide) k_103 rfl d_X_clashing_40 ?_
            refine z_getN (ci := 0) (C := R_Ha) (T := F_Ha) (N := 3) (v := .ref qt) hC in_Ha hK hP 4 rfl rfl 0 (by decide) hE.1.1 rfl d_X_clashing_43 ?_
            refine lv_iload_n hC.1 hC.2.1 d_X_clashing_46 rfl (lv_at hl 2 rfl) ?_
            refine z_iald hC hK hP 5 rfl (by omega) d_X_clashing_47 ?_
            refine z_imul hC d_X_clashing_48 ?_
            refine z_topi (z := 3 * T m) (by omega) ?_
            refine lv_iload_n hC.1 hC.2.1 d_X_clashing_49 rfl (lv_at hl 0 rfl) ?_
            refine z_iconst hC d_X_clashing_50 ?_
            refine z_idiv hC d_X_clashing_51 (by omega) (by omega) ?_
            refine z_iadd hC d_X_clashing_52 ?_
            refine z_topi (z := (k / 3) + 3 * T m) (by omega) ?_
            refine lv_iload_n hC.1 hC.2.1 d_X_clashing_53 rfl (lv_at hl 3 rfl) ?_
            refine z_iconst hC d_X_clashing_54 ?_
            refine lv_aload_n hC.1 hC.2.1 d_X_clashing_55 rfl (lv_at hl 1 rfl) ?_
            refine z_get (ci := 4) (C := R_X) (T := F_X) (N := 8) (v := .ref qp) hC in_X hK hP 0 rfl rfl 5 (by decide) k_103 rfl d_X_clashing_56 ?_
            refine z_getN (ci := 0) (C := R_Ha) (T := F_Ha) (N := 3) (v := .ref qt) hC in_Ha hK hP 4 rfl rfl 0 (by decide) hE.1.1 rfl d_X_clashing_59 ?_
            refine lv_iload_n hC.1 hC.2.1 d_X_clashing_62 rfl (lv_at hl 3 rfl) ?_
            refine z_iald hC hK hP 5 rfl (by omega) d_X_clashing_63 ?_
            refine z_imul hC d_X_clashing_64 ?_
            refine z_topi (z := 3 * T n) (by omega) ?_
            refine lv_iload_n hC.1 hC.2.1 d_X_clashing_65 rfl (lv_at hl 0 rfl) ?_
            refine z_iconst hC d_X_clashing_66 ?_
            refine z_irem hC d_X_clashing_67 (by omega) (by omega) ?_
            refine z_iadd hC d_X_clashing_68 ?_
            refine z_topi (z := (k % 3) + 3 * T n) (by omega) ?_
            refine z_roVi (As := [.int (iI m), .int (iI ((k / 3) + 3 * T m)), .int (iI n), .int (iI ((k % 3) + 3 * T n))]) (rest := []) hC (c_X_disagree l D t ts x qs qr qw qg qu qp ql qh qt qn sp lv z Lo Hi T F (by omega) hLo hHi hT hF m ((k / 3) + 3 * T m) n ((k % 3) + 3 * T n) (by omega) (by omega) (by omega) (by omega)) (cw_V hC k_209 k_211 kp_3 k_1 k_212 ye_X_disagree (by decide)) hP hK hE hS [0, 1, 2, 3, 4, 5, 6] rfl 0 (ci := 4) rfl rfl rfl rfl hl.1 rfl (Nat.le_of_ble_eq_true rfl) ⟨Nat.le_of_ble_eq_true rfl, Nat.le_of_ble_eq_true rfl⟩ d_X_clashing_69 ?_
            refine z_if_eqB (tgt := 77) hC d_X_clashing_72 (by decide) (fun h72 => ?_) (fun h72 => ?_)
            · refine lv_iinc (v := iI (k + 1)) (lv' := [(3, .int (iI (k + 1))), (0, .ref x), (1, .int (iI m)), (2, .int (iI n))]) hC.1 hC.2.1 d_X_clashing_77 hl (k := 0) rfl (z_inc (by omega)) (by decide) rfl (fun ls hl => ?_)
              refine z_goto (tgt := 30) hC d_X_clashing_80 (by decide) ?_
              exact ih30 (k + 1) _ (by omega) (by omega) (stepF hi h72) (lv_sub hl [0, 1, 2, 3] rfl)
            · refine z_iconst hC d_X_clashing_75 ?_
              exact ret1 76 _ d_X_clashing_76 (by rw [clZ_e h9 h23]; exact edZ_t (k := k) (by omega) (by omega) h72)
      exact L30 (9 - 0 + 1 : Int).toNat 0 _ (by omega) (by omega) (by intro j _ _; omega) (lv_sub hl [0, 1, 2, 3] rfl)
    · refine z_iconst hC d_X_clashing_26 ?_
      exact ret1 27 _ d_X_clashing_27 (clZ_o h9 h23)
  · refine z_iconst hC d_X_clashing_12 ?_
    exact ret0 13 _ d_X_clashing_13 (clZ_a h9)
theorem ye_X_clashesWithEarlier : ye y_X_clashesWithEarlier R_X 1 := by unfold ye; decide +kernel
abbrev rm_X_clashesWithEarlier : Room := { frames := 5, cells := 0, slots := 0, locals := 134 }
set_option maxHeartbeats 4000000 in
set_option maxRecDepth 100000 in
theorem c_X_clashesWithEarlier (l : Launch) (D : va_G) (t : vt) (ts : Nat → Nat) (x qs qr qw qg qu qp ql qh qt qn : Nat) (sp : Value) (lv z : Int) (Lo Hi T F : Int → Int) (hz : 0 ≤ z ∧ z ≤ 400) (hLo : bL Lo) (hHi : bL Hi) (hT : bT T) (hF : bF F) (n : Int) (hn : 0 ≤ n ∧ n < 400) : Met l y_X_clashesWithEarlier (.code y_X_clashesWithEarlier b_X_clashesWithEarlier 3 (some .boolean) :: tb_ws) rm_X_clashesWithEarlier (RoP D t ts [.ref x, .int (iI n)] [(x, .inr (4, [.ref qs, .ref qr, .ref qw, .ref qg, .ref qu, .ref qp, sp, .int (iI lv)])), (qs, .inr (2, [.ref ql, .ref qh])), (ql, eL t.2.1 2000 Lo), (qh, eL t.2.1 2000 Hi), (qp, .inr (0, [.ref qt, .ref qn, .int (iI z)])), (qt, eI t.1 400 T), (qn, eI t.1 4800 F)]) (vp_Si (fun zr => zr = iI (zB (eaZ Lo Hi T F n)))) 0 0 (fun _ => False) := by
  refine ro_z (by decide +kernel) (Nat.le_of_ble_eq_true rfl) ?_
  intro zp ze zs zm zb zt zc zQ ls hC hP hK hE hl ret
  have hS : va_S (fun _ => False) zs.heap zs.heap [] := va_S.rf
  have hl : lv_has ls 3 [(0, .ref x), (1, .int (iI n))] := hl
  have ret1 : ∀ (pc : Nat) (ls : Array Slot), decode b_X_clashesWithEarlier pc = .ok (.ireturn, 1) → (eaZ Lo Hi T F n) = true → W zp l ze rm_X_clashesWithEarlier zs zm [.ref x, .int (iI n)].toArray zb zt zc zs.heap [] 0 0 zQ (F0 zm pc ls [.int (iI 1)]) := fun pc ls d h => by have r := ret pc ls d; rw [h] at r; exact r
  have ret0 : ∀ (pc : Nat) (ls : Array Slot), decode b_X_clashesWithEarlier pc = .ok (.ireturn, 1) → (eaZ Lo Hi T F n) = false → W zp l ze rm_X_clashesWithEarlier zs zm [.ref x, .int (iI n)].toArray zb zt zc zs.heap [] 0 0 zQ (F0 zm pc ls [.int (iI 0)]) := fun pc ls d h => by have r := ret pc ls d; rw [h] at r; exact r
  have retb : ∀ (pc : Nat) (ls : Array Slot), decode b_X_clashesWithEarlier pc = .ok (.ireturn, 1) → ∀ zv : Bool, zv = (eaZ Lo Hi T F n) → W zp l ze rm_X_clashesWithEarlier zs zm [.ref x, .int (iI n)].toArray zb zt zc zs.heap [] 0 0 zQ (F0 zm pc ls [.int (iI (zB zv))]) := fun pc ls d b h => by rw [h]; exact ret pc ls d
  refine z_iconst hC d_X_clashesWithEarlier_0 ?_
  refine lv_istore_n (lv' := [(2, .int (iI 0)), (0, .ref x), (1, .int (iI n))]) hC.1 hC.2.1 d_X_clashesWithEarlier_1 rfl hl (by decide) rfl (fun ls hl => ?_)
  have L2 : ∀ (fu : Nat) (k : Int) (ls : Array Slot), n - k + 1 ≤ (fu : Int) → (0 ≤ k ∧ k ≤ n) → (∀ j, 0 ≤ j → j < k → clZ Lo Hi T F j n = false) → lv_has ls 3 [(2, .int (iI k)), (0, .ref x), (1, .int (iI n))] → W zp l ze rm_X_clashesWithEarlier zs zm [.ref x, .int (iI n)].toArray zb zt zc zs.heap [] 0 0 zQ (F0 zm 2 ls []) := by
    intro fu
    induction fu with
    | zero =>
      intro k ls hm2 hk hi hl
      exact absurd hm2 (by omega)
    | succ fu ih2 =>
      intro k ls hm2 hk hi hl
      refine lv_iload_n hC.1 hC.2.1 d_X_clashesWithEarlier_2 rfl (lv_at hl 0 rfl) ?_
      refine lv_iload_n hC.1 hC.2.1 d_X_clashesWithEarlier_3 rfl (lv_at hl 2 rfl) ?_
      refine z_icmp_ge (tgt := 24) hC d_X_clashesWithEarlier_4 (by decide) (by omega) (by omega) (fun h4 => ?_) (fun h4 => ?_)
      · refine z_iconst hC d_X_clashesWithEarlier_24 ?_
        exact ret0 25 _ d_X_clashesWithEarlier_25 (anyZ_f.mpr (fun j h1 h2 => hi j h1 (by omega)))
      · refine lv_aload_n hC.1 hC.2.1 d_X_clashesWithEarlier_7 rfl (lv_at hl 1 rfl) ?_
        refine lv_iload_n hC.1 hC.2.1 d_X_clashesWithEarlier_8 rfl (lv_at hl 0 rfl) ?_
        refine lv_iload_n hC.1 hC.2.1 d_X_clashesWithEarlier_9 rfl (lv_at hl 2 rfl) ?_
        refine z_roVi (As := [.int (iI k), .int (iI n)]) (rest := []) hC (c_X_clashing l D t ts x qs qr qw qg qu qp ql qh qt qn sp lv z Lo Hi T F (by omega) hLo hHi hT hF k n (by omega) (by omega)) (cw_V hC k_197 k_199 kp_2 k_1 k_200 ye_X_clashing (by decide)) hP hK hE hS [0, 1, 2, 3, 4, 5, 6] rfl 0 (ci := 4) rfl rfl rfl rfl hl.1 rfl (Nat.le_of_ble_eq_true rfl) ⟨Nat.le_of_ble_eq_true rfl, Nat.le_of_ble_eq_true rfl⟩ d_X_clashesWithEarlier_10 ?_
        refine z_if_eqB (tgt := 18) hC d_X_clashesWithEarlier_13 (by decide) (fun h13 => ?_) (fun h13 => ?_)
        · refine lv_iinc (v := iI (k + 1)) (lv' := [(2, .int (iI (k + 1))), (0, .ref x), (1, .int (iI n))]) hC.1 hC.2.1 d_X_clashesWithEarlier_18 hl (k := 0) rfl (z_inc (by omega)) (by decide) rfl (fun ls hl => ?_)
          refine z_goto (tgt := 2) hC d_X_clashesWithEarlier_21 (by decide) ?_
          exact ih2 (k + 1) _ (by omega) (by omega) (stepF hi h13) (lv_sub hl [0, 1, 2] rfl)
        · refine z_iconst hC d_X_clashesWithEarlier_16 ?_
          exact ret1 17 _ d_X_clashesWithEarlier_17 (anyZ_t (k := k) (by omega) (by omega) h13)
  exact L2 (n - 0 + 1 : Int).toNat 0 _ (by omega) (by omega) (by intro j _ _; omega) (lv_sub hl [0, 1, 2] rfl)
