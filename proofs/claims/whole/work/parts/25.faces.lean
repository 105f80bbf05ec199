theorem ye_JI_bitCount : ye y_JI_bitCount R_JI 1 := by unfold ye; decide +kernel
abbrev rm_JI_bitCount : Room := { frames := 0, cells := 0, slots := 0, locals := 0 }
set_option maxHeartbeats 4000000 in
set_option maxRecDepth 100000 in
theorem c_JI_bitCount (l : Launch) (D : va_G) (t : vt) (ts : Nat → Nat) (a b c : Bool) : Met l y_JI_bitCount (.code y_JI_bitCount b_JI_bitCount 1 (some .int) :: tb_ws) rm_JI_bitCount (RoP D t ts [.int (iI (sb a b c))] []) (vp_Si (fun zr => zr = iI (zB a + zB b + zB c))) 0 0 (fun _ => False) := by
  refine ro_i (by decide +kernel) (Nat.le_of_ble_eq_true rfl) ?_
  intro zp ze zs zm zb zt zc zQ ls hC hP hK hE hl ret
  obtain ⟨x0, ex0⟩ : ∃ y : Int32, y = iI (sb a b c) := ⟨_, rfl⟩
  have hl : lv_has ls 1 [(0, .int x0)] := by rw [ex0]; exact hl
  refine lv_iload_n hC.1 hC.2.1 d_JI_bitCount_0 rfl (lv_at hl 0 rfl) ?_
  refine lv_iload_n hC.1 hC.2.1 d_JI_bitCount_1 rfl (lv_at hl 0 rfl) ?_
  refine lv_iconst (v := 1) hC.1 hC.2.1 d_JI_bitCount_2 (by decide) ?_
  refine lv_iushr hC.1 hC.2.1 d_JI_bitCount_3 rfl ?_
  refine z_ldcw hC k_337 d_JI_bitCount_4 ?_
  refine lv_iand hC.1 hC.2.1 d_JI_bitCount_7 ?_
  refine lv_isub hC.1 hC.2.1 d_JI_bitCount_8 ?_
  refine lv_topi (fun x1 ex1 => ?_)
  refine lv_istore_n (lv' := [(0, .int x1)]) hC.1 hC.2.1 d_JI_bitCount_9 rfl hl (by decide) rfl (fun ls hl => ?_)
  refine lv_iload_n hC.1 hC.2.1 d_JI_bitCount_10 rfl (lv_at hl 0 rfl) ?_
  refine z_ldcw hC k_338 d_JI_bitCount_11 ?_
  refine lv_iand hC.1 hC.2.1 d_JI_bitCount_14 ?_
  refine lv_iload_n hC.1 hC.2.1 d_JI_bitCount_15 rfl (lv_at hl 0 rfl) ?_
  refine lv_iconst (v := 2) hC.1 hC.2.1 d_JI_bitCount_16 (by decide) ?_
  refine lv_iushr hC.1 hC.2.1 d_JI_bitCount_17 rfl ?_
  refine z_ldcw hC k_338 d_JI_bitCount_18 ?_
  refine lv_iand hC.1 hC.2.1 d_JI_bitCount_21 ?_
  refine lv_iadd hC.1 hC.2.1 d_JI_bitCount_22 ?_
  refine lv_topi (fun x2 ex2 => ?_)
  refine lv_istore_n (lv' := [(0, .int x2)]) hC.1 hC.2.1 d_JI_bitCount_23 rfl hl (by decide) rfl (fun ls hl => ?_)
  refine lv_iload_n hC.1 hC.2.1 d_JI_bitCount_24 rfl (lv_at hl 0 rfl) ?_
  refine lv_iload_n hC.1 hC.2.1 d_JI_bitCount_25 rfl (lv_at hl 0 rfl) ?_
  refine lv_iconst (v := 4) hC.1 hC.2.1 d_JI_bitCount_26 (by decide) ?_
  refine lv_iushr hC.1 hC.2.1 d_JI_bitCount_27 rfl ?_
  refine lv_iadd hC.1 hC.2.1 d_JI_bitCount_28 ?_
  refine z_ldcw hC k_339 d_JI_bitCount_29 ?_
  refine lv_iand hC.1 hC.2.1 d_JI_bitCount_32 ?_
  refine lv_topi (fun x3 ex3 => ?_)
  refine lv_istore_n (lv' := [(0, .int x3)]) hC.1 hC.2.1 d_JI_bitCount_33 rfl hl (by decide) rfl (fun ls hl => ?_)
  refine lv_iload_n hC.1 hC.2.1 d_JI_bitCount_34 rfl (lv_at hl 0 rfl) ?_
  refine lv_iload_n hC.1 hC.2.1 d_JI_bitCount_35 rfl (lv_at hl 0 rfl) ?_
  refine lv_bipush (v := 8) hC.1 hC.2.1 d_JI_bitCount_36 (by decide) ?_
  refine lv_iushr hC.1 hC.2.1 d_JI_bitCount_38 rfl ?_
  refine lv_iadd hC.1 hC.2.1 d_JI_bitCount_39 ?_
  refine lv_topi (fun x4 ex4 => ?_)
  refine lv_istore_n (lv' := [(0, .int x4)]) hC.1 hC.2.1 d_JI_bitCount_40 rfl hl (by decide) rfl (fun ls hl => ?_)
  refine lv_iload_n hC.1 hC.2.1 d_JI_bitCount_41 rfl (lv_at hl 0 rfl) ?_
  refine lv_iload_n hC.1 hC.2.1 d_JI_bitCount_42 rfl (lv_at hl 0 rfl) ?_
  refine lv_bipush (v := 16) hC.1 hC.2.1 d_JI_bitCount_43 (by decide) ?_
  refine lv_iushr hC.1 hC.2.1 d_JI_bitCount_45 rfl ?_
  refine lv_iadd hC.1 hC.2.1 d_JI_bitCount_46 ?_
  refine lv_topi (fun x5 ex5 => ?_)
  refine lv_istore_n (lv' := [(0, .int x5)]) hC.1 hC.2.1 d_JI_bitCount_47 rfl hl (by decide) rfl (fun ls hl => ?_)
  refine lv_iload_n hC.1 hC.2.1 d_JI_bitCount_48 rfl (lv_at hl 0 rfl) ?_
  refine lv_bipush (v := 63) hC.1 hC.2.1 d_JI_bitCount_49 (by decide) ?_
  refine lv_iand hC.1 hC.2.1 d_JI_bitCount_51 ?_
  refine lv_topi (fun x6 ex6 => ?_)
  have hx : x6 = iI (zB a + zB b + zB c) := by rw [ex6, ex5, ex4, ex3, ex2, ex1, ex0]; cases a <;> cases b <;> cases c <;> decide
  rw [hx]
  exact ret 52 _ d_JI_bitCount_52
theorem ye_X_countLoneEdges : ye y_X_countLoneEdges R_X 0 := by unfold ye; decide +kernel
abbrev rm_X_countLoneEdges : Room := { frames := 4, cells := 0, slots := 0, locals := 95 }
set_option maxHeartbeats 4000000 in
set_option maxRecDepth 100000 in
theorem c_X_countLoneEdges (l : Launch) (D : va_G) (t : vt) (ts : Nat → Nat) (x qs qr qw qg qu qp ql qh qt qn : Nat) (sp : Value) (lv z : Int) (Lo Hi T F : Int → Int) (hz : 0 ≤ z ∧ z ≤ 400) (hLo : bL Lo) (hHi : bL Hi) (hT : bT T) (hF : bF F) : Met l y_X_countLoneEdges (.code y_X_countLoneEdges b_X_countLoneEdges 5 (some .int) :: tb_ws) rm_X_countLoneEdges (RoP D t ts [.ref x] [(x, .inr (4, [.ref qs, .ref qr, .ref qw, .ref qg, .ref qu, .ref qp, sp, .int (iI lv)])), (qs, .inr (2, [.ref ql, .ref qh])), (ql, eL t.2.1 2000 Lo), (qh, eL t.2.1 2000 Hi), (qp, .inr (0, [.ref qt, .ref qn, .int (iI z)])), (qt, eI t.1 400 T), (qn, eI t.1 4800 F)]) (vp_Si (fun zr => zr = iI (cleZ Lo Hi F z))) 0 0 (fun _ => False) := by
  refine ro_i (by decide +kernel) (Nat.le_of_ble_eq_true rfl) ?_
  intro zp ze zs zm zb zt zc zQ ls hC hP hK hE hl ret
  have hS : va_S (fun _ => False) zs.heap zs.heap [] := va_S.rf
  have hl : lv_has ls 5 [(0, .ref x)] := hl
  have retv : ∀ (pc : Nat) (ls : Array Slot) (zv : Int), decode b_X_countLoneEdges pc = .ok (.ireturn, 1) → zv = (cleZ Lo Hi F z) → W zp l ze rm_X_countLoneEdges zs zm [.ref x].toArray zb zt zc zs.heap [] 0 0 zQ (F0 zm pc ls [.int (iI zv)]) := fun pc ls v d h => by rw [h]; exact ret pc ls d
  refine z_iconst hC d_X_countLoneEdges_0 ?_
  refine lv_istore_n (lv' := [(1, .int (iI 0)), (0, .ref x)]) hC.1 hC.2.1 d_X_countLoneEdges_1 rfl hl (by decide) rfl (fun ls hl => ?_)
  refine z_iconst hC d_X_countLoneEdges_2 ?_
  refine lv_istore_n (lv' := [(2, .int (iI 0)), (1, .int (iI 0)), (0, .ref x)]) hC.1 hC.2.1 d_X_countLoneEdges_3 rfl hl (by decide) rfl (fun ls hl => ?_)
  have L4 : ∀ (fu : Nat) (a : Int) (k : Int) (ls : Array Slot), z - k + 1 ≤ (fu : Int) → (0 ≤ k ∧ k ≤ z) → (a = sumZ k.toNat (fun n => le1 Lo Hi F z n)) → lv_has ls 5 [(2, .int (iI k)), (1, .int (iI a)), (0, .ref x)] → W zp l ze rm_X_countLoneEdges zs zm [.ref x].toArray zb zt zc zs.heap [] 0 0 zQ (F0 zm 4 ls []) := by
    intro fu
    induction fu with
    | zero =>
      intro a k ls hm4 hk ea hl
      exact absurd hm4 (by omega)
    | succ fu ih4 =>
      intro a k ls hm4 hk ea hl
      refine lv_iload_n hC.1 hC.2.1 d_X_countLoneEdges_4 rfl (lv_at hl 0 rfl) ?_
      refine lv_aload_n hC.1 hC.2.1 d_X_countLoneEdges_5 rfl (lv_at hl 2 rfl) ?_
      refine z_get (ci := 4) (C := R_X) (T := F_X) (N := 8) (v := .ref qp) hC in_X hK hP 0 rfl rfl 5 (by decide) k_103 rfl d_X_countLoneEdges_6 ?_
      refine z_getN (ci := 0) (C := R_Ha) (T := F_Ha) (N := 3) (v := .int (iI z)) hC in_Ha hK hP 4 rfl rfl 2 (by decide) hE.1.2.2.2.2.1 rfl d_X_countLoneEdges_9 ?_
      refine z_icmp_ge (tgt := 82) hC d_X_countLoneEdges_12 (by decide) (by omega) (by omega) (fun h12 => ?_) (fun h12 => ?_)
      · refine lv_iload_n hC.1 hC.2.1 d_X_countLoneEdges_82 rfl (lv_at hl 1 rfl) ?_
        exact retv 83 _ _ d_X_countLoneEdges_83 (by rw [ea, show k = z by omega]; rfl)
      · refine z_iconst hC d_X_countLoneEdges_15 ?_
        refine lv_istore_n (lv' := [(3, .int (iI 0)), (2, .int (iI k)), (1, .int (iI a)), (0, .ref x)]) hC.1 hC.2.1 d_X_countLoneEdges_16 rfl hl (by decide) rfl (fun ls hl => ?_)
        refine z_iconst hC d_X_countLoneEdges_17 ?_
        refine lv_istore (lv' := [(4, .int (iI 0)), (3, .int (iI 0)), (2, .int (iI k)), (1, .int (iI a)), (0, .ref x)]) hC.1 hC.2.1 d_X_countLoneEdges_18 hl (by decide) rfl (fun ls hl => ?_)
        have L20 : ∀ (fu : Nat) (ba : Bool) (bb : Bool) (bc : Bool) (j : Int) (ls : Array Slot), z - j + 1 ≤ (fu : Int) → (0 ≤ j ∧ j ≤ z) → (ba = anyZ j.toNat (fun m => leq Lo Hi k m && shA F k m)) → (bb = anyZ j.toNat (fun m => leq Lo Hi k m && shB F k m)) → (bc = anyZ j.toNat (fun m => leq Lo Hi k m && shC F k m)) → lv_has ls 5 [(4, .int (iI j)), (3, .int (iI (sb ba bb bc))), (2, .int (iI k)), (1, .int (iI a)), (0, .ref x)] → W zp l ze rm_X_countLoneEdges zs zm [.ref x].toArray zb zt zc zs.heap [] 0 0 zQ (F0 zm 20 ls []) := by
          intro fu
          induction fu with
          | zero =>
            intro ba bb bc j ls hm20 hk2 eA eB eC hl
            exact absurd hm20 (by omega)
          | succ fu ih20 =>
            intro ba bb bc j ls hm20 hk2 eA eB eC hl
            refine lv_iload hC.1 hC.2.1 d_X_countLoneEdges_20 (lv_at hl 0 rfl) ?_
            refine lv_aload_n hC.1 hC.2.1 d_X_countLoneEdges_22 rfl (lv_at hl 4 rfl) ?_
            refine z_get (ci := 4) (C := R_X) (T := F_X) (N := 8) (v := .ref qp) hC in_X hK hP 0 rfl rfl 5 (by decide) k_103 rfl d_X_countLoneEdges_23 ?_
            refine z_getN (ci := 0) (C := R_Ha) (T := F_Ha) (N := 3) (v := .int (iI z)) hC in_Ha hK hP 4 rfl rfl 2 (by decide) hE.1.2.2.2.2.1 rfl d_X_countLoneEdges_26 ?_
            refine z_icmp_ge (tgt := 67) hC d_X_countLoneEdges_29 (by decide) (by omega) (by omega) (fun h29 => ?_) (fun h29 => ?_)
            · refine lv_iload_n hC.1 hC.2.1 d_X_countLoneEdges_67 rfl (lv_at hl 3 rfl) ?_
              refine z_iconst hC d_X_countLoneEdges_68 ?_
              refine lv_iload_n hC.1 hC.2.1 d_X_countLoneEdges_69 rfl (lv_at hl 1 rfl) ?_
              refine z_roSi (As := [.int (iI (sb ba bb bc))]) (rest := [.int (iI 3), .int (iI a)]) hC (c_JI_bitCount l D t ts ba bb bc) (cw_S hC k_334 k_335 k_11 k_336 ye_JI_bitCount (by decide)) hP hK hE hS [] rfl rfl hl.1 rfl (Nat.le_of_ble_eq_true rfl) ⟨Nat.le_of_ble_eq_true rfl, Nat.le_of_ble_eq_true rfl⟩ d_X_countLoneEdges_70 ?_
              refine z_isub hC d_X_countLoneEdges_73 ?_
              refine z_topi (z := -zB ba - zB bb - zB bc + 3) (by omega) ?_
              refine z_iadd hC d_X_countLoneEdges_74 ?_
              refine z_topi (z := a - zB ba - zB bb - zB bc + 3) (by omega) ?_
              refine lv_istore_n (lv' := [(1, .int (iI (a - zB ba - zB bb - zB bc + 3))), (4, .int (iI j)), (3, .int (iI (sb ba bb bc))), (2, .int (iI k)), (0, .ref x)]) hC.1 hC.2.1 d_X_countLoneEdges_75 rfl hl (by decide) rfl (fun ls hl => ?_)
              refine lv_iinc (v := iI (k + 1)) (lv' := [(2, .int (iI (k + 1))), (1, .int (iI (a - zB ba - zB bb - zB bc + 3))), (4, .int (iI j)), (3, .int (iI (sb ba bb bc))), (0, .ref x)]) hC.1 hC.2.1 d_X_countLoneEdges_76 hl (k := 3) rfl (z_inc (by omega)) (by decide) rfl (fun ls hl => ?_)
              refine z_goto (tgt := 4) hC d_X_countLoneEdges_79 (by decide) ?_
              exact ih4 (a - zB ba - zB bb - zB bc + 3) (k + 1) _ (by omega) (by omega) (by rw [sumZ_s (by omega), ← ea]; unfold le1; rw [show z.toNat = j.toNat by omega, ← eA, ← eB, ← eC]; omega) (lv_sub hl [0, 1, 4] rfl)
            · refine lv_iload hC.1 hC.2.1 d_X_countLoneEdges_32 (lv_at hl 0 rfl) ?_
              refine lv_iload_n hC.1 hC.2.1 d_X_countLoneEdges_34 rfl (lv_at hl 2 rfl) ?_
              refine z_icmp_eq (tgt := 61) hC d_X_countLoneEdges_35 (by decide) (by omega) (by omega) (fun h35 => ?_) (fun h35 => ?_)
              · refine lv_iinc (v := iI (j + 1)) (lv' := [(4, .int (iI (j + 1))), (3, .int (iI (sb ba bb bc))), (2, .int (iI k)), (1, .int (iI a)), (0, .ref x)]) hC.1 hC.2.1 d_X_countLoneEdges_61 hl (k := 0) rfl (z_inc (by omega)) (by decide) rfl (fun ls hl => ?_)
                refine z_goto (tgt := 20) hC d_X_countLoneEdges_64 (by decide) ?_
                exact ih20 ba bb bc (j + 1) _ (by omega) (by omega) (by rw [anyZ_s (by omega), ← eA]; unfold leq; simp [h35]) (by rw [anyZ_s (by omega), ← eB]; unfold leq; simp [h35]) (by rw [anyZ_s (by omega), ← eC]; unfold leq; simp [h35]) (lv_sub hl [0, 1, 2, 3, 4] rfl)
              · refine lv_aload_n hC.1 hC.2.1 d_X_countLoneEdges_38 rfl (lv_at hl 4 rfl) ?_
                refine z_get (ci := 4) (C := R_X) (T := F_X) (N := 8) (v := .ref qs) hC in_X hK hP 0 rfl rfl 0 (by decide) k_98 rfl d_X_countLoneEdges_39 ?_
                refine lv_iload hC.1 hC.2.1 d_X_countLoneEdges_42 (lv_at hl 0 rfl) ?_
                refine lv_iload_n hC.1 hC.2.1 d_X_countLoneEdges_44 rfl (lv_at hl 2 rfl) ?_
                refine z_roVi (As := [.int (iI j), .int (iI k)]) (rest := []) hC (c_St_apart l D t ts qs ql qh Lo Hi j k (by omega) (by omega) hLo hHi) (cw_V hC k_201 k_202 k_203 k_2 k_204 ye_St_apart (by decide)) hP hK hE hS [1, 2, 3] rfl 1 (ci := 2) rfl rfl rfl rfl hl.1 rfl (Nat.le_of_ble_eq_true rfl) ⟨Nat.le_of_ble_eq_true rfl, Nat.le_of_ble_eq_true rfl⟩ d_X_countLoneEdges_45 ?_
                refine z_if_neB (tgt := 61) hC d_X_countLoneEdges_48 (by decide) (fun h48 => ?_) (fun h48 => ?_)
                · refine lv_iinc (v := iI (j + 1)) (lv' := [(4, .int (iI (j + 1))), (3, .int (iI (sb ba bb bc))), (2, .int (iI k)), (1, .int (iI a)), (0, .ref x)]) hC.1 hC.2.1 d_X_countLoneEdges_61 hl (k := 0) rfl (z_inc (by omega)) (by decide) rfl (fun ls hl => ?_)
                  refine z_goto (tgt := 20) hC d_X_countLoneEdges_64 (by decide) ?_
                  exact ih20 ba bb bc (j + 1) _ (by omega) (by omega) (by rw [anyZ_s (by omega), ← eA]; unfold leq; simp [h35, h48]) (by rw [anyZ_s (by omega), ← eB]; unfold leq; simp [h35, h48]) (by rw [anyZ_s (by omega), ← eC]; unfold leq; simp [h35, h48]) (lv_sub hl [0, 1, 2, 3, 4] rfl)
                · refine lv_iload_n hC.1 hC.2.1 d_X_countLoneEdges_51 rfl (lv_at hl 1 rfl) ?_
                  refine lv_aload_n hC.1 hC.2.1 d_X_countLoneEdges_52 rfl (lv_at hl 4 rfl) ?_
                  refine lv_iload_n hC.1 hC.2.1 d_X_countLoneEdges_53 rfl (lv_at hl 2 rfl) ?_
                  refine lv_iload hC.1 hC.2.1 d_X_countLoneEdges_54 (lv_at hl 0 rfl) ?_
                  refine z_roVi (As := [.int (iI k), .int (iI j)]) (rest := [.int (iI (sb ba bb bc))]) hC (c_X_sharedEdges l D t ts x qs qr qw qg qu qp ql qh qt qn sp lv z Lo Hi T F (by omega) hLo hHi hT hF k j (by omega) (by omega)) (cw_V hC k_325 k_327 kp_13 k_1 k_328 ye_X_sharedEdges (by decide)) hP hK hE hS [0, 1, 2, 3, 4, 5, 6] rfl 0 (ci := 4) rfl rfl rfl rfl hl.1 rfl (Nat.le_of_ble_eq_true rfl) ⟨Nat.le_of_ble_eq_true rfl, Nat.le_of_ble_eq_true rfl⟩ d_X_countLoneEdges_56 ?_
                  refine z_ior (z := sb (ba || (shA F k j)) (bb || (shB F k j)) (bc || (shC F k j))) hC (sb_or _ _ _ _ _ _) d_X_countLoneEdges_59 ?_
                  refine lv_istore_n (lv' := [(3, .int (iI (sb (ba || (shA F k j)) (bb || (shB F k j)) (bc || (shC F k j))))), (4, .int (iI j)), (2, .int (iI k)), (1, .int (iI a)), (0, .ref x)]) hC.1 hC.2.1 d_X_countLoneEdges_60 rfl hl (by decide) rfl (fun ls hl => ?_)
                  refine lv_iinc (v := iI (j + 1)) (lv' := [(4, .int (iI (j + 1))), (3, .int (iI (sb (ba || (shA F k j)) (bb || (shB F k j)) (bc || (shC F k j))))), (2, .int (iI k)), (1, .int (iI a)), (0, .ref x)]) hC.1 hC.2.1 d_X_countLoneEdges_61 hl (k := 1) rfl (z_inc (by omega)) (by decide) rfl (fun ls hl => ?_)
                  refine z_goto (tgt := 20) hC d_X_countLoneEdges_64 (by decide) ?_
                  exact ih20 (ba || (shA F k j)) (bb || (shB F k j)) (bc || (shC F k j)) (j + 1) _ (by omega) (by omega) (by rw [anyZ_s (by omega), ← eA]; unfold leq; simp [h35, h48]) (by rw [anyZ_s (by omega), ← eB]; unfold leq; simp [h35, h48]) (by rw [anyZ_s (by omega), ← eC]; unfold leq; simp [h35, h48]) (lv_sub hl [0, 1, 2, 3, 4] rfl)
        exact L20 (z - 0 + 1 : Int).toNat false false false 0 _ (by omega) (by omega) (by rfl) (by rfl) (by rfl) (lv_sub hl [0, 1, 2, 3, 4] rfl)
  exact L4 (z - 0 + 1 : Int).toNat 0 0 _ (by omega) (by omega) (by rfl) (lv_sub hl [0, 1, 2] rfl)
theorem ye_X_count : ye y_X_count R_X 1 := by unfold ye; decide +kernel
abbrev rm_X_count : Room := { frames := 5, cells := 0, slots := 0, locals := 119 }
set_option maxHeartbeats 4000000 in
set_option maxRecDepth 100000 in
theorem c_X_count (l : Launch) (D : va_G) (t : vt) (ts : Nat → Nat) (x qs qr qw qg qu qp ql qh qt qn : Nat) (sp : Value) (lv z : Int) (Lo Hi T F : Int → Int) (hz : 0 ≤ z ∧ z ≤ 400) (hLo : bL Lo) (hHi : bL Hi) (hT : bT T) (hF : bF F) (w : Int) (hw : inI w) : Met l y_X_count (.code y_X_count b_X_count 2 (some .int) :: tb_ws) rm_X_count (RoP D t ts [.ref x, .int (iI w)] [(x, .inr (4, [.ref qs, .ref qr, .ref qw, .ref qg, .ref qu, .ref qp, sp, .int (iI lv)])), (qs, .inr (2, [.ref ql, .ref qh])), (ql, eL t.2.1 2000 Lo), (qh, eL t.2.1 2000 Hi), (qp, .inr (0, [.ref qt, .ref qn, .int (iI z)])), (qt, eI t.1 400 T), (qn, eI t.1 4800 F)]) (vp_Si (fun zr => zr = iI (couZ Lo Hi T F z lv w))) 0 0 (fun _ => False) := by
  refine ro_i (by decide +kernel) (Nat.le_of_ble_eq_true rfl) ?_
  intro zp ze zs zm zb zt zc zQ ls hC hP hK hE hl ret
  have hS : va_S (fun _ => False) zs.heap zs.heap [] := va_S.rf
  have hl : lv_has ls 2 [(0, .ref x), (1, .int (iI w))] := hl
  have retv : ∀ (pc : Nat) (ls : Array Slot) (zv : Int), decode b_X_count pc = .ok (.ireturn, 1) → zv = (couZ Lo Hi T F z lv w) → W zp l ze rm_X_count zs zm [.ref x, .int (iI w)].toArray zb zt zc zs.heap [] 0 0 zQ (F0 zm pc ls [.int (iI zv)]) := fun pc ls v d h => by rw [h]; exact ret pc ls d
  refine lv_iload_n hC.1 hC.2.1 d_X_count_0 rfl (lv_at hl 1 rfl) ?_
  rcases (show w = 0 ∨ w = 1 ∨ w = 2 ∨ w = 3 ∨ w = 4 ∨ w = 5 ∨ w = 6 ∨ (w < 0 ∨ 6 < w) by omega) with hw1 | hw1 | hw1 | hw1 | hw1 | hw1 | hw1 | hw1
  · refine lv_tableIn (off := 43) (tgt := 44) hC.1 hC.2.1 d_X_count_1 (by rw [iI_toInt (by omega)]; omega) (by rw [iI_toInt (by omega)]; omega) (by rw [iI_toInt (by omega), hw1]; rfl) (by decide) ?_
    refine lv_aload_n hC.1 hC.2.1 d_X_count_44 rfl (lv_at hl 0 rfl) ?_
    refine z_get (ci := 4) (C := R_X) (T := F_X) (N := 8) (v := .ref qp) hC in_X hK hP 0 rfl rfl 5 (by decide) k_103 rfl d_X_count_45 ?_
    refine z_getN (ci := 0) (C := R_Ha) (T := F_Ha) (N := 3) (v := .int (iI z)) hC in_Ha hK hP 4 rfl rfl 2 (by decide) hE.1.2.2.2.2.1 rfl d_X_count_48 ?_
    exact retv 51 _ _ d_X_count_51 (by unfold couZ; rw [hw1]; simp)
  · refine lv_tableIn (off := 51) (tgt := 52) hC.1 hC.2.1 d_X_count_1 (by rw [iI_toInt (by omega)]; omega) (by rw [iI_toInt (by omega)]; omega) (by rw [iI_toInt (by omega), hw1]; rfl) (by decide) ?_
    refine lv_aload_n hC.1 hC.2.1 d_X_count_52 rfl (lv_at hl 0 rfl) ?_
    refine z_iconst hC d_X_count_53 ?_
    refine z_roVi (As := [.int (iI 0)]) (rest := []) hC (c_X_countType l D t ts x qs qr qw qg qu qp ql qh qt qn sp lv z Lo Hi T F (by omega) hLo hHi hT hF 0 (by omega)) (cw_V hC k_317 k_319 kp_11 k_1 k_320 ye_X_countType (by decide)) hP hK hE hS [0, 1, 2, 3, 4, 5, 6] rfl 0 (ci := 4) rfl rfl rfl rfl hl.1 rfl (Nat.le_of_ble_eq_true rfl) ⟨Nat.le_of_ble_eq_true rfl, Nat.le_of_ble_eq_true rfl⟩ d_X_count_54 ?_
    exact retv 57 _ _ d_X_count_57 (by unfold couZ; rw [hw1]; simp)
  · refine lv_tableIn (off := 57) (tgt := 58) hC.1 hC.2.1 d_X_count_1 (by rw [iI_toInt (by omega)]; omega) (by rw [iI_toInt (by omega)]; omega) (by rw [iI_toInt (by omega), hw1]; rfl) (by decide) ?_
    refine lv_aload_n hC.1 hC.2.1 d_X_count_58 rfl (lv_at hl 0 rfl) ?_
    refine z_iconst hC d_X_count_59 ?_
    refine z_roVi (As := [.int (iI 1)]) (rest := []) hC (c_X_countType l D t ts x qs qr qw qg qu qp ql qh qt qn sp lv z Lo Hi T F (by omega) hLo hHi hT hF 1 (by omega)) (cw_V hC k_317 k_319 kp_11 k_1 k_320 ye_X_countType (by decide)) hP hK hE hS [0, 1, 2, 3, 4, 5, 6] rfl 0 (ci := 4) rfl rfl rfl rfl hl.1 rfl (Nat.le_of_ble_eq_true rfl) ⟨Nat.le_of_ble_eq_true rfl, Nat.le_of_ble_eq_true rfl⟩ d_X_count_60 ?_
    exact retv 63 _ _ d_X_count_63 (by unfold couZ; rw [hw1]; simp)
  · refine lv_tableIn (off := 63) (tgt := 64) hC.1 hC.2.1 d_X_count_1 (by rw [iI_toInt (by omega)]; omega) (by rw [iI_toInt (by omega)]; omega) (by rw [iI_toInt (by omega), hw1]; rfl) (by decide) ?_
    refine lv_aload_n hC.1 hC.2.1 d_X_count_64 rfl (lv_at hl 0 rfl) ?_
    refine z_get (ci := 4) (C := R_X) (T := F_X) (N := 8) (v := .int (iI lv)) hC in_X hK hP 0 rfl rfl 7 (by decide) k_105 rfl d_X_count_65 ?_
    exact retv 68 _ _ d_X_count_68 (by unfold couZ; rw [hw1]; simp)
  · refine lv_tableIn (off := 68) (tgt := 69) hC.1 hC.2.1 d_X_count_1 (by rw [iI_toInt (by omega)]; omega) (by rw [iI_toInt (by omega)]; omega) (by rw [iI_toInt (by omega), hw1]; rfl) (by decide) ?_
    refine lv_aload_n hC.1 hC.2.1 d_X_count_69 rfl (lv_at hl 0 rfl) ?_
    refine z_roVi (As := []) (rest := []) hC (c_X_countLoneEdges l D t ts x qs qr qw qg qu qp ql qh qt qn sp lv z Lo Hi T F (by omega) hLo hHi hT hF) (cw_V hC k_321 k_323 kp_12 k_1 k_324 ye_X_countLoneEdges (by decide)) hP hK hE hS [0, 1, 2, 3, 4, 5, 6] rfl 0 (ci := 4) rfl rfl rfl rfl hl.1 rfl (Nat.le_of_ble_eq_true rfl) ⟨Nat.le_of_ble_eq_true rfl, Nat.le_of_ble_eq_true rfl⟩ d_X_count_70 ?_
    exact retv 73 _ _ d_X_count_73 (by unfold couZ; rw [hw1]; simp)
  · refine lv_tableIn (off := 73) (tgt := 74) hC.1 hC.2.1 d_X_count_1 (by rw [iI_toInt (by omega)]; omega) (by rw [iI_toInt (by omega)]; omega) (by rw [iI_toInt (by omega), hw1]; rfl) (by decide) ?_
    refine lv_aload_n hC.1 hC.2.1 d_X_count_74 rfl (lv_at hl 0 rfl) ?_
    refine z_roVi (As := []) (rest := []) hC (c_X_countPoints l D t ts x qs qr qw qg qu qp ql qh qt qn sp lv z Lo Hi T F (by omega) hLo hHi hT hF) (cw_V hC k_340 k_342 kp_14 k_1 k_343 ye_X_countPoints (by decide)) hP hK hE hS [0, 1, 2, 3, 4, 5, 6] rfl 0 (ci := 4) rfl rfl rfl rfl hl.1 rfl (Nat.le_of_ble_eq_true rfl) ⟨Nat.le_of_ble_eq_true rfl, Nat.le_of_ble_eq_true rfl⟩ d_X_count_75 ?_
    exact retv 78 _ _ d_X_count_78 (by unfold couZ; rw [hw1]; simp)
  · refine lv_tableIn (off := 78) (tgt := 79) hC.1 hC.2.1 d_X_count_1 (by rw [iI_toInt (by omega)]; omega) (by rw [iI_toInt (by omega)]; omega) (by rw [iI_toInt (by omega), hw1]; rfl) (by decide) ?_
    refine lv_aload_n hC.1 hC.2.1 d_X_count_79 rfl (lv_at hl 0 rfl) ?_
    refine z_roVi (As := []) (rest := []) hC (c_X_countPaired l D t ts x qs qr qw qg qu qp ql qh qt qn sp lv z Lo Hi T F (by omega) hLo hHi hT hF) (cw_V hC k_348 k_350 kp_16 k_1 k_351 ye_X_countPaired (by decide)) hP hK hE hS [0, 1, 2, 3, 4, 5, 6] rfl 0 (ci := 4) rfl rfl rfl rfl hl.1 rfl (Nat.le_of_ble_eq_true rfl) ⟨Nat.le_of_ble_eq_true rfl, Nat.le_of_ble_eq_true rfl⟩ d_X_count_80 ?_
    exact retv 83 _ _ d_X_count_83 (by unfold couZ; rw [hw1]; simp)
  · refine lv_tableOut (tgt := 84) hC.1 hC.2.1 d_X_count_1 (by rw [iI_toInt (by omega)]; omega) (by decide) ?_
    refine z_iconst hC d_X_count_84 ?_
    exact retv 85 _ _ d_X_count_85 (by unfold couZ; simp [show ¬ w = 0 by omega, show ¬ w = 1 by omega, show ¬ w = 2 by omega, show ¬ w = 3 by omega, show ¬ w = 4 by omega, show ¬ w = 5 by omega, show ¬ w = 6 by omega])
theorem ye_X_corner : ye y_X_corner R_X 3 := by unfold ye; decide +kernel
abbrev rm_X_corner : Room := { frames := 1, cells := 0, slots := 0, locals := 22 }
set_option maxHeartbeats 4000000 in
set_option maxRecDepth 100000 in
theorem c_X_corner (l : Launch) (D : va_G) (t : vt) (ts : Nat → Nat) (x qs qr qw qg qu qp ql qh qt qn : Nat) (sp : Value) (lv z : Int) (Lo Hi T F : Int → Int) (hz : 0 ≤ z ∧ z ≤ 400) (hLo : bL Lo) (hHi : bL Hi) (hT : bT T) (hF : bF F) (n c i : Int) (hn : inI n) (hc : inI c) (hi : inI i) : Met l y_X_corner (.code y_X_corner b_X_corner 4 (some .int) :: tb_ws) rm_X_corner (RoP D t ts [.ref x, .int (iI n), .int (iI c), .int (iI i)] [(x, .inr (4, [.ref qs, .ref qr, .ref qw, .ref qg, .ref qu, .ref qp, sp, .int (iI lv)])), (qs, .inr (2, [.ref ql, .ref qh])), (ql, eL t.2.1 2000 Lo), (qh, eL t.2.1 2000 Hi), (qp, .inr (0, [.ref qt, .ref qn, .int (iI z)])), (qt, eI t.1 400 T), (qn, eI t.1 4800 F)]) (vp_Si (fun zr => zr = iI (corZ T F z n c i))) 0 0 (fun _ => False) := by
  refine ro_i (by decide +kernel) (Nat.le_of_ble_eq_true rfl) ?_
  intro zp ze zs zm zb zt zc zQ ls hC hP hK hE hl ret
  have hS : va_S (fun _ => False) zs.heap zs.heap [] := va_S.rf
  have hl : lv_has ls 4 [(0, .ref x), (1, .int (iI n)), (2, .int (iI c)), (3, .int (iI i))] := hl
  have retv : ∀ (pc : Nat) (ls : Array Slot) (zv : Int), decode b_X_corner pc = .ok (.ireturn, 1) → zv = (corZ T F z n c i) → W zp l ze rm_X_corner zs zm [.ref x, .int (iI n), .int (iI c), .int (iI i)].toArray zb zt zc zs.heap [] 0 0 zQ (F0 zm pc ls [.int (iI zv)]) := fun pc ls v d h => by rw [h]; exact ret pc ls d
  refine lv_aload_n hC.1 hC.2.1 d_X_corner_0 rfl (lv_at hl 0 rfl) ?_
  refine z_get (ci := 4) (C := R_X) (T := F_X) (N := 8) (v := .ref qp) hC in_X hK hP 0 rfl rfl 5 (by decide) k_103 rfl d_X_corner_1 ?_
  refine lv_iload_n hC.1 hC.2.1 d_X_corner_4 rfl (lv_at hl 1 rfl) ?_
  refine lv_iload_n hC.1 hC.2.1 d_X_corner_5 rfl (lv_at hl 2 rfl) ?_
  refine z_roVi (As := [.int (iI n), .int (iI c)]) (rest := []) hC (c_Ha_has l D t ts qp qt qn z n c (by omega) (by omega) (by omega)) (cw_V hC k_360 k_361 k_362 k_5 k_363 ye_Ha_has (by decide)) hP hK hE hS [4] rfl 4 (ci := 0) rfl rfl rfl rfl hl.1 rfl (Nat.le_of_ble_eq_true rfl) ⟨Nat.le_of_ble_eq_true rfl, Nat.le_of_ble_eq_true rfl⟩ d_X_corner_6 ?_
  refine z_if_eqB (tgt := 21) hC d_X_corner_9 (by decide) (fun h9 => ?_) (fun h9 => ?_)
  · refine z_ldc hC k_364 d_X_corner_21 ?_
    exact retv 23 _ _ d_X_corner_23 (by unfold corZ; rw [if_neg (by simp [h9])])
  · refine lv_iload_n hC.1 hC.2.1 d_X_corner_12 rfl (lv_at hl 3 rfl) ?_
    refine z_if_lt (tgt := 21) hC d_X_corner_13 (by decide) (by omega) (fun h13 => ?_) (fun h13 => ?_)
    · refine z_ldc hC k_364 d_X_corner_21 ?_
      exact retv 23 _ _ d_X_corner_23 (by unfold corZ; rw [if_neg (by simp; intros; first | omega | simp_all)])
    · refine lv_iload_n hC.1 hC.2.1 d_X_corner_16 rfl (lv_at hl 3 rfl) ?_
      refine z_iconst hC d_X_corner_17 ?_
      refine z_icmp_le (tgt := 24) hC d_X_corner_18 (by decide) (by omega) (by decide) (fun h18 => ?_) (fun h18 => ?_)
      · have hh := h9; unfold hasZ at hh; simp at hh
        refine lv_iload_n hC.1 hC.2.1 d_X_corner_24 rfl (lv_at hl 3 rfl) ?_
        refine z_iconst hC d_X_corner_25 ?_
        refine z_icmp_ne (tgt := 41) hC d_X_corner_26 (by decide) (by omega) (by decide) (fun h26 => ?_) (fun h26 => ?_)
        · refine lv_aload_n hC.1 hC.2.1 d_X_corner_41 rfl (lv_at hl 0 rfl) ?_
          refine z_get (ci := 4) (C := R_X) (T := F_X) (N := 8) (v := .ref qp) hC in_X hK hP 0 rfl rfl 5 (by decide) k_103 rfl d_X_corner_42 ?_
          refine z_getN (ci := 0) (C := R_Ha) (T := F_Ha) (N := 3) (v := .ref qn) hC in_Ha hK hP 4 rfl rfl 1 (by decide) hE.1.2.2.1 rfl d_X_corner_45 ?_
          refine lv_iload_n hC.1 hC.2.1 d_X_corner_48 rfl (lv_at hl 1 rfl) ?_
          refine lv_iload_n hC.1 hC.2.1 d_X_corner_49 rfl (lv_at hl 2 rfl) ?_
          refine z_roSi (As := [.int (iI n), .int (iI c)]) (rest := [.ref qn]) hC (c_Ha_at l D t ts n c (4 * c + 12 * n) (by omega)) (cw_S hC k_215 k_142 k_5 k_143 ye_Ha_at (by decide)) hP hK hE hS [] rfl rfl hl.1 rfl (Nat.le_of_ble_eq_true rfl) ⟨Nat.le_of_ble_eq_true rfl, Nat.le_of_ble_eq_true rfl⟩ d_X_corner_50 ?_
          refine lv_iload_n hC.1 hC.2.1 d_X_corner_53 rfl (lv_at hl 3 rfl) ?_
          refine z_iadd hC d_X_corner_54 ?_
          refine z_topi (z := 4 * c + i + 12 * n) (by omega) ?_
          refine z_iald hC hK hP 6 rfl (by omega) d_X_corner_55 ?_
          exact retv 56 _ _ d_X_corner_56 (by unfold corZ; rw [if_pos (by simp [h9]; omega)]; rw [if_neg (by omega)])
        · refine lv_aload_n hC.1 hC.2.1 d_X_corner_29 rfl (lv_at hl 0 rfl) ?_
          refine z_get (ci := 4) (C := R_X) (T := F_X) (N := 8) (v := .ref qp) hC in_X hK hP 0 rfl rfl 5 (by decide) k_103 rfl d_X_corner_30 ?_
          refine z_getN (ci := 0) (C := R_Ha) (T := F_Ha) (N := 3) (v := .ref qt) hC in_Ha hK hP 4 rfl rfl 0 (by decide) hE.1.1 rfl d_X_corner_33 ?_
          refine lv_iload_n hC.1 hC.2.1 d_X_corner_36 rfl (lv_at hl 1 rfl) ?_
          refine z_iald hC hK hP 5 rfl (by omega) d_X_corner_37 ?_
          refine z_goto (tgt := 56) hC d_X_corner_38 (by decide) ?_
          exact retv 56 _ _ d_X_corner_56 (by unfold corZ; rw [if_pos (by simp [h9]; omega)]; rw [if_pos (by omega)])
      · refine z_ldc hC k_364 d_X_corner_21 ?_
        exact retv 23 _ _ d_X_corner_23 (by unfold corZ; rw [if_neg (by simp; intros; first | omega | simp_all)])
theorem ye_X_star : ye y_X_star R_X 3 := by unfold ye; decide +kernel
abbrev rm_X_star : Room := { frames := 6, cells := 0, slots := 0, locals := 158 }
set_option maxHeartbeats 4000000 in
set_option maxRecDepth 100000 in
theorem c_X_star (l : Launch) (D : va_G) (t : vt) (ts : Nat → Nat) (x qs qr qw qg qu qp ql qh qt qn : Nat) (sp : Value) (lv z : Int) (Lo Hi T F : Int → Int) (hz : 0 ≤ z ∧ z ≤ 400) (hLo : bL Lo) (hHi : bL Hi) (hT : bT T) (hF : bF F) (n c w : Int) (hn : inI n) (hc : inI c) (hw : inI w) : Met l y_X_star (.code y_X_star b_X_star 8 (some .int) :: tb_ws) rm_X_star (RoP D t ts [.ref x, .int (iI n), .int (iI c), .int (iI w)] [(x, .inr (4, [.ref qs, .ref qr, .ref qw, .ref qg, .ref qu, .ref qp, sp, .int (iI lv)])), (qs, .inr (2, [.ref ql, .ref qh])), (ql, eL t.2.1 2000 Lo), (qh, eL t.2.1 2000 Hi), (qp, .inr (0, [.ref qt, .ref qn, .int (iI z)])), (qt, eI t.1 400 T), (qn, eI t.1 4800 F)]) (vp_Si (fun zr => zr = iI (starZ Lo Hi T F z n c w))) 0 0 (fun _ => False) := by
  refine ro_i (by decide +kernel) (Nat.le_of_ble_eq_true rfl) ?_
  intro zp ze zs zm zb zt zc zQ ls hC hP hK hE hl ret
  have hS : va_S (fun _ => False) zs.heap zs.heap [] := va_S.rf
  have hl : lv_has ls 8 [(0, .ref x), (1, .int (iI n)), (2, .int (iI c)), (3, .int (iI w))] := hl
  have retv : ∀ (pc : Nat) (ls : Array Slot) (zv : Int), decode b_X_star pc = .ok (.ireturn, 1) → zv = (starZ Lo Hi T F z n c w) → W zp l ze rm_X_star zs zm [.ref x, .int (iI n), .int (iI c), .int (iI w)].toArray zb zt zc zs.heap [] 0 0 zQ (F0 zm pc ls [.int (iI zv)]) := fun pc ls v d h => by rw [h]; exact ret pc ls d
  refine lv_aload_n hC.1 hC.2.1 d_X_star_0 rfl (lv_at hl 0 rfl) ?_
  refine z_get (ci := 4) (C := R_X) (T := F_X) (N := 8) (v := .ref qp) hC in_X hK hP 0 rfl rfl 5 (by decide) k_103 rfl d_X_star_1 ?_
  refine lv_iload_n hC.1 hC.2.1 d_X_star_4 rfl (lv_at hl 1 rfl) ?_
  refine lv_iload_n hC.1 hC.2.1 d_X_star_5 rfl (lv_at hl 2 rfl) ?_
  refine z_roVi (As := [.int (iI n), .int (iI c)]) (rest := []) hC (c_Ha_has l D t ts qp qt qn z n c (by omega) (by omega) (by omega)) (cw_V hC k_360 k_361 k_362 k_5 k_363 ye_Ha_has (by decide)) hP hK hE hS [4] rfl 4 (ci := 0) rfl rfl rfl rfl hl.1 rfl (Nat.le_of_ble_eq_true rfl) ⟨Nat.le_of_ble_eq_true rfl, Nat.le_of_ble_eq_true rfl⟩ d_X_star_6 ?_
  refine z_if_eqB (tgt := 21) hC d_X_star_9 (by decide) (fun h9 => ?_) (fun h9 => ?_)
  · refine z_iconst hC d_X_star_21 ?_
    exact retv 22 _ _ d_X_star_22 (by unfold starZ; rw [if_neg (by simp [h9])])
  · refine lv_iload_n hC.1 hC.2.1 d_X_star_12 rfl (lv_at hl 3 rfl) ?_
    refine z_if_lt (tgt := 21) hC d_X_star_13 (by decide) (by omega) (fun h13 => ?_) (fun h13 => ?_)
    · refine z_iconst hC d_X_star_21 ?_
      exact retv 22 _ _ d_X_star_22 (by unfold starZ; rw [if_neg (by simp; intros; omega)])
    · refine lv_iload_n hC.1 hC.2.1 d_X_star_16 rfl (lv_at hl 3 rfl) ?_
      refine z_iconst hC d_X_star_17 ?_
      refine z_icmp_le (tgt := 23) hC d_X_star_18 (by decide) (by omega) (by decide) (fun h18 => ?_) (fun h18 => ?_)
      · have hh := h9; unfold hasZ at hh; simp at hh
        refine z_iconst hC d_X_star_23 ?_
        refine lv_istore (lv' := [(4, .int (iI 0)), (0, .ref x), (1, .int (iI n)), (2, .int (iI c)), (3, .int (iI w))]) hC.1 hC.2.1 d_X_star_24 hl (by decide) rfl (fun ls hl => ?_)
        refine z_iconst hC d_X_star_26 ?_
        refine lv_istore (lv' := [(5, .int (iI 0)), (4, .int (iI 0)), (0, .ref x), (1, .int (iI n)), (2, .int (iI c)), (3, .int (iI w))]) hC.1 hC.2.1 d_X_star_27 hl (by decide) rfl (fun ls hl => ?_)
        refine z_iconst hC d_X_star_29 ?_
        refine lv_istore (lv' := [(6, .int (iI 0)), (5, .int (iI 0)), (4, .int (iI 0)), (0, .ref x), (1, .int (iI n)), (2, .int (iI c)), (3, .int (iI w))]) hC.1 hC.2.1 d_X_star_30 hl (by decide) rfl (fun ls hl => ?_)
        have L32 : ∀ (fu : Nat) (a : Int) (b : Int) (k : Int) (ls : Array Slot), z - k + 1 ≤ (fu : Int) → (0 ≤ k ∧ k ≤ z) → (a = cntZ k.toNat (fun m => crn F m n c)) → (b = sumZ k.toNat (stG T F n c)) → lv_has ls 8 [(6, .int (iI k)), (5, .int (iI b)), (4, .int (iI a)), (0, .ref x), (1, .int (iI n)), (2, .int (iI c)), (3, .int (iI w))] → W zp l ze rm_X_star zs zm [.ref x, .int (iI n), .int (iI c), .int (iI w)].toArray zb zt zc zs.heap [] 0 0 zQ (F0 zm 32 ls []) := by
          intro fu
          induction fu with
          | zero =>
            intro a b k ls hm32 hk ea eb hl
            exact absurd hm32 (by omega)
          | succ fu ih32 =>
            intro a b k ls hm32 hk ea eb hl
            refine lv_iload hC.1 hC.2.1 d_X_star_32 (lv_at hl 0 rfl) ?_
            refine lv_aload_n hC.1 hC.2.1 d_X_star_34 rfl (lv_at hl 3 rfl) ?_
            refine z_get (ci := 4) (C := R_X) (T := F_X) (N := 8) (v := .ref qp) hC in_X hK hP 0 rfl rfl 5 (by decide) k_103 rfl d_X_star_35 ?_
            refine z_getN (ci := 0) (C := R_Ha) (T := F_Ha) (N := 3) (v := .int (iI z)) hC in_Ha hK hP 4 rfl rfl 2 (by decide) hE.1.2.2.2.2.1 rfl d_X_star_38 ?_
            refine z_icmp_ge (tgt := 96) hC d_X_star_41 (by decide) (by omega) (by omega) (fun h41 => ?_) (fun h41 => ?_)
            · refine lv_iload_n hC.1 hC.2.1 d_X_star_96 rfl (lv_at hl 6 rfl) ?_
              refine z_if_ne (tgt := 103) hC d_X_star_97 (by decide) (by omega) (fun h97 => ?_) (fun h97 => ?_)
              · refine lv_iload_n hC.1 hC.2.1 d_X_star_103 rfl (lv_at hl 6 rfl) ?_
                refine z_iconst hC d_X_star_104 ?_
                refine z_icmp_ne (tgt := 111) hC d_X_star_105 (by decide) (by omega) (by decide) (fun h105 => ?_) (fun h105 => ?_)
                · have sb1 : -1200 ≤ b ∧ b ≤ 1200 := by rw [eb, show k = z by omega]; exact stA_in T F n c hz
                  refine lv_iload hC.1 hC.2.1 d_X_star_111 (lv_at hl 1 rfl) ?_
                  refine z_bipush hC d_X_star_113 (by decide) ?_
                  refine z_icmp_ne (tgt := 131) hC d_X_star_115 (by decide) (by omega) (by decide) (fun h115 => ?_) (fun h115 => ?_)
                  · refine z_iconst hC d_X_star_131 ?_
                    exact retv 132 _ _ d_X_star_132 (by unfold starZ; rw [if_pos (by simp [h9]; omega)]; have e1 : a = stH F z n c := (by rw [ea, show k = z by omega]; rfl); have e2 : b = stA T F z n c := (by rw [eb, show k = z by omega]; rfl); rw [if_neg (by omega), if_neg (by omega), if_neg (fun q => by first | omega | (rw [h124] at q; cases q.2))])
                  · refine lv_aload_n hC.1 hC.2.1 d_X_star_118 rfl (lv_at hl 3 rfl) ?_
                    refine lv_iload_n hC.1 hC.2.1 d_X_star_119 rfl (lv_at hl 4 rfl) ?_
                    refine lv_iload_n hC.1 hC.2.1 d_X_star_120 rfl (lv_at hl 5 rfl) ?_
                    refine z_roVi (As := [.int (iI n), .int (iI c)]) (rest := []) hC (c_X_starClashes l D t ts x qs qr qw qg qu qp ql qh qt qn sp lv z Lo Hi T F (by omega) hLo hHi hT hF n c (by omega) (by omega)) (cw_V hC k_371 k_373 kp_18 k_1 k_374 ye_X_starClashes (by decide)) hP hK hE hS [0, 1, 2, 3, 4, 5, 6] rfl 0 (ci := 4) rfl rfl rfl rfl hl.1 rfl (Nat.le_of_ble_eq_true rfl) ⟨Nat.le_of_ble_eq_true rfl, Nat.le_of_ble_eq_true rfl⟩ d_X_star_121 ?_
                    refine z_if_neB (tgt := 131) hC d_X_star_124 (by decide) (fun h124 => ?_) (fun h124 => ?_)
                    · refine z_iconst hC d_X_star_131 ?_
                      exact retv 132 _ _ d_X_star_132 (by unfold starZ; rw [if_pos (by simp [h9]; omega)]; have e1 : a = stH F z n c := (by rw [ea, show k = z by omega]; rfl); have e2 : b = stA T F z n c := (by rw [eb, show k = z by omega]; rfl); rw [if_neg (by omega), if_neg (by omega), if_neg (fun q => by first | omega | (rw [h124] at q; cases q.2))])
                    · refine z_iconst hC d_X_star_127 ?_
                      refine z_goto (tgt := 132) hC d_X_star_128 (by decide) ?_
                      exact retv 132 _ _ d_X_star_132 (by unfold starZ; rw [if_pos (by simp [h9]; omega)]; have e1 : a = stH F z n c := (by rw [ea, show k = z by omega]; rfl); have e2 : b = stA T F z n c := (by rw [eb, show k = z by omega]; rfl); rw [if_neg (by omega), if_neg (by omega), if_pos ⟨by omega, h124⟩])
                · refine lv_iload hC.1 hC.2.1 d_X_star_108 (lv_at hl 1 rfl) ?_
                  exact retv 110 _ _ d_X_star_110 (by unfold starZ; rw [if_pos (by simp [h9]; omega)]; have e1 : a = stH F z n c := (by rw [ea, show k = z by omega]; rfl); have e2 : b = stA T F z n c := (by rw [eb, show k = z by omega]; rfl); rw [if_neg (by omega), if_pos (by omega)]; exact e2)
              · refine lv_iload hC.1 hC.2.1 d_X_star_100 (lv_at hl 2 rfl) ?_
                exact retv 102 _ _ d_X_star_102 (by unfold starZ; rw [if_pos (by simp [h9]; omega)]; have e1 : a = stH F z n c := (by rw [ea, show k = z by omega]; rfl); have e2 : b = stA T F z n c := (by rw [eb, show k = z by omega]; rfl); rw [if_pos (by omega)]; exact e1)
            · refine lv_aload_n hC.1 hC.2.1 d_X_star_44 rfl (lv_at hl 3 rfl) ?_
              refine z_get (ci := 4) (C := R_X) (T := F_X) (N := 8) (v := .ref qp) hC in_X hK hP 0 rfl rfl 5 (by decide) k_103 rfl d_X_star_45 ?_
              refine lv_iload hC.1 hC.2.1 d_X_star_48 (lv_at hl 0 rfl) ?_
              refine lv_iload_n hC.1 hC.2.1 d_X_star_50 rfl (lv_at hl 4 rfl) ?_
              refine lv_iload_n hC.1 hC.2.1 d_X_star_51 rfl (lv_at hl 5 rfl) ?_
              refine z_roVi (As := [.int (iI k), .int (iI n), .int (iI c)]) (rest := []) hC (c_Ha_cornerAt l D t ts qp qt qn z F k n c (by omega) (by omega) (by omega) hF) (cw_V hC k_329 k_330 k_331 k_5 k_332 ye_Ha_cornerAt (by decide)) hP hK hE hS [4, 6] rfl 4 (ci := 0) rfl rfl rfl rfl hl.1 rfl (Nat.le_of_ble_eq_true rfl) ⟨Nat.le_of_ble_eq_true rfl, Nat.le_of_ble_eq_true rfl⟩ d_X_star_52 ?_
              refine lv_istore (lv' := [(7, .int (iI (cAt F k n c))), (6, .int (iI k)), (5, .int (iI b)), (4, .int (iI a)), (0, .ref x), (1, .int (iI n)), (2, .int (iI c)), (3, .int (iI w))]) hC.1 hC.2.1 d_X_star_55 hl (by decide) rfl (fun ls hl => ?_)
              refine lv_iload hC.1 hC.2.1 d_X_star_57 (lv_at hl 0 rfl) ?_
              refine z_iconst hC d_X_star_59 ?_
              refine z_icmp_eq (tgt := 90) hC d_X_star_60 (by decide) (by have := cAt_in F k n c; omega) (by decide) (fun h60 => ?_) (fun h60 => ?_)
              · refine lv_iinc (v := iI (k + 1)) (lv' := [(6, .int (iI (k + 1))), (7, .int (iI (cAt F k n c))), (5, .int (iI b)), (4, .int (iI a)), (0, .ref x), (1, .int (iI n)), (2, .int (iI c)), (3, .int (iI w))]) hC.1 hC.2.1 d_X_star_90 hl (k := 1) rfl (z_inc (by omega)) (by decide) rfl (fun ls hl => ?_)
                refine z_goto (tgt := 32) hC d_X_star_93 (by decide) ?_
                exact ih32 a b (k + 1) _ (by omega) (by omega) (by rw [cntZ_s (by omega), ← ea]; unfold crn; simp [h60]) (by rw [sumZ_s (by omega), ← eb]; unfold stG crn; simp [h60]) (lv_sub hl [0, 2, 3, 4, 5, 6, 7] rfl)
              · have t1 := hT k
                have c1 := cAt_in F k n c
                refine lv_iinc (v := iI (a + 1)) (lv' := [(4, .int (iI (a + 1))), (7, .int (iI (cAt F k n c))), (6, .int (iI k)), (5, .int (iI b)), (0, .ref x), (1, .int (iI n)), (2, .int (iI c)), (3, .int (iI w))]) hC.1 hC.2.1 d_X_star_63 hl (k := 3) rfl (z_inc (by omega)) (by decide) rfl (fun ls hl => ?_)
                refine lv_iload hC.1 hC.2.1 d_X_star_66 (lv_at hl 3 rfl) ?_
                refine z_gets hC hE.2.2.2.2.2.2.2.2.2.1 hS k_369 d_X_star_68 ?_
                refine z_iconst hC d_X_star_71 ?_
                refine lv_aload_n hC.1 hC.2.1 d_X_star_72 rfl (lv_at hl 4 rfl) ?_
                refine z_get (ci := 4) (C := R_X) (T := F_X) (N := 8) (v := .ref qp) hC in_X hK hP 0 rfl rfl 5 (by decide) k_103 rfl d_X_star_73 ?_
                refine z_getN (ci := 0) (C := R_Ha) (T := F_Ha) (N := 3) (v := .ref qt) hC in_Ha hK hP 4 rfl rfl 0 (by decide) hE.1.1 rfl d_X_star_76 ?_
                refine lv_iload hC.1 hC.2.1 d_X_star_79 (lv_at hl 2 rfl) ?_
                refine z_iald hC hK hP 5 rfl (by omega) d_X_star_81 ?_
                refine z_imul hC d_X_star_82 ?_
                refine z_topi (z := 3 * T k) (by omega) ?_
                refine lv_iload hC.1 hC.2.1 d_X_star_83 (lv_at hl 1 rfl) ?_
                refine z_iadd hC d_X_star_85 ?_
                refine z_topi (z := 3 * T k + cAt F k n c) (by omega) ?_
                refine z_ti hC hE.2.2.2.2.2.2.2.2.2.2.1 hS (by omega) d_X_star_86 ?_
                refine z_iadd hC d_X_star_87 ?_
                refine z_topi (z := b + z_ANGLES (3 * T k + cAt F k n c)) (by omega) ?_
                refine lv_istore (lv' := [(5, .int (iI (b + z_ANGLES (3 * T k + cAt F k n c)))), (4, .int (iI (a + 1))), (7, .int (iI (cAt F k n c))), (6, .int (iI k)), (0, .ref x), (1, .int (iI n)), (2, .int (iI c)), (3, .int (iI w))]) hC.1 hC.2.1 d_X_star_88 hl (by decide) rfl (fun ls hl => ?_)
                refine lv_iinc (v := iI (k + 1)) (lv' := [(6, .int (iI (k + 1))), (5, .int (iI (b + z_ANGLES (3 * T k + cAt F k n c)))), (4, .int (iI (a + 1))), (7, .int (iI (cAt F k n c))), (0, .ref x), (1, .int (iI n)), (2, .int (iI c)), (3, .int (iI w))]) hC.1 hC.2.1 d_X_star_90 hl (k := 3) rfl (z_inc (by omega)) (by decide) rfl (fun ls hl => ?_)
                refine z_goto (tgt := 32) hC d_X_star_93 (by decide) ?_
                exact ih32 (a + 1) (b + z_ANGLES (3 * T k + cAt F k n c)) (k + 1) _ (by omega) (by omega) (by rw [cntZ_s (by omega), ← ea]; unfold crn; simp [h60]) (by rw [sumZ_s (by omega), ← eb]; unfold stG crn; simp [h60]) (lv_sub hl [0, 1, 2, 4, 5, 6, 7] rfl)
        exact L32 (z - 0 + 1 : Int).toNat 0 0 0 _ (by omega) (by omega) (by rfl) (by rfl) (lv_sub hl [0, 1, 2, 3, 4, 5, 6] rfl)
      · refine z_iconst hC d_X_star_21 ?_
        exact retv 22 _ _ d_X_star_22 (by unfold starZ; rw [if_neg (by simp; intros; omega)])
theorem ye_X_clash : ye y_X_clash R_X 0 := by unfold ye; decide +kernel
abbrev rm_X_clash : Room := { frames := 6, cells := 0, slots := 0, locals := 156 }
set_option maxHeartbeats 4000000 in
set_option maxRecDepth 100000 in
theorem c_X_clash (l : Launch) (D : va_G) (t : vt) (ts : Nat → Nat) (x qs qr qw qg qu qp ql qh qt qn : Nat) (sp : Value) (lv z : Int) (Lo Hi T F : Int → Int) (hz : 0 ≤ z ∧ z ≤ 400) (hLo : bL Lo) (hHi : bL Hi) (hT : bT T) (hF : bF F) : Met l y_X_clash (.code y_X_clash b_X_clash 2 (some .int) :: tb_ws) rm_X_clash (RoP D t ts [.ref x] [(x, .inr (4, [.ref qs, .ref qr, .ref qw, .ref qg, .ref qu, .ref qp, sp, .int (iI lv)])), (qs, .inr (2, [.ref ql, .ref qh])), (ql, eL t.2.1 2000 Lo), (qh, eL t.2.1 2000 Hi), (qp, .inr (0, [.ref qt, .ref qn, .int (iI z)])), (qt, eI t.1 400 T), (qn, eI t.1 4800 F)]) (vp_Si (fun zr => zr = iI (clashZ Lo Hi T F z))) 0 0 (fun _ => False) := by
  refine ro_i (by decide +kernel) (Nat.le_of_ble_eq_true rfl) ?_
  intro zp ze zs zm zb zt zc zQ ls hC hP hK hE hl ret
  have hS : va_S (fun _ => False) zs.heap zs.heap [] := va_S.rf
  have hl : lv_has ls 2 [(0, .ref x)] := hl
  have retv : ∀ (pc : Nat) (ls : Array Slot) (zv : Int), decode b_X_clash pc = .ok (.ireturn, 1) → zv = (clashZ Lo Hi T F z) → W zp l ze rm_X_clash zs zm [.ref x].toArray zb zt zc zs.heap [] 0 0 zQ (F0 zm pc ls [.int (iI zv)]) := fun pc ls v d h => by rw [h]; exact ret pc ls d
  refine z_iconst hC d_X_clash_0 ?_
  refine lv_istore_n (lv' := [(1, .int (iI 1)), (0, .ref x)]) hC.1 hC.2.1 d_X_clash_1 rfl hl (by decide) rfl (fun ls hl => ?_)
  have L2 : ∀ (fu : Nat) (k : Int) (ls : Array Slot), 402 - k ≤ (fu : Int) → (1 ≤ k ∧ (k ≤ z ∨ k = 1)) → (∀ j, 0 ≤ j → j < k → (decide (1 ≤ j) && eaZ Lo Hi T F j) = false) → lv_has ls 2 [(1, .int (iI k)), (0, .ref x)] → W zp l ze rm_X_clash zs zm [.ref x].toArray zb zt zc zs.heap [] 0 0 zQ (F0 zm 2 ls []) := by
    intro fu
    induction fu with
    | zero =>
      intro k ls hm2 hk hi hl
      exact absurd hm2 (by omega)
    | succ fu ih2 =>
      intro k ls hm2 hk hi hl
      refine lv_iload_n hC.1 hC.2.1 d_X_clash_2 rfl (lv_at hl 0 rfl) ?_
      refine lv_aload_n hC.1 hC.2.1 d_X_clash_3 rfl (lv_at hl 1 rfl) ?_
      refine z_get (ci := 4) (C := R_X) (T := F_X) (N := 8) (v := .ref qp) hC in_X hK hP 0 rfl rfl 5 (by decide) k_103 rfl d_X_clash_4 ?_
      refine z_getN (ci := 0) (C := R_Ha) (T := F_Ha) (N := 3) (v := .int (iI z)) hC in_Ha hK hP 4 rfl rfl 2 (by decide) hE.1.2.2.2.2.1 rfl d_X_clash_7 ?_
      refine z_icmp_ge (tgt := 31) hC d_X_clash_10 (by decide) (by omega) (by omega) (fun h10 => ?_) (fun h10 => ?_)
      · refine z_iconst hC d_X_clash_31 ?_
        exact retv 32 _ _ d_X_clash_32 (by unfold clashZ; rw [fstZ_none (fun j h1 h2 => hi j h1 (by omega))]; rfl)
      · refine lv_aload_n hC.1 hC.2.1 d_X_clash_13 rfl (lv_at hl 1 rfl) ?_
        refine lv_iload_n hC.1 hC.2.1 d_X_clash_14 rfl (lv_at hl 0 rfl) ?_
        refine z_roVi (As := [.int (iI k)]) (rest := []) hC (c_X_clashesWithEarlier l D t ts x qs qr qw qg qu qp ql qh qt qn sp lv z Lo Hi T F (by omega) hLo hHi hT hF k (by omega)) (cw_V hC k_193 k_195 kp_1 k_1 k_196 ye_X_clashesWithEarlier (by decide)) hP hK hE hS [0, 1, 2, 3, 4, 5, 6] rfl 0 (ci := 4) rfl rfl rfl rfl hl.1 rfl (Nat.le_of_ble_eq_true rfl) ⟨Nat.le_of_ble_eq_true rfl, Nat.le_of_ble_eq_true rfl⟩ d_X_clash_15 ?_
        refine z_if_eqB (tgt := 25) hC d_X_clash_18 (by decide) (fun h18 => ?_) (fun h18 => ?_)
        · refine lv_iinc (v := iI (k + 1)) (lv' := [(1, .int (iI (k + 1))), (0, .ref x)]) hC.1 hC.2.1 d_X_clash_25 hl (k := 0) rfl (z_inc (by omega)) (by decide) rfl (fun ls hl => ?_)
          refine z_goto (tgt := 2) hC d_X_clash_28 (by decide) ?_
          exact ih2 (k + 1) _ (by omega) (by omega) (stepF hi (by simp [h18])) (lv_sub hl [0, 1] rfl)
        · refine lv_iload_n hC.1 hC.2.1 d_X_clash_21 rfl (lv_at hl 0 rfl) ?_
          refine z_iconst hC d_X_clash_22 ?_
          refine z_iadd hC d_X_clash_23 ?_
          exact retv 24 _ _ d_X_clash_24 (by unfold clashZ; rw [fstZ_at (k := k) (by omega) (by omega) hi (by simp [h18]; omega)]; omega)
  exact L2 (402 - 1 : Int).toNat 1 _ (by omega) (by omega) (by intro j h1 h2; simp; omega) (lv_sub hl [0, 1] rfl)
