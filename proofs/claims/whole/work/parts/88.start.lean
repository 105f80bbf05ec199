/-! THE LAW: its rows and its start -/
abbrev lA (s : State) : Nat → Prop := fun q => s.heap.size ≤ q
section ZL
variable {p : Program} {l : Launch} {e : Env} {R : Room} {s : State} {m : MethodId} {args : Array Value} {below : List Frame} {meth : Method} {c : Code} {H : Heap} {locs : List Loc} {cells slots : Nat} {Q : State → Prop} {cc : ByteArray} {pc nL : Nat} {ls : Array Slot} {rest : List Value} {own : String} {A : Nat → Prop} {b L : Nat} {xs : Nat → Int32} {H0 : Heap}
theorem z_sld (hC : CallFix p m c cc nL s args tb_ws own) (hX : va_X b L xs s H0) (hbl : b < H0.size) (hbA : ¬ A b) (hS : va_S A H0 H locs) {i : Int} (hi : 0 ≤ i ∧ i < L ∧ (L : Int) ≤ 4096) (d : decode cc pc = .ok (.iaload, 1)) (k : W p l e R s m args below meth c H locs cells slots Q (F0 m (pc + 1) ls (.int (iI (xs i.toNat).toInt) :: rest))) : W p l e R s m args below meth c H locs cells slots Q (F0 m pc ls (.int (iI i) :: .ref b :: rest)) :=
  va_sld hC.1 hC.2.1 hX hbl hbA hS (iI_in (by omega) ⟨hi.1, hi.2.1⟩) d (by rw [iI_clamp (by omega), ← iI_of (xs i.toNat)]; exact k)
theorem z_slen (hC : CallFix p m c cc nL s args tb_ws own) (hX : va_X b L xs s H0) (hbl : b < H0.size) (hbA : ¬ A b) (hS : va_S A H0 H locs) (d : decode cc pc = .ok (.arraylength, 1)) (k : W p l e R s m args below meth c H locs cells slots Q (F0 m (pc + 1) ls (.int (iI L) :: rest))) : W p l e R s m args below meth c H locs cells slots Q (F0 m pc ls (.ref b :: rest)) :=
  va_slen hC.1 hC.2.1 hX hbl hbA hS d (by rw [iI_nat]; exact k)
theorem z_same (hC : CallFix p m c cc nL s args tb_ws own) {x y off : Int} {tgt : Nat} (d : decode cc pc = .ok (.if_icmp .eq off, 3)) (ht : (pc : Int) + off = (tgt : Int)) (h : x = y) (k : W p l e R s m args below meth c H locs cells slots Q (F0 m tgt ls rest)) : W p l e R s m args below meth c H locs cells slots Q (F0 m pc ls (.int (iI y) :: .int (iI x) :: rest)) := by
  subst h
  exact lv_icmp_eq hC.1 hC.2.1 d ht (fun _ => k) (fun q => absurd rfl q)
theorem lg_self (x : Int64) : lg_cmp x x = iI 0 := by
  unfold lg_cmp
  rw [if_neg (Int64.lt_irrefl), if_pos rfl]; decide
theorem z_sameL (hC : CallFix p m c cc nL s args tb_ws own) {x y off : Int} {tgt : Nat} (d1 : decode cc pc = .ok (.lcmp, 1)) (d : decode cc (pc + 1) = .ok (.ifCond .eq off, 3)) (ht : ((pc + 1 : Nat) : Int) + off = (tgt : Int)) (h : x = y) (k : W p l e R s m args below meth c H locs cells slots Q (F0 m tgt ls rest)) : W p l e R s m args below meth c H locs cells slots Q (F0 m pc ls (.long (lI y) :: .long (lI x) :: rest)) := by
  subst h
  refine W.lcmp hC.1 hC.2.1 d1 ?_
  rw [lg_self]
  exact z_if_eq hC d ht inI_0 (fun _ => k) (fun q => absurd rfl q)
theorem and_15 (x : Int32) : x &&& iI 15 = iI (x.toInt % 16) := by
  apply Int32.toBitVec_inj.mp
  apply BitVec.eq_of_toNat_eq
  rw [Int32.toBitVec_and, BitVec.toNat_and]
  have e : (iI 15).toBitVec.toNat = 2 ^ 4 - 1 := by decide
  rw [e, Nat.and_two_pow_sub_one_eq_mod]
  have g : x.toInt = x.toBitVec.toInt := rfl
  have q : (iI (x.toInt % 16)).toBitVec.toNat = ((x.toInt % 16) % 4294967296).toNat := by
    show (BitVec.ofInt 32 (x.toInt % 16)).toNat = _
    rw [BitVec.toNat_ofInt]; rfl
  rw [q, g, BitVec.toInt_eq_toNat_bmod, Int.bmod_def]
  have lt := x.toBitVec.isLt
  split <;> omega
theorem z_and15 (hC : CallFix p m c cc nL s args tb_ws own) {x : Int} (hx : inI x) (d : decode cc pc = .ok (.iand, 1)) (k : W p l e R s m args below meth c H locs cells slots Q (F0 m (pc + 1) ls (.int (iI (x % 16)) :: rest))) : W p l e R s m args below meth c H locs cells slots Q (F0 m pc ls (.int (iI 15) :: .int (iI x) :: rest)) :=
  lv_iand hC.1 hC.2.1 d (by rw [and_15, iI_toInt hx]; exact k)
end ZL
theorem arr_v4 (cA : ClassId) (f : Int → Int) : vp_cell cA (4, .inr (.inl (aL f))) = vp_cell cA (4, .inr (.inl (aL (v4 (f 0) (f 1) (f 2) (f 3))))) := by
  show arrV cA 4 (fun j => .long (aL f j)) = arrV cA 4 (fun j => .long (aL (v4 (f 0) (f 1) (f 2) (f 3)) j))
  unfold arrV
  congr 1
/-- a row of four, its places told -/
theorem P_v4 {D : va_G} {cl : List vw_C} {ws : va_W} {H : Heap} (h : va_P D cl ws H) (i : Nat) {q : Nat} {cA : ClassId} {f : Int → Int} (e : ws[i]? = some (q, eL cA 4 f)) : va_P D cl (ws.set i (q, eL cA 4 (v4 (f 0) (f 1) (f 2) (f 3)))) H := by
  intro k r hr
  rw [List.getElem?_set] at hr
  by_cases c : i = k
  · rw [if_pos c] at hr
    by_cases g : i < ws.length
    · rw [if_pos g] at hr
      cases hr
      have w := h i _ e
      show H[q]? = some (vp_cell cA (4, .inr (.inl (aL (v4 (f 0) (f 1) (f 2) (f 3))))))
      rw [← arr_v4]; exact w
    · rw [if_neg g] at hr; cases hr
  · rw [if_neg c] at hr; exact h k r hr
theorem D_set {A : Nat → Prop} {ws : va_W} (h : va_D A ws) (i : Nat) {q : Nat} {x y : va_E} (e : ws[i]? = some (q, x)) : va_D A (ws.set i (q, y)) := by
  have key : ∀ (k : Nat) (r : Nat × va_E), (ws.set i (q, y))[k]? = some r → ∃ r', ws[k]? = some r' ∧ r'.1 = r.1 := by
    intro k r hr
    rw [List.getElem?_set] at hr
    by_cases c : i = k
    · rw [if_pos c] at hr
      by_cases g : i < ws.length
      · rw [if_pos g] at hr
        cases hr
        exact ⟨(q, x), by rw [← c]; exact e, rfl⟩
      · rw [if_neg g] at hr; cases hr
    · rw [if_neg c] at hr; exact ⟨r, hr, rfl⟩
  refine ⟨fun a b p r ha hb hh => ?_, fun k r hr => ?_⟩
  · obtain ⟨p', hp, ep⟩ := key a p ha
    obtain ⟨r', hr, er⟩ := key b r hb
    exact h.1 a b p' r' hp hr (by rw [ep, er, hh])
  · obtain ⟨r', hr', er⟩ := key k r hr
    rw [← er]; exact h.2 k r' hr' 
theorem ew_UNITS : ∀ j : Nat, j < 44 → Cond.eq (.elem (.static "FloorShop" "UNITS" "[I") (.int (Int32.ofNat j))) (.int (iI (z_UNITS j))) ∈ flatC (Jvm.Cond.and given_1 narrow_1) := by decide +kernel
theorem es_UNITS {s : State} {args : Array Value} (hgv : (Jvm.Cond.and given_1 narrow_1).before args s = true) (hts : ∀ w ∈ lw_tbl, w.before args s = true) : ∃ q : Nat, va_Z "FloorShop" "UNITS" "[I" (.ref q) (lA s) s s.heap ∧ va_T .int q 44 (fun j => .int (iI (z_UNITS j))) (lA s) s s.heap := by
  have hs := flat_of_before _ hgv
  have hA : ∀ a : Nat, a < s.heap.size → ¬ lA s a := fun a h => Nat.not_le.mpr h
  obtain ⟨q, e, T⟩ := va_Tof (A := lA s) (tm := (.static "FloorShop" "UNITS" "[I")) (ty := .int) (N := 44) (f := fun j => .int (iI (z_UNITS j))) (by decide) (hs _ (by decide +kernel)) (va_eqt (z := 44) (hs _ (by decide +kernel))) (fun j hj => va_eqt (hs _ (ew_UNITS j hj))) hA
  exact ⟨q, va_Zof (hts _ (List.mem_append_right _ (List.mem_of_getElem? (i := 132) (by decide +kernel)))) (hts _ (List.mem_append_right _ (List.mem_of_getElem? (i := 1) (by decide +kernel)))) e hA, T⟩
theorem ew_EDGE_BEGINS : ∀ j : Nat, j < 6 → Cond.eq (.elem (.static "FloorShop" "EDGE_BEGINS" "[I") (.int (Int32.ofNat j))) (.int (iI (z_EDGE_BEGINS j))) ∈ flatC (Jvm.Cond.and given_1 narrow_1) := by decide +kernel
theorem es_EDGE_BEGINS {s : State} {args : Array Value} (hgv : (Jvm.Cond.and given_1 narrow_1).before args s = true) (hts : ∀ w ∈ lw_tbl, w.before args s = true) : ∃ q : Nat, va_Z "FloorShop" "EDGE_BEGINS" "[I" (.ref q) (lA s) s s.heap ∧ va_T .int q 6 (fun j => .int (iI (z_EDGE_BEGINS j))) (lA s) s s.heap := by
  have hs := flat_of_before _ hgv
  have hA : ∀ a : Nat, a < s.heap.size → ¬ lA s a := fun a h => Nat.not_le.mpr h
  obtain ⟨q, e, T⟩ := va_Tof (A := lA s) (tm := (.static "FloorShop" "EDGE_BEGINS" "[I")) (ty := .int) (N := 6) (f := fun j => .int (iI (z_EDGE_BEGINS j))) (by decide) (hs _ (by decide +kernel)) (va_eqt (z := 6) (hs _ (by decide +kernel))) (fun j hj => va_eqt (hs _ (ew_EDGE_BEGINS j hj))) hA
  exact ⟨q, va_Zof (hts _ (List.mem_append_right _ (List.mem_of_getElem? (i := 214) (by decide +kernel)))) (hts _ (List.mem_append_right _ (List.mem_of_getElem? (i := 1) (by decide +kernel)))) e hA, T⟩
theorem ew_EDGE_ENDS : ∀ j : Nat, j < 6 → Cond.eq (.elem (.static "FloorShop" "EDGE_ENDS" "[I") (.int (Int32.ofNat j))) (.int (iI (z_EDGE_ENDS j))) ∈ flatC (Jvm.Cond.and given_1 narrow_1) := by decide +kernel
theorem es_EDGE_ENDS {s : State} {args : Array Value} (hgv : (Jvm.Cond.and given_1 narrow_1).before args s = true) (hts : ∀ w ∈ lw_tbl, w.before args s = true) : ∃ q : Nat, va_Z "FloorShop" "EDGE_ENDS" "[I" (.ref q) (lA s) s s.heap ∧ va_T .int q 6 (fun j => .int (iI (z_EDGE_ENDS j))) (lA s) s s.heap := by
  have hs := flat_of_before _ hgv
  have hA : ∀ a : Nat, a < s.heap.size → ¬ lA s a := fun a h => Nat.not_le.mpr h
  obtain ⟨q, e, T⟩ := va_Tof (A := lA s) (tm := (.static "FloorShop" "EDGE_ENDS" "[I")) (ty := .int) (N := 6) (f := fun j => .int (iI (z_EDGE_ENDS j))) (by decide) (hs _ (by decide +kernel)) (va_eqt (z := 6) (hs _ (by decide +kernel))) (fun j hj => va_eqt (hs _ (ew_EDGE_ENDS j hj))) hA
  exact ⟨q, va_Zof (hts _ (List.mem_append_right _ (List.mem_of_getElem? (i := 217) (by decide +kernel)))) (hts _ (List.mem_append_right _ (List.mem_of_getElem? (i := 1) (by decide +kernel)))) e hA, T⟩
theorem ew_EDGE_MARKS : ∀ j : Nat, j < 6 → Cond.eq (.elem (.static "FloorShop" "EDGE_MARKS" "[I") (.int (Int32.ofNat j))) (.int (iI (z_EDGE_MARKS j))) ∈ flatC (Jvm.Cond.and given_1 narrow_1) := by decide +kernel
theorem es_EDGE_MARKS {s : State} {args : Array Value} (hgv : (Jvm.Cond.and given_1 narrow_1).before args s = true) (hts : ∀ w ∈ lw_tbl, w.before args s = true) : ∃ q : Nat, va_Z "FloorShop" "EDGE_MARKS" "[I" (.ref q) (lA s) s s.heap ∧ va_T .int q 6 (fun j => .int (iI (z_EDGE_MARKS j))) (lA s) s s.heap := by
  have hs := flat_of_before _ hgv
  have hA : ∀ a : Nat, a < s.heap.size → ¬ lA s a := fun a h => Nat.not_le.mpr h
  obtain ⟨q, e, T⟩ := va_Tof (A := lA s) (tm := (.static "FloorShop" "EDGE_MARKS" "[I")) (ty := .int) (N := 6) (f := fun j => .int (iI (z_EDGE_MARKS j))) (by decide) (hs _ (by decide +kernel)) (va_eqt (z := 6) (hs _ (by decide +kernel))) (fun j hj => va_eqt (hs _ (ew_EDGE_MARKS j hj))) hA
  exact ⟨q, va_Zof (hts _ (List.mem_append_right _ (List.mem_of_getElem? (i := 219) (by decide +kernel)))) (hts _ (List.mem_append_right _ (List.mem_of_getElem? (i := 1) (by decide +kernel)))) e hA, T⟩
theorem ew_ANGLES : ∀ j : Nat, j < 6 → Cond.eq (.elem (.static "FloorShop" "ANGLES" "[I") (.int (Int32.ofNat j))) (.int (iI (z_ANGLES j))) ∈ flatC (Jvm.Cond.and given_1 narrow_1) := by decide +kernel
theorem es_ANGLES {s : State} {args : Array Value} (hgv : (Jvm.Cond.and given_1 narrow_1).before args s = true) (hts : ∀ w ∈ lw_tbl, w.before args s = true) : ∃ q : Nat, va_Z "FloorShop" "ANGLES" "[I" (.ref q) (lA s) s s.heap ∧ va_T .int q 6 (fun j => .int (iI (z_ANGLES j))) (lA s) s s.heap := by
  have hs := flat_of_before _ hgv
  have hA : ∀ a : Nat, a < s.heap.size → ¬ lA s a := fun a h => Nat.not_le.mpr h
  obtain ⟨q, e, T⟩ := va_Tof (A := lA s) (tm := (.static "FloorShop" "ANGLES" "[I")) (ty := .int) (N := 6) (f := fun j => .int (iI (z_ANGLES j))) (by decide) (hs _ (by decide +kernel)) (va_eqt (z := 6) (hs _ (by decide +kernel))) (fun j hj => va_eqt (hs _ (ew_ANGLES j hj))) hA
  exact ⟨q, va_Zof (hts _ (List.mem_append_right _ (List.mem_of_getElem? (i := 370) (by decide +kernel)))) (hts _ (List.mem_append_right _ (List.mem_of_getElem? (i := 1) (by decide +kernel)))) e hA, T⟩
theorem ew_RISES : ∀ j : Nat, j < 20 → Cond.eq (.elem (.static "FloorShop$Points" "RISES" "[J") (.int (Int32.ofNat j))) (.long (lI (z_RISES j))) ∈ flatC (Jvm.Cond.and given_1 narrow_1) := by decide +kernel
theorem es_RISES {s : State} {args : Array Value} (hgv : (Jvm.Cond.and given_1 narrow_1).before args s = true) (hts : ∀ w ∈ lw_tbl, w.before args s = true) : ∃ q : Nat, va_Z "FloorShop$Points" "RISES" "[J" (.ref q) (lA s) s s.heap ∧ va_T .long q 20 (fun j => .long (lI (z_RISES j))) (lA s) s s.heap := by
  have hs := flat_of_before _ hgv
  have hA : ∀ a : Nat, a < s.heap.size → ¬ lA s a := fun a h => Nat.not_le.mpr h
  obtain ⟨q, e, T⟩ := va_Tof (A := lA s) (tm := (.static "FloorShop$Points" "RISES" "[J")) (ty := .long) (N := 20) (f := fun j => .long (lI (z_RISES j))) (by decide) (hs _ (by decide +kernel)) (va_eqt (z := 20) (hs _ (by decide +kernel))) (fun j hj => va_eqtl (hs _ (ew_RISES j hj))) hA
  exact ⟨q, va_Zof (hts _ (List.mem_append_right _ (List.mem_of_getElem? (i := 160) (by decide +kernel)))) (hts _ (List.mem_append_right _ (List.mem_of_getElem? (i := 8) (by decide +kernel)))) e hA, T⟩
theorem ar_known {s : State} {args : Array Value} {ty : FieldType} (h : (Cond.arrayClass ty).before args s = true) : ∃ cA : ClassId, ArrOfT s cA ty ∧ s.vm.findClass ("[" ++ ty.toString) = some cA := by
  obtain ⟨cA, kA, comp, hfind, hk, hkind⟩ := Cond.arrayClass_spec h
  exact ⟨cA, fun n z => ⟨fun k h => (by cases h), kA, hk, comp, hkind⟩, hfind⟩
theorem law_set {p : Program} {s : State} {m : MethodId} {meth : Method} {c : Code} {b L : Nat} {xs : Nat → Int32} (C0 : lw_At p s m meth c b L xs) : ∃ (D : va_G) (t : vt) (ts : Nat → Nat), CallFix p m c code 4 s #[Value.ref b] tb_ws R_La ∧ va_K D classes (TY t) s ∧ ev ts (lA s) s := by
  obtain ⟨hx, hb, hr, hml, hown, hts, hX, hbl, hlocks, hgv⟩ := C0
  have hw : ∀ w ∈ tb_ws, w.before #[Value.ref b] s = true := fun w h => hts w (List.mem_filter.mp h).1
  obtain ⟨c0, i0, h0⟩ := u_known (C := R_Ha) (T := F_Ha) (N := 3) (n := 3) hw in_Ha (hw _ k_77)
  obtain ⟨c1, i1, h1⟩ := u_known (C := R_Ru) (T := F_Ru) (N := 7) (n := 7) hw in_Ru (hw _ k_36)
  obtain ⟨c2, i2, h2⟩ := u_known (C := R_St) (T := F_St) (N := 2) (n := 2) hw in_St (hw _ k_22)
  obtain ⟨c3, i3, h3⟩ := u_known (C := R_Wi) (T := F_Wi) (N := 2) (n := 2) hw in_Wi (hw _ k_42)
  obtain ⟨c4, i4, h4⟩ := u_known (C := R_X) (T := F_X) (N := 8) (n := 8) hw in_X (hw _ k_14)
  obtain ⟨c5, i5, h5⟩ := u_known (C := R_Mo) (T := F_Mo) (N := 21) (n := 21) hw in_Mo (hw _ k_448)
  obtain ⟨t0, a0, f0⟩ := ar_known (hw _ k_97)
  obtain ⟨t1, a1, f1⟩ := ar_known (hw _ k_34)
  obtain ⟨t2, a2, f2⟩ := ar_known (hw _ k_517)
  obtain ⟨q0, Z0, T0⟩ := es_UNITS hgv hts
  obtain ⟨q1, Z1, T1⟩ := es_EDGE_BEGINS hgv hts
  obtain ⟨q2, Z2, T2⟩ := es_EDGE_ENDS hgv hts
  obtain ⟨q3, Z3, T3⟩ := es_EDGE_MARKS hgv hts
  obtain ⟨q4, Z4, T4⟩ := es_ANGLES hgv hts
  obtain ⟨q5, Z5, T5⟩ := es_RISES hgv hts
  refine ⟨(fun k => if k = 0 then c0 else if k = 1 then c1 else if k = 2 then c2 else if k = 3 then c3 else if k = 4 then c4 else c5, fun k => if k = 0 then i0 else if k = 1 then i1 else if k = 2 then i2 else if k = 3 then i3 else if k = 4 then i4 else i5), (t0, t1, t2), fun k => if k = 0 then q0 else if k = 1 then q1 else if k = 2 then q2 else if k = 3 then q3 else if k = 4 then q4 else q5, ⟨hx, hb, hml, hown, hw⟩, ⟨?_, ?_⟩, ⟨?_, Z0, T0, Z1, T1, Z2, T2, Z3, T3, Z4, T4, Z5, T5⟩⟩
  · intro k q hq
    match k, hq with
    | 0, hq => cases hq; exact h0
    | 1, hq => cases hq; exact h1
    | 2, hq => cases hq; exact h2
    | 3, hq => cases hq; exact h3
    | 4, hq => cases hq; exact h4
    | 5, hq => cases hq; exact h5
    | k + 6, hq => simp [classes] at hq
  · intro k q hq
    match k, hq with
    | 0, hq => cases hq; exact ⟨a0, f0⟩
    | 1, hq => cases hq; exact ⟨a1, f1⟩
    | 2, hq => cases hq; exact ⟨a2, f2⟩
    | k + 3, hq => simp [TY] at hq
  · exact ⟨va_Nw.of rfl (hts _ (List.mem_append_right _ (List.mem_of_getElem? (i := 83) (by decide +kernel)))), va_Nw.of rfl (hts _ (List.mem_append_right _ (List.mem_of_getElem? (i := 85) (by decide +kernel)))), va_Nw.of rfl (hts _ (List.mem_append_right _ (List.mem_of_getElem? (i := 86) (by decide +kernel)))), va_Nw.of rfl (hts _ (List.mem_append_right _ (List.mem_of_getElem? (i := 88) (by decide +kernel)))), va_Nw.of rfl (hts _ (List.mem_append_right _ (List.mem_of_getElem? (i := 89) (by decide +kernel)))), va_Nw.of rfl (hts _ (List.mem_append_right _ (List.mem_of_getElem? (i := 185) (by decide +kernel)))), va_Nw.of rfl (hts _ (List.mem_append_right _ (List.mem_of_getElem? (i := 23) (by decide +kernel)))), va_Nw.of rfl (hts _ (List.mem_append_right _ (List.mem_of_getElem? (i := 37) (by decide +kernel)))), va_Nw.of rfl (hts _ (List.mem_append_right _ (List.mem_of_getElem? (i := 43) (by decide +kernel)))), va_Nw.of rfl (hts _ (List.mem_append_right _ (List.mem_of_getElem? (i := 78) (by decide +kernel))))⟩
