section ZX2
variable {p : Program} {l : Launch} {e : Env} {R : Room} {s : State} {m : MethodId} {args : Array Value} {below : List Frame} {meth : Method} {c : Code} {H : Heap} {locs : List Loc} {cells slots : Nat} {Q : State → Prop} {cc : ByteArray} {pc nL : Nat} {ls : Array Slot} {rest : List Value} {own : String}
theorem z_ior (hC : CallFix p m c cc nL s args tb_ws own) {x y z : Int} (h : iI x ||| iI y = iI z) (d : decode cc pc = .ok (.ior, 1)) (k : W p l e R s m args below meth c H locs cells slots Q (F0 m (pc + 1) ls (.int (iI z) :: rest))) : W p l e R s m args below meth c H locs cells slots Q (F0 m pc ls (.int (iI y) :: .int (iI x) :: rest)) := lv_ior hC.1 hC.2.1 d (by rw [h]; exact k)
theorem z_iand (hC : CallFix p m c cc nL s args tb_ws own) {x y z : Int} (h : iI x &&& iI y = iI z) (d : decode cc pc = .ok (.iand, 1)) (k : W p l e R s m args below meth c H locs cells slots Q (F0 m (pc + 1) ls (.int (iI z) :: rest))) : W p l e R s m args below meth c H locs cells slots Q (F0 m pc ls (.int (iI y) :: .int (iI x) :: rest)) := lv_iand hC.1 hC.2.1 d (by rw [h]; exact k)
theorem z_land (hC : CallFix p m c cc nL s args tb_ws own) {x y z : Int} (h : lI x &&& lI y = lI z) (d : decode cc pc = .ok (.land, 1)) (k : W p l e R s m args below meth c H locs cells slots Q (F0 m (pc + 1) ls (.long (lI z) :: rest))) : W p l e R s m args below meth c H locs cells slots Q (F0 m pc ls (.long (lI y) :: .long (lI x) :: rest)) := lv_land hC.1 hC.2.1 d (by rw [h]; exact k)
theorem z_lshr (hC : CallFix p m c cc nL s args tb_ws own) {x y z : Int} (h : lI x >>> ((iI y).toInt64 &&& 63) = lI z) (d : decode cc pc = .ok (.lshr, 1)) (k : W p l e R s m args below meth c H locs cells slots Q (F0 m (pc + 1) ls (.long (lI z) :: rest))) : W p l e R s m args below meth c H locs cells slots Q (F0 m pc ls (.int (iI y) :: .long (lI x) :: rest)) := lv_lshr hC.1 hC.2.1 d h k
theorem z_lshl (hC : CallFix p m c cc nL s args tb_ws own) {x y z : Int} (h : lI x <<< ((iI y).toInt64 &&& 63) = lI z) (d : decode cc pc = .ok (.lshl, 1)) (k : W p l e R s m args below meth c H locs cells slots Q (F0 m (pc + 1) ls (.long (lI z) :: rest))) : W p l e R s m args below meth c H locs cells slots Q (F0 m pc ls (.int (iI y) :: .long (lI x) :: rest)) := lv_lshl hC.1 hC.2.1 d h k
theorem z_ldiv2 (hC : CallFix p m c cc nL s args tb_ws own) {x z : Int} (h : lI x / lI 2 = lI z) (d : decode cc pc = .ok (.ldiv, 1)) (k : W p l e R s m args below meth c H locs cells slots Q (F0 m (pc + 1) ls (.long (lI z) :: rest))) : W p l e R s m args below meth c H locs cells slots Q (F0 m pc ls (.long (lI 2) :: .long (lI x) :: rest)) := lv_ldiv hC.1 hC.2.1 d (by decide) (by rw [h]; exact k)
theorem iI_div {x y : Int} (hx : 0 ≤ x ∧ x ≤ 2147483647) (hy : 0 < y ∧ y ≤ 2147483647) : iI x / iI y = iI (x / y) := by
  obtain ⟨a, ha⟩ : ∃ a : Nat, x = a := ⟨x.toNat, by omega⟩
  obtain ⟨b, hb⟩ : ∃ b : Nat, y = b := ⟨y.toNat, by omega⟩
  subst ha; subst hb
  have h := pk_div (a := a) (d := b) (by omega) (by omega) (by omega)
  have e1 : nI a = iI a := iI_nat a
  have e2 : nI b = iI b := iI_nat b
  have e3 : nI (a / b) = iI ((a : Int) / b) := by rw [← Int.natCast_ediv]; exact iI_nat _
  rw [e1, e2, e3] at h
  exact h
theorem z_idiv (hC : CallFix p m c cc nL s args tb_ws own) {x y : Int} (d : decode cc pc = .ok (.idiv, 1)) (hx : 0 ≤ x ∧ x ≤ 2147483647) (hy : 0 < y ∧ y ≤ 2147483647) (k : W p l e R s m args below meth c H locs cells slots Q (F0 m (pc + 1) ls (.int (iI (x / y)) :: rest))) : W p l e R s m args below meth c H locs cells slots Q (F0 m pc ls (.int (iI y) :: .int (iI x) :: rest)) := lv_idiv hC.1 hC.2.1 d (fun h => by rw [← iI_0, iI_eq ⟨by omega, by omega⟩ inI_0] at h; omega) (by rw [iI_div hx hy]; exact k)
end ZX2
