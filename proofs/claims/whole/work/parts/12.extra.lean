/-! MORE ROWS -/
theorem kMIN : Cond.static Lib.MathLoose.min_long.x ∈ tb_ws ∧ (Cond.initialized "java/lang/Math") ∈ tb_ws ∧ Cond.code Lib.MathLoose.min_long.x Lib.MathLoose.min_long.code 4 (some .long) ∈ tb_ws := ⟨k_162, k_9, k_163⟩
theorem kMAX : Cond.static Lib.MathLoose.max_long.x ∈ tb_ws ∧ (Cond.initialized "java/lang/Math") ∈ tb_ws ∧ Cond.code Lib.MathLoose.max_long.x Lib.MathLoose.max_long.code 4 (some .long) ∈ tb_ws := ⟨k_165, k_9, k_166⟩
theorem kCPY : Cond.native arraycopyName ∈ tb_ws ∧ Cond.static arraycopyName ∈ tb_ws ∧ (Cond.initialized "java/lang/System") ∈ tb_ws := ⟨k_146, k_145, k_7⟩
section ZX
variable {p : Program} {l : Launch} {e : Env} {R : Room} {s : State} {m : MethodId} {args : Array Value} {below : List Frame} {meth : Method} {c : Code} {H : Heap} {locs : List Loc} {cells slots : Nat} {Q : State → Prop} {cc : ByteArray} {pc nL : Nat} {ls : Array Slot} {rest : List Value} {own : String} {D : va_G} {t : vt} {ws ws' : va_W} {A : Nat → Prop} {H0 : Heap} {ts : Nat → Nat} {a : Nat}
theorem z_topi {x z : Int} (h : x = z) (k : W p l e R s m args below meth c H locs cells slots Q (F0 m pc ls (.int (iI z) :: rest))) : W p l e R s m args below meth c H locs cells slots Q (F0 m pc ls (.int (iI x) :: rest)) := by rw [h]; exact k
theorem z_topl {x z : Int} (h : x = z) (k : W p l e R s m args below meth c H locs cells slots Q (F0 m pc ls (.long (lI z) :: rest))) : W p l e R s m args below meth c H locs cells slots Q (F0 m pc ls (.long (lI x) :: rest)) := by rw [h]; exact k
theorem z_inc {x n z : Int} (h : x + n = z) : iI x + Int32.ofInt n = iI z := by subst h; exact iI_add x n
theorem lI_min {x y : Int} (hx : inL x) (hy : inL y) : (if lI y < lI x then lI y else lI x) = lI (min x y) := by
  have h := lI_lt hy hx
  by_cases c : y < x
  · rw [if_pos (h.mpr c), show min x y = y by omega]
  · rw [if_neg (fun q => c (h.mp q)), show min x y = x by omega]
theorem lI_max {x y : Int} (hx : inL x) (hy : inL y) : (if lI y < lI x then lI x else lI y) = lI (max x y) := by
  have h := lI_lt hy hx
  by_cases c : y < x
  · rw [if_pos (h.mpr c), show max x y = x by omega]
  · rw [if_neg (fun q => c (h.mp q)), show max x y = y by omega]
theorem z_lmin (hC : CallFix p m c cc nL s args tb_ws own) {i : Nat} (w1 : Cond.methodLink own i Lib.MathLoose.min_long.x ∈ tb_ws) (hsz : ls.size = nL) (hf : 1 ≤ R.frames) (hr : (rest.map fun v => v.category).sum + 15 ≤ R.locals) (hcs : cells ≤ R.cells ∧ slots ≤ R.slots) {x y : Int} (hx : inL x) (hy : inL y) (d : decode cc pc = .ok (.invokestatic i, 3)) (k : W p l e R s m args below meth c H locs cells slots Q (F0 m (pc + 3) ls (.long (lI (min x y)) :: rest))) : W p l e R s m args below meth c H locs cells slots Q (F0 m pc ls (.long (lI y) :: .long (lI x) :: rest)) :=
  va_mmin_long hC.1 hC.2.1 (hC.2.2.1.trans hsz.symm) hC.2.2.2.1 (hC.2.2.2.2 _ w1) (hC.2.2.2.2 _ kMIN.1) (hC.2.2.2.2 _ kMIN.2.1) (hC.2.2.2.2 _ kMIN.2.2) hf hr hcs.1 hcs.2 d (by rw [lI_min hx hy]; exact k)
theorem z_lmax (hC : CallFix p m c cc nL s args tb_ws own) {i : Nat} (w1 : Cond.methodLink own i Lib.MathLoose.max_long.x ∈ tb_ws) (hsz : ls.size = nL) (hf : 1 ≤ R.frames) (hr : (rest.map fun v => v.category).sum + 15 ≤ R.locals) (hcs : cells ≤ R.cells ∧ slots ≤ R.slots) {x y : Int} (hx : inL x) (hy : inL y) (d : decode cc pc = .ok (.invokestatic i, 3)) (k : W p l e R s m args below meth c H locs cells slots Q (F0 m (pc + 3) ls (.long (lI (max x y)) :: rest))) : W p l e R s m args below meth c H locs cells slots Q (F0 m pc ls (.long (lI y) :: .long (lI x) :: rest)) :=
  va_mmax_long hC.1 hC.2.1 (hC.2.2.1.trans hsz.symm) hC.2.2.2.1 (hC.2.2.2.2 _ w1) (hC.2.2.2.2 _ kMAX.1) (hC.2.2.2.2 _ kMAX.2.1) (hC.2.2.2.2 _ kMAX.2.2) hf hr hcs.1 hcs.2 d (by rw [lI_max hx hy]; exact k)
theorem z_copyi (hC : CallFix p m c cc nL s args tb_ws own) {i : Nat} (w1 : Cond.methodLink own i arraycopyName ∈ tb_ws) (hsz : ls.size = nL) (hK : va_K D classes (TY t) s) (hP : va_P D classes ws H) (hD : va_D A ws) (hS : va_S A H0 H locs) (q0 q1 : Nat) {a0 n0 n1 : Nat} {f g : Int → Int} (ha0 : ws[q0]? = some (a0, eI t.1 n0 f)) (ha1 : ws[q1]? = some (a, eI t.1 n1 g)) {sp dp n : Int} (h1 : 0 ≤ sp ∧ 0 ≤ dp ∧ 0 ≤ n) (h2 : sp + n ≤ n0 ∧ dp + n ≤ n1 ∧ (n0 : Int) ≤ 2147483647 ∧ (n1 : Int) ≤ 2147483647) (hf : 1 ≤ R.frames) (hr : (rest.map fun v => v.category).sum + 18 ≤ R.locals) (hw : ws.set q1 (a, eI t.1 n1 (cZ f g sp dp n)) = ws') (d : decode cc pc = .ok (.invokestatic i, 3))
    (kk : ∀ (H1 : Heap) (locs1 : List Loc), va_P D classes ws' H1 → va_D A ws' → va_S A H0 H1 locs1 → W p l e R s m args below meth c H1 locs1 cells slots Q (F0 m (pc + 3) ls rest)) : W p l e R s m args below meth c H locs cells slots Q (F0 m pc ls (.int (iI n) :: .int (iI dp) :: .ref a :: .int (iI sp) :: .ref a0 :: rest)) := by
  have e1 := iI_clamp (z := sp) (by omega); have e2 := iI_clamp (z := dp) (by omega); have e3 := iI_clamp (z := n) (by omega)
  have g1 : ∀ z : Int, 0 ≤ z → z ≤ 2147483647 → ¬ iI z < 0 := fun z h h' q => by rw [← iI_0, iI_lt (by omega) inI_0] at q; omega
  refine va_copyi hC.1 hC.2.1 (hC.2.2.1.trans hsz.symm) hC.2.2.2.1 (hC.2.2.2.2 _ w1) (hC.2.2.2.2 _ kCPY.1) (hC.2.2.2.2 _ kCPY.2.1) (hC.2.2.2.2 _ kCPY.2.2) hK hP hD hS q0 q1 0 0 ha0 ha1 rfl rfl rfl (g1 _ h1.1 (by omega)) (g1 _ h1.2.1 (by omega)) (g1 _ h1.2.2 (by omega)) (by rw [e1, e3]; omega) (by rw [e2, e3]; omega) (fun _ _ => rfl) hf hr d (fun H1 l1 h4 h5 h6 => ?_)
  rw [e1, e2, e3, aI_cpy f g h1.1 h1.2.1 h1.2.2, hw] at h4 h5
  exact kk H1 l1 h4 h5 h6
theorem z_copyl (hC : CallFix p m c cc nL s args tb_ws own) {i : Nat} (w1 : Cond.methodLink own i arraycopyName ∈ tb_ws) (hsz : ls.size = nL) (hK : va_K D classes (TY t) s) (hP : va_P D classes ws H) (hD : va_D A ws) (hS : va_S A H0 H locs) (q0 q1 : Nat) {a0 n0 n1 : Nat} {f g : Int → Int} (ha0 : ws[q0]? = some (a0, eL t.2.1 n0 f)) (ha1 : ws[q1]? = some (a, eL t.2.1 n1 g)) {sp dp n : Int} (h1 : 0 ≤ sp ∧ 0 ≤ dp ∧ 0 ≤ n) (h2 : sp + n ≤ n0 ∧ dp + n ≤ n1 ∧ (n0 : Int) ≤ 2147483647 ∧ (n1 : Int) ≤ 2147483647) (hf : 1 ≤ R.frames) (hr : (rest.map fun v => v.category).sum + 18 ≤ R.locals) (hw : ws.set q1 (a, eL t.2.1 n1 (cZ f g sp dp n)) = ws') (d : decode cc pc = .ok (.invokestatic i, 3))
    (kk : ∀ (H1 : Heap) (locs1 : List Loc), va_P D classes ws' H1 → va_D A ws' → va_S A H0 H1 locs1 → W p l e R s m args below meth c H1 locs1 cells slots Q (F0 m (pc + 3) ls rest)) : W p l e R s m args below meth c H locs cells slots Q (F0 m pc ls (.int (iI n) :: .int (iI dp) :: .ref a :: .int (iI sp) :: .ref a0 :: rest)) := by
  have e1 := iI_clamp (z := sp) (by omega); have e2 := iI_clamp (z := dp) (by omega); have e3 := iI_clamp (z := n) (by omega)
  have g1 : ∀ z : Int, 0 ≤ z → z ≤ 2147483647 → ¬ iI z < 0 := fun z h h' q => by rw [← iI_0, iI_lt (by omega) inI_0] at q; omega
  refine va_copyl hC.1 hC.2.1 (hC.2.2.1.trans hsz.symm) hC.2.2.2.1 (hC.2.2.2.2 _ w1) (hC.2.2.2.2 _ kCPY.1) (hC.2.2.2.2 _ kCPY.2.1) (hC.2.2.2.2 _ kCPY.2.2) hK hP hD hS q0 q1 1 1 ha0 ha1 rfl rfl rfl (g1 _ h1.1 (by omega)) (g1 _ h1.2.1 (by omega)) (g1 _ h1.2.2 (by omega)) (by rw [e1, e3]; omega) (by rw [e2, e3]; omega) (fun _ _ => rfl) hf hr d (fun H1 l1 h4 h5 h6 => ?_)
  rw [e1, e2, e3, aL_cpy f g h1.1 h1.2.1 h1.2.2, hw] at h4 h5
  exact kk H1 l1 h4 h5 h6
/-- a branch that is decided -/
theorem z_not {P : Prop} {X : Prop} (h : ¬ P) (q : P) : X := absurd q h
end ZX
