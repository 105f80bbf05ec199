/-! WHOLE NUMBERS BEHIND INTS AND LONGS -/
abbrev inI (z : Int) : Prop := -2147483648 ≤ z ∧ z ≤ 2147483647
abbrev inL (z : Int) : Prop := -9223372036854775808 ≤ z ∧ z ≤ 9223372036854775807
theorem iI_add (a b : Int) : iI a + iI b = iI (a + b) := (Int32.ofInt_add a b).symm
theorem iI_sub (a b : Int) : iI a - iI b = iI (a - b) := (Int32.ofInt_sub a b).symm
theorem iI_mul (a b : Int) : iI a * iI b = iI (a * b) := (Int32.ofInt_mul a b).symm
theorem iI_neg (a : Int) : -iI a = iI (-a) := (Int32.ofInt_neg a).symm
theorem lI_add (a b : Int) : lI a + lI b = lI (a + b) := (Int64.ofInt_add a b).symm
theorem lI_sub (a b : Int) : lI a - lI b = lI (a - b) := (Int64.ofInt_sub a b).symm
theorem lI_mul (a b : Int) : lI a * lI b = lI (a * b) := (Int64.ofInt_mul a b).symm
theorem lI_neg (a : Int) : -lI a = lI (-a) := (Int64.ofInt_neg a).symm
theorem iI_toInt {z : Int} (h : inI z) : (iI z).toInt = z := Int32.toInt_ofInt_of_le (by have := h.1; omega) (by have := h.2; omega)
theorem lI_toInt {z : Int} (h : inL z) : (lI z).toInt = z := Int64.toInt_ofInt_of_le (by have := h.1; omega) (by have := h.2; omega)
theorem iI_of (x : Int32) : iI x.toInt = x := Int32.ofInt_toInt x
theorem inI_of (x : Int32) : inI x.toInt := ⟨by have := x.le_toInt; omega, by have := x.toInt_lt; omega⟩
theorem iI_lt {a b : Int} (ha : inI a) (hb : inI b) : iI a < iI b ↔ a < b := by rw [Int32.lt_iff_toInt_lt, iI_toInt ha, iI_toInt hb]
theorem iI_le {a b : Int} (ha : inI a) (hb : inI b) : iI a ≤ iI b ↔ a ≤ b := by rw [Int32.le_iff_toInt_le, iI_toInt ha, iI_toInt hb]
theorem iI_eq {a b : Int} (ha : inI a) (hb : inI b) : iI a = iI b ↔ a = b := by rw [← Int32.toInt_inj, iI_toInt ha, iI_toInt hb]
theorem lI_lt {a b : Int} (ha : inL a) (hb : inL b) : lI a < lI b ↔ a < b := by rw [Int64.lt_iff_toInt_lt, lI_toInt ha, lI_toInt hb]
theorem lI_le {a b : Int} (ha : inL a) (hb : inL b) : lI a ≤ lI b ↔ a ≤ b := by rw [Int64.le_iff_toInt_le, lI_toInt ha, lI_toInt hb]
theorem lI_eq {a b : Int} (ha : inL a) (hb : inL b) : lI a = lI b ↔ a = b := by rw [← Int64.toInt_inj, lI_toInt ha, lI_toInt hb]
theorem inI_0 : inI 0 := by unfold inI; omega
theorem iI_0 : iI 0 = 0 := by decide
theorem iI_clamp {z : Int} (h : inI z) : (iI z).toNatClampNeg = z.toNat := Int32.toNatClampNeg_ofInt_of_le (by have := h.1; omega) (by have := h.2; omega)
theorem iI_in {z : Int} {n : Nat} (h : inI z) (h0 : 0 ≤ z ∧ z < n) : vp_in (iI z) n := by
  rw [vp_in_iff, iI_toInt h]; exact h0
theorem iI_toL {z : Int} (h : inI z) : (iI z).toInt64 = lI z := Int32.toInt64_ofInt (by have := h.1; exact this) (by have := h.2; exact this)
theorem lI_toI (z : Int) : (lI z).toInt32 = iI z := Int64.toInt32_ofInt
theorem iI_nat (n : Nat) : Int32.ofNat n = iI n := by simp [iI, Int32.ofInt_eq_ofNat]
/-- what an array of ints, of longs holds -/
def aI (F : Int → Int) : Nat → Int32 := fun k => iI (F k)
def aL (F : Int → Int) : Nat → Int64 := fun k => lI (F k)
/-- one place of a row changed -/
def uZ (F : Int → Int) (e z : Int) : Int → Int := fun j => if j = e then z else F j
theorem uZ_s (F : Int → Int) (e z : Int) : uZ F e z e = z := if_pos rfl
theorem uZ_n {F : Int → Int} {e z j : Int} (h : j ≠ e) : uZ F e z j = F j := if_neg h
theorem aI_upd (F : Int → Int) {e : Int} (z : Int) (h : 0 ≤ e) : upd (aI F) e.toNat (iI z) = aI (uZ F e z) := by
  funext k
  by_cases hk : k = e.toNat
  · subst hk
    rw [pk_us]
    show iI z = iI (uZ F e z (e.toNat : Int))
    rw [Int.toNat_of_nonneg h, uZ_s]
  · rw [pk_un hk]
    show iI (F k) = iI (uZ F e z k)
    rw [uZ_n (by omega)]
theorem aL_upd (F : Int → Int) {e : Int} (z : Int) (h : 0 ≤ e) : vp_updL (aL F) e.toNat (lI z) = aL (uZ F e z) := by
  funext k
  by_cases hk : k = e.toNat
  · subst hk
    rw [pk_uLs]
    show lI z = lI (uZ F e z (e.toNat : Int))
    rw [Int.toNat_of_nonneg h, uZ_s]
  · rw [pk_uLn hk]
    show lI (F k) = lI (uZ F e z k)
    rw [uZ_n (by omega)]
theorem aI_at (F : Int → Int) {e : Int} (h : 0 ≤ e) : aI F e.toNat = iI (F e) := by
  show iI (F (e.toNat : Int)) = _
  rw [Int.toNat_of_nonneg h]
theorem aL_at (F : Int → Int) {e : Int} (h : 0 ≤ e) : aL F e.toNat = lI (F e) := by
  show lI (F (e.toNat : Int)) = _
  rw [Int.toNat_of_nonneg h]
/-- n places from sp on of f come to g from dp on -/
def cZ (f g : Int → Int) (sp dp n : Int) : Int → Int := fun k => if dp ≤ k ∧ k < dp + n then f (sp + (k - dp)) else g k
theorem aI_cpy (f g : Int → Int) {sp dp n : Int} (h1 : 0 ≤ sp) (h2 : 0 ≤ dp) (h3 : 0 ≤ n) : va_cpy (aI f) (aI g) sp.toNat dp.toNat n.toNat = aI (cZ f g sp dp n) := by
  funext k
  unfold va_cpy aI cZ
  by_cases h : dp.toNat ≤ k ∧ k < dp.toNat + n.toNat
  · rw [if_pos h, if_pos (by omega)]
    congr 2; omega
  · rw [if_neg h, if_neg (by omega)]
theorem aL_cpy (f g : Int → Int) {sp dp n : Int} (h1 : 0 ≤ sp) (h2 : 0 ≤ dp) (h3 : 0 ≤ n) : va_cpy (aL f) (aL g) sp.toNat dp.toNat n.toNat = aL (cZ f g sp dp n) := by
  funext k
  unfold va_cpy aL cZ
  by_cases h : dp.toNat ≤ k ∧ k < dp.toNat + n.toNat
  · rw [if_pos h, if_pos (by omega)]
    congr 2; omega
  · rw [if_neg h, if_neg (by omega)]
/-- a truth as a number -/
def zB (b : Bool) : Int := if b then 1 else 0
theorem zB_t : zB true = 1 := rfl
theorem zB_f : zB false = 0 := rfl
theorem zB_in (b : Bool) : inI (zB b) := by cases b <;> decide
theorem inI_of2 {z : Int} (a b : Int) (h : a ≤ z ∧ z ≤ b) (ha : -2147483648 ≤ a) (hb : b ≤ 2147483647) : inI z := ⟨by omega, by omega⟩
section ZRows
variable {p : Program} {l : Launch} {e : Env} {R : Room} {s : State} {m : MethodId} {args : Array Value} {below : List Frame} {meth : Method} {c : Code} {H : Heap} {locs : List Loc} {cells slots : Nat} {Q : State → Prop} {cc : ByteArray} {pc nL : Nat} {ls : Array Slot} {rest : List Value} {own : String}
theorem z_iconst (hC : CallFix p m c cc nL s args tb_ws own) {n : Int} (d : decode cc pc = .ok (.iconst n, 1)) (k : W p l e R s m args below meth c H locs cells slots Q (F0 m (pc + 1) ls (.int (iI n) :: rest))) : W p l e R s m args below meth c H locs cells slots Q (F0 m pc ls rest) := lv_iconst hC.1 hC.2.1 d rfl k
theorem z_bipush (hC : CallFix p m c cc nL s args tb_ws own) {n : Int} (d : decode cc pc = .ok (.bipush n, 2)) (h : (Int8.ofInt n).toInt32 = iI n) (k : W p l e R s m args below meth c H locs cells slots Q (F0 m (pc + 2) ls (.int (iI n) :: rest))) : W p l e R s m args below meth c H locs cells slots Q (F0 m pc ls rest) := lv_bipush hC.1 hC.2.1 d h k
theorem z_sipush (hC : CallFix p m c cc nL s args tb_ws own) {n : Int} (d : decode cc pc = .ok (.sipush n, 3)) (h : (Int16.ofInt n).toInt32 = iI n) (k : W p l e R s m args below meth c H locs cells slots Q (F0 m (pc + 3) ls (.int (iI n) :: rest))) : W p l e R s m args below meth c H locs cells slots Q (F0 m pc ls rest) := lv_sipush hC.1 hC.2.1 d h k
theorem z_lconst (hC : CallFix p m c cc nL s args tb_ws own) {n : Fin 2} {v : Int} (d : decode cc pc = .ok (.lconst n, 1)) (h : Int64.ofNat (n : Nat) = lI v) (k : W p l e R s m args below meth c H locs cells slots Q (F0 m (pc + 1) ls (.long (lI v) :: rest))) : W p l e R s m args below meth c H locs cells slots Q (F0 m pc ls rest) := lv_lconst hC.1 hC.2.1 d h k
theorem z_ldc (hC : CallFix p m c cc nL s args tb_ws own) {i : Nat} {v : Int32} (w : Cond.constant own i v ∈ tb_ws) (d : decode cc pc = .ok (.ldc i, 2)) (k : W p l e R s m args below meth c H locs cells slots Q (F0 m (pc + 2) ls (.int v :: rest))) : W p l e R s m args below meth c H locs cells slots Q (F0 m pc ls rest) := lv_ldc hC.1 hC.2.1 hC.2.2.2.1 (hC.2.2.2.2 _ w) d k
theorem z_ldcw (hC : CallFix p m c cc nL s args tb_ws own) {i : Nat} {v : Int32} (w : Cond.constant own i v ∈ tb_ws) (d : decode cc pc = .ok (.ldc_w i, 3)) (k : W p l e R s m args below meth c H locs cells slots Q (F0 m (pc + 3) ls (.int v :: rest))) : W p l e R s m args below meth c H locs cells slots Q (F0 m pc ls rest) := lv_ldcw hC.1 hC.2.1 hC.2.2.2.1 (hC.2.2.2.2 _ w) d k
theorem z_ldc2 (hC : CallFix p m c cc nL s args tb_ws own) {i : Nat} {v : Int64} (w : Cond.constantLong own i v ∈ tb_ws) (d : decode cc pc = .ok (.ldc2_w i, 3)) (k : W p l e R s m args below meth c H locs cells slots Q (F0 m (pc + 3) ls (.long v :: rest))) : W p l e R s m args below meth c H locs cells slots Q (F0 m pc ls rest) := lv_ldc2 hC.1 hC.2.1 hC.2.2.2.1 (hC.2.2.2.2 _ w) d k
theorem z_iadd (hC : CallFix p m c cc nL s args tb_ws own) {x y : Int} (d : decode cc pc = .ok (.iadd, 1)) (k : W p l e R s m args below meth c H locs cells slots Q (F0 m (pc + 1) ls (.int (iI (x + y)) :: rest))) : W p l e R s m args below meth c H locs cells slots Q (F0 m pc ls (.int (iI y) :: .int (iI x) :: rest)) := lv_iadd hC.1 hC.2.1 d (by rw [iI_add]; exact k)
theorem z_isub (hC : CallFix p m c cc nL s args tb_ws own) {x y : Int} (d : decode cc pc = .ok (.isub, 1)) (k : W p l e R s m args below meth c H locs cells slots Q (F0 m (pc + 1) ls (.int (iI (x - y)) :: rest))) : W p l e R s m args below meth c H locs cells slots Q (F0 m pc ls (.int (iI y) :: .int (iI x) :: rest)) := lv_isub hC.1 hC.2.1 d (by rw [iI_sub]; exact k)
theorem z_imul (hC : CallFix p m c cc nL s args tb_ws own) {x y : Int} (d : decode cc pc = .ok (.imul, 1)) (k : W p l e R s m args below meth c H locs cells slots Q (F0 m (pc + 1) ls (.int (iI (x * y)) :: rest))) : W p l e R s m args below meth c H locs cells slots Q (F0 m pc ls (.int (iI y) :: .int (iI x) :: rest)) := lv_imul hC.1 hC.2.1 d (by rw [iI_mul]; exact k)
theorem z_ineg (hC : CallFix p m c cc nL s args tb_ws own) {x : Int} (d : decode cc pc = .ok (.ineg, 1)) (k : W p l e R s m args below meth c H locs cells slots Q (F0 m (pc + 1) ls (.int (iI (-x)) :: rest))) : W p l e R s m args below meth c H locs cells slots Q (F0 m pc ls (.int (iI x) :: rest)) := lv_ineg hC.1 hC.2.1 d (by rw [iI_neg]; exact k)
theorem iI_rem {x y : Int} (hx : 0 ≤ x ∧ x ≤ 2147483647) (hy : 0 < y ∧ y ≤ 2147483647) : iI x - iI x / iI y * iI y = iI (x % y) := by
  obtain ⟨a, ha⟩ : ∃ a : Nat, x = a := ⟨x.toNat, by omega⟩
  obtain ⟨b, hb⟩ : ∃ b : Nat, y = b := ⟨y.toNat, by omega⟩
  subst ha; subst hb
  have h := pk_rem (a := a) (d := b) (by omega) (by omega) (by omega)
  have e1 : nI a = iI a := iI_nat a
  have e2 : nI b = iI b := iI_nat b
  have e3 : nI (a % b) = iI ((a : Int) % b) := by rw [← Int.natCast_emod]; exact iI_nat _
  rw [e1, e2, e3] at h
  exact h
theorem z_irem (hC : CallFix p m c cc nL s args tb_ws own) {x y : Int} (d : decode cc pc = .ok (.irem, 1)) (hx : 0 ≤ x ∧ x ≤ 2147483647) (hy : 0 < y ∧ y ≤ 2147483647) (k : W p l e R s m args below meth c H locs cells slots Q (F0 m (pc + 1) ls (.int (iI (x % y)) :: rest))) : W p l e R s m args below meth c H locs cells slots Q (F0 m pc ls (.int (iI y) :: .int (iI x) :: rest)) := lv_irem hC.1 hC.2.1 d (fun h => by rw [← iI_0, iI_eq ⟨by omega, by omega⟩ inI_0] at h; omega) (by rw [iI_rem hx hy]; exact k)
theorem z_ladd (hC : CallFix p m c cc nL s args tb_ws own) {x y : Int} (d : decode cc pc = .ok (.ladd, 1)) (k : W p l e R s m args below meth c H locs cells slots Q (F0 m (pc + 1) ls (.long (lI (x + y)) :: rest))) : W p l e R s m args below meth c H locs cells slots Q (F0 m pc ls (.long (lI y) :: .long (lI x) :: rest)) := lv_ladd hC.1 hC.2.1 d (by rw [lI_add]; exact k)
theorem z_lsub (hC : CallFix p m c cc nL s args tb_ws own) {x y : Int} (d : decode cc pc = .ok (.lsub, 1)) (k : W p l e R s m args below meth c H locs cells slots Q (F0 m (pc + 1) ls (.long (lI (x - y)) :: rest))) : W p l e R s m args below meth c H locs cells slots Q (F0 m pc ls (.long (lI y) :: .long (lI x) :: rest)) := lv_lsub hC.1 hC.2.1 d (by rw [lI_sub]; exact k)
theorem z_lmul (hC : CallFix p m c cc nL s args tb_ws own) {x y : Int} (d : decode cc pc = .ok (.lmul, 1)) (k : W p l e R s m args below meth c H locs cells slots Q (F0 m (pc + 1) ls (.long (lI (x * y)) :: rest))) : W p l e R s m args below meth c H locs cells slots Q (F0 m pc ls (.long (lI y) :: .long (lI x) :: rest)) := lv_lmul hC.1 hC.2.1 d (by rw [lI_mul]; exact k)
theorem z_lneg (hC : CallFix p m c cc nL s args tb_ws own) {x : Int} (d : decode cc pc = .ok (.lneg, 1)) (k : W p l e R s m args below meth c H locs cells slots Q (F0 m (pc + 1) ls (.long (lI (-x)) :: rest))) : W p l e R s m args below meth c H locs cells slots Q (F0 m pc ls (.long (lI x) :: rest)) := lv_lneg hC.1 hC.2.1 d (by rw [lI_neg]; exact k)
theorem z_i2l (hC : CallFix p m c cc nL s args tb_ws own) {x : Int} (d : decode cc pc = .ok (.i2l, 1)) (h : inI x) (k : W p l e R s m args below meth c H locs cells slots Q (F0 m (pc + 1) ls (.long (lI x) :: rest))) : W p l e R s m args below meth c H locs cells slots Q (F0 m pc ls (.int (iI x) :: rest)) := lv_i2l hC.1 hC.2.1 d (iI_toL h) k
theorem z_l2i (hC : CallFix p m c cc nL s args tb_ws own) {x : Int} (d : decode cc pc = .ok (.l2i, 1)) (k : W p l e R s m args below meth c H locs cells slots Q (F0 m (pc + 1) ls (.int (iI x) :: rest))) : W p l e R s m args below meth c H locs cells slots Q (F0 m pc ls (.long (lI x) :: rest)) := lv_l2i hC.1 hC.2.1 d (lI_toI x) k
theorem z_goto (hC : CallFix p m c cc nL s args tb_ws own) {off : Int} {tgt : Nat} (d : decode cc pc = .ok (.goto off, 3)) (ht : (pc : Int) + off = (tgt : Int)) (k : W p l e R s m args below meth c H locs cells slots Q (F0 m tgt ls rest)) : W p l e R s m args below meth c H locs cells slots Q (F0 m pc ls rest) := lv_goto hC.1 hC.2.1 d ht k
theorem lgc {x y : Int} (hi : inL x) (hj : inL y) : (x < y ∧ lg_cmp (lI x) (lI y) = iI (-1)) ∨ (x = y ∧ lg_cmp (lI x) (lI y) = iI 0) ∨ (y < x ∧ lg_cmp (lI x) (lI y) = iI 1) := by
  have e1 := lI_lt hi hj; have e2 := lI_lt hj hi; have e5 := lI_eq hi hj
  unfold lg_cmp
  rcases (show x < y ∨ x = y ∨ y < x by omega) with h | h | h
  · exact Or.inl ⟨h, by rw [if_neg (by rw [gt_iff_lt, e2]; omega), if_neg (by rw [e5]; omega)]; decide⟩
  · exact Or.inr (Or.inl ⟨h, by rw [if_neg (by rw [gt_iff_lt, e2]; omega), if_pos (by rw [e5]; omega)]; decide⟩)
  · exact Or.inr (Or.inr ⟨h, by rw [if_pos (by rw [gt_iff_lt, e2]; omega)]; decide⟩)
theorem z_icmp_eq (hC : CallFix p m c cc nL s args tb_ws own) {x y off : Int} {tgt : Nat} (d : decode cc pc = .ok (.if_icmp .eq off, 3)) (ht : (pc : Int) + off = (tgt : Int)) (hi : inI x) (hj : inI y) (kt : x = y → W p l e R s m args below meth c H locs cells slots Q (F0 m tgt ls rest)) (kf : ¬ x = y → W p l e R s m args below meth c H locs cells slots Q (F0 m (pc + 3) ls rest)) : W p l e R s m args below meth c H locs cells slots Q (F0 m pc ls (.int (iI y) :: .int (iI x) :: rest)) := by
  have e1 := iI_lt hi hj; have e2 := iI_lt hj hi; have e3 := iI_le hi hj; have e4 := iI_le hj hi; have e5 := iI_eq hi hj
  refine lv_icmp_eq hC.1 hC.2.1 d ht (fun h => kt ?_) (fun h => kf ?_)
  all_goals simp only [e1, e2, e3, e4, e5, ge_iff_le, gt_iff_lt] at h
  all_goals omega
theorem z_if_eq (hC : CallFix p m c cc nL s args tb_ws own) {x off : Int} {tgt : Nat} (d : decode cc pc = .ok (.ifCond .eq off, 3)) (ht : (pc : Int) + off = (tgt : Int)) (hi : inI x) (kt : x = 0 → W p l e R s m args below meth c H locs cells slots Q (F0 m tgt ls rest)) (kf : ¬ x = 0 → W p l e R s m args below meth c H locs cells slots Q (F0 m (pc + 3) ls rest)) : W p l e R s m args below meth c H locs cells slots Q (F0 m pc ls (.int (iI x) :: rest)) := by
  have e1 := iI_lt hi inI_0; have e2 := iI_lt inI_0 hi; have e3 := iI_le hi inI_0; have e4 := iI_le inI_0 hi; have e5 := iI_eq hi inI_0
  rw [iI_0] at e1 e2 e3 e4 e5
  refine lv_if_eq hC.1 hC.2.1 d ht (fun h => kt ?_) (fun h => kf ?_)
  all_goals simp only [e1, e2, e3, e4, e5, ge_iff_le, gt_iff_lt] at h
  all_goals omega
theorem z_lcmp_eq (hC : CallFix p m c cc nL s args tb_ws own) {x y off : Int} {tgt : Nat} (d1 : decode cc pc = .ok (.lcmp, 1)) (d : decode cc (pc + 1) = .ok (.ifCond .eq off, 3)) (ht : ((pc + 1 : Nat) : Int) + off = (tgt : Int)) (hi : inL x) (hj : inL y) (kt : x = y → W p l e R s m args below meth c H locs cells slots Q (F0 m tgt ls rest)) (kf : ¬ x = y → W p l e R s m args below meth c H locs cells slots Q (F0 m (pc + 4) ls rest)) : W p l e R s m args below meth c H locs cells slots Q (F0 m pc ls (.long (lI y) :: .long (lI x) :: rest)) := by
  rcases lgc hi hj with ⟨h, e⟩ | ⟨h, e⟩ | ⟨h, e⟩
  all_goals
    refine W.lcmp hC.1 hC.2.1 d1 ?_
    rw [e]
    exact z_if_eq hC d ht (by decide) (fun h2 => kt (by omega)) (fun h2 => kf (by omega))
theorem z_icmp_ne (hC : CallFix p m c cc nL s args tb_ws own) {x y off : Int} {tgt : Nat} (d : decode cc pc = .ok (.if_icmp .ne off, 3)) (ht : (pc : Int) + off = (tgt : Int)) (hi : inI x) (hj : inI y) (kt : ¬ x = y → W p l e R s m args below meth c H locs cells slots Q (F0 m tgt ls rest)) (kf : x = y → W p l e R s m args below meth c H locs cells slots Q (F0 m (pc + 3) ls rest)) : W p l e R s m args below meth c H locs cells slots Q (F0 m pc ls (.int (iI y) :: .int (iI x) :: rest)) := by
  have e1 := iI_lt hi hj; have e2 := iI_lt hj hi; have e3 := iI_le hi hj; have e4 := iI_le hj hi; have e5 := iI_eq hi hj
  refine lv_icmp_ne hC.1 hC.2.1 d ht (fun h => kt ?_) (fun h => kf ?_)
  all_goals simp only [e1, e2, e3, e4, e5, ge_iff_le, gt_iff_lt] at h
  all_goals omega
theorem z_if_ne (hC : CallFix p m c cc nL s args tb_ws own) {x off : Int} {tgt : Nat} (d : decode cc pc = .ok (.ifCond .ne off, 3)) (ht : (pc : Int) + off = (tgt : Int)) (hi : inI x) (kt : ¬ x = 0 → W p l e R s m args below meth c H locs cells slots Q (F0 m tgt ls rest)) (kf : x = 0 → W p l e R s m args below meth c H locs cells slots Q (F0 m (pc + 3) ls rest)) : W p l e R s m args below meth c H locs cells slots Q (F0 m pc ls (.int (iI x) :: rest)) := by
  have e1 := iI_lt hi inI_0; have e2 := iI_lt inI_0 hi; have e3 := iI_le hi inI_0; have e4 := iI_le inI_0 hi; have e5 := iI_eq hi inI_0
  rw [iI_0] at e1 e2 e3 e4 e5
  refine lv_if_ne hC.1 hC.2.1 d ht (fun h => kt ?_) (fun h => kf ?_)
  all_goals simp only [e1, e2, e3, e4, e5, ge_iff_le, gt_iff_lt] at h
  all_goals omega
theorem z_lcmp_ne (hC : CallFix p m c cc nL s args tb_ws own) {x y off : Int} {tgt : Nat} (d1 : decode cc pc = .ok (.lcmp, 1)) (d : decode cc (pc + 1) = .ok (.ifCond .ne off, 3)) (ht : ((pc + 1 : Nat) : Int) + off = (tgt : Int)) (hi : inL x) (hj : inL y) (kt : ¬ x = y → W p l e R s m args below meth c H locs cells slots Q (F0 m tgt ls rest)) (kf : x = y → W p l e R s m args below meth c H locs cells slots Q (F0 m (pc + 4) ls rest)) : W p l e R s m args below meth c H locs cells slots Q (F0 m pc ls (.long (lI y) :: .long (lI x) :: rest)) := by
  rcases lgc hi hj with ⟨h, e⟩ | ⟨h, e⟩ | ⟨h, e⟩
  all_goals
    refine W.lcmp hC.1 hC.2.1 d1 ?_
    rw [e]
    exact z_if_ne hC d ht (by decide) (fun h2 => kt (by omega)) (fun h2 => kf (by omega))
theorem z_icmp_lt (hC : CallFix p m c cc nL s args tb_ws own) {x y off : Int} {tgt : Nat} (d : decode cc pc = .ok (.if_icmp .lt off, 3)) (ht : (pc : Int) + off = (tgt : Int)) (hi : inI x) (hj : inI y) (kt : x < y → W p l e R s m args below meth c H locs cells slots Q (F0 m tgt ls rest)) (kf : y ≤ x → W p l e R s m args below meth c H locs cells slots Q (F0 m (pc + 3) ls rest)) : W p l e R s m args below meth c H locs cells slots Q (F0 m pc ls (.int (iI y) :: .int (iI x) :: rest)) := by
  have e1 := iI_lt hi hj; have e2 := iI_lt hj hi; have e3 := iI_le hi hj; have e4 := iI_le hj hi; have e5 := iI_eq hi hj
  refine lv_icmp_lt hC.1 hC.2.1 d ht (fun h => kt ?_) (fun h => kf ?_)
  all_goals simp only [e1, e2, e3, e4, e5, ge_iff_le, gt_iff_lt] at h
  all_goals omega
theorem z_if_lt (hC : CallFix p m c cc nL s args tb_ws own) {x off : Int} {tgt : Nat} (d : decode cc pc = .ok (.ifCond .lt off, 3)) (ht : (pc : Int) + off = (tgt : Int)) (hi : inI x) (kt : x < 0 → W p l e R s m args below meth c H locs cells slots Q (F0 m tgt ls rest)) (kf : 0 ≤ x → W p l e R s m args below meth c H locs cells slots Q (F0 m (pc + 3) ls rest)) : W p l e R s m args below meth c H locs cells slots Q (F0 m pc ls (.int (iI x) :: rest)) := by
  have e1 := iI_lt hi inI_0; have e2 := iI_lt inI_0 hi; have e3 := iI_le hi inI_0; have e4 := iI_le inI_0 hi; have e5 := iI_eq hi inI_0
  rw [iI_0] at e1 e2 e3 e4 e5
  refine lv_if_lt hC.1 hC.2.1 d ht (fun h => kt ?_) (fun h => kf ?_)
  all_goals simp only [e1, e2, e3, e4, e5, ge_iff_le, gt_iff_lt] at h
  all_goals omega
theorem z_lcmp_lt (hC : CallFix p m c cc nL s args tb_ws own) {x y off : Int} {tgt : Nat} (d1 : decode cc pc = .ok (.lcmp, 1)) (d : decode cc (pc + 1) = .ok (.ifCond .lt off, 3)) (ht : ((pc + 1 : Nat) : Int) + off = (tgt : Int)) (hi : inL x) (hj : inL y) (kt : x < y → W p l e R s m args below meth c H locs cells slots Q (F0 m tgt ls rest)) (kf : y ≤ x → W p l e R s m args below meth c H locs cells slots Q (F0 m (pc + 4) ls rest)) : W p l e R s m args below meth c H locs cells slots Q (F0 m pc ls (.long (lI y) :: .long (lI x) :: rest)) := by
  rcases lgc hi hj with ⟨h, e⟩ | ⟨h, e⟩ | ⟨h, e⟩
  all_goals
    refine W.lcmp hC.1 hC.2.1 d1 ?_
    rw [e]
    exact z_if_lt hC d ht (by decide) (fun h2 => kt (by omega)) (fun h2 => kf (by omega))
theorem z_icmp_ge (hC : CallFix p m c cc nL s args tb_ws own) {x y off : Int} {tgt : Nat} (d : decode cc pc = .ok (.if_icmp .ge off, 3)) (ht : (pc : Int) + off = (tgt : Int)) (hi : inI x) (hj : inI y) (kt : y ≤ x → W p l e R s m args below meth c H locs cells slots Q (F0 m tgt ls rest)) (kf : x < y → W p l e R s m args below meth c H locs cells slots Q (F0 m (pc + 3) ls rest)) : W p l e R s m args below meth c H locs cells slots Q (F0 m pc ls (.int (iI y) :: .int (iI x) :: rest)) := by
  have e1 := iI_lt hi hj; have e2 := iI_lt hj hi; have e3 := iI_le hi hj; have e4 := iI_le hj hi; have e5 := iI_eq hi hj
  refine lv_icmp_ge hC.1 hC.2.1 d ht (fun h => kt ?_) (fun h => kf ?_)
  all_goals simp only [e1, e2, e3, e4, e5, ge_iff_le, gt_iff_lt] at h
  all_goals omega
theorem z_if_ge (hC : CallFix p m c cc nL s args tb_ws own) {x off : Int} {tgt : Nat} (d : decode cc pc = .ok (.ifCond .ge off, 3)) (ht : (pc : Int) + off = (tgt : Int)) (hi : inI x) (kt : 0 ≤ x → W p l e R s m args below meth c H locs cells slots Q (F0 m tgt ls rest)) (kf : x < 0 → W p l e R s m args below meth c H locs cells slots Q (F0 m (pc + 3) ls rest)) : W p l e R s m args below meth c H locs cells slots Q (F0 m pc ls (.int (iI x) :: rest)) := by
  have e1 := iI_lt hi inI_0; have e2 := iI_lt inI_0 hi; have e3 := iI_le hi inI_0; have e4 := iI_le inI_0 hi; have e5 := iI_eq hi inI_0
  rw [iI_0] at e1 e2 e3 e4 e5
  refine lv_if_ge hC.1 hC.2.1 d ht (fun h => kt ?_) (fun h => kf ?_)
  all_goals simp only [e1, e2, e3, e4, e5, ge_iff_le, gt_iff_lt] at h
  all_goals omega
theorem z_lcmp_ge (hC : CallFix p m c cc nL s args tb_ws own) {x y off : Int} {tgt : Nat} (d1 : decode cc pc = .ok (.lcmp, 1)) (d : decode cc (pc + 1) = .ok (.ifCond .ge off, 3)) (ht : ((pc + 1 : Nat) : Int) + off = (tgt : Int)) (hi : inL x) (hj : inL y) (kt : y ≤ x → W p l e R s m args below meth c H locs cells slots Q (F0 m tgt ls rest)) (kf : x < y → W p l e R s m args below meth c H locs cells slots Q (F0 m (pc + 4) ls rest)) : W p l e R s m args below meth c H locs cells slots Q (F0 m pc ls (.long (lI y) :: .long (lI x) :: rest)) := by
  rcases lgc hi hj with ⟨h, e⟩ | ⟨h, e⟩ | ⟨h, e⟩
  all_goals
    refine W.lcmp hC.1 hC.2.1 d1 ?_
    rw [e]
    exact z_if_ge hC d ht (by decide) (fun h2 => kt (by omega)) (fun h2 => kf (by omega))
theorem z_icmp_gt (hC : CallFix p m c cc nL s args tb_ws own) {x y off : Int} {tgt : Nat} (d : decode cc pc = .ok (.if_icmp .gt off, 3)) (ht : (pc : Int) + off = (tgt : Int)) (hi : inI x) (hj : inI y) (kt : y < x → W p l e R s m args below meth c H locs cells slots Q (F0 m tgt ls rest)) (kf : x ≤ y → W p l e R s m args below meth c H locs cells slots Q (F0 m (pc + 3) ls rest)) : W p l e R s m args below meth c H locs cells slots Q (F0 m pc ls (.int (iI y) :: .int (iI x) :: rest)) := by
  have e1 := iI_lt hi hj; have e2 := iI_lt hj hi; have e3 := iI_le hi hj; have e4 := iI_le hj hi; have e5 := iI_eq hi hj
  refine lv_icmp_gt hC.1 hC.2.1 d ht (fun h => kt ?_) (fun h => kf ?_)
  all_goals simp only [e1, e2, e3, e4, e5, ge_iff_le, gt_iff_lt] at h
  all_goals omega
theorem z_if_gt (hC : CallFix p m c cc nL s args tb_ws own) {x off : Int} {tgt : Nat} (d : decode cc pc = .ok (.ifCond .gt off, 3)) (ht : (pc : Int) + off = (tgt : Int)) (hi : inI x) (kt : 0 < x → W p l e R s m args below meth c H locs cells slots Q (F0 m tgt ls rest)) (kf : x ≤ 0 → W p l e R s m args below meth c H locs cells slots Q (F0 m (pc + 3) ls rest)) : W p l e R s m args below meth c H locs cells slots Q (F0 m pc ls (.int (iI x) :: rest)) := by
  have e1 := iI_lt hi inI_0; have e2 := iI_lt inI_0 hi; have e3 := iI_le hi inI_0; have e4 := iI_le inI_0 hi; have e5 := iI_eq hi inI_0
  rw [iI_0] at e1 e2 e3 e4 e5
  refine lv_if_gt hC.1 hC.2.1 d ht (fun h => kt ?_) (fun h => kf ?_)
  all_goals simp only [e1, e2, e3, e4, e5, ge_iff_le, gt_iff_lt] at h
  all_goals omega
theorem z_lcmp_gt (hC : CallFix p m c cc nL s args tb_ws own) {x y off : Int} {tgt : Nat} (d1 : decode cc pc = .ok (.lcmp, 1)) (d : decode cc (pc + 1) = .ok (.ifCond .gt off, 3)) (ht : ((pc + 1 : Nat) : Int) + off = (tgt : Int)) (hi : inL x) (hj : inL y) (kt : y < x → W p l e R s m args below meth c H locs cells slots Q (F0 m tgt ls rest)) (kf : x ≤ y → W p l e R s m args below meth c H locs cells slots Q (F0 m (pc + 4) ls rest)) : W p l e R s m args below meth c H locs cells slots Q (F0 m pc ls (.long (lI y) :: .long (lI x) :: rest)) := by
  rcases lgc hi hj with ⟨h, e⟩ | ⟨h, e⟩ | ⟨h, e⟩
  all_goals
    refine W.lcmp hC.1 hC.2.1 d1 ?_
    rw [e]
    exact z_if_gt hC d ht (by decide) (fun h2 => kt (by omega)) (fun h2 => kf (by omega))
theorem z_icmp_le (hC : CallFix p m c cc nL s args tb_ws own) {x y off : Int} {tgt : Nat} (d : decode cc pc = .ok (.if_icmp .le off, 3)) (ht : (pc : Int) + off = (tgt : Int)) (hi : inI x) (hj : inI y) (kt : x ≤ y → W p l e R s m args below meth c H locs cells slots Q (F0 m tgt ls rest)) (kf : y < x → W p l e R s m args below meth c H locs cells slots Q (F0 m (pc + 3) ls rest)) : W p l e R s m args below meth c H locs cells slots Q (F0 m pc ls (.int (iI y) :: .int (iI x) :: rest)) := by
  have e1 := iI_lt hi hj; have e2 := iI_lt hj hi; have e3 := iI_le hi hj; have e4 := iI_le hj hi; have e5 := iI_eq hi hj
  refine lv_icmp_le hC.1 hC.2.1 d ht (fun h => kt ?_) (fun h => kf ?_)
  all_goals simp only [e1, e2, e3, e4, e5, ge_iff_le, gt_iff_lt] at h
  all_goals omega
theorem z_if_le (hC : CallFix p m c cc nL s args tb_ws own) {x off : Int} {tgt : Nat} (d : decode cc pc = .ok (.ifCond .le off, 3)) (ht : (pc : Int) + off = (tgt : Int)) (hi : inI x) (kt : x ≤ 0 → W p l e R s m args below meth c H locs cells slots Q (F0 m tgt ls rest)) (kf : 0 < x → W p l e R s m args below meth c H locs cells slots Q (F0 m (pc + 3) ls rest)) : W p l e R s m args below meth c H locs cells slots Q (F0 m pc ls (.int (iI x) :: rest)) := by
  have e1 := iI_lt hi inI_0; have e2 := iI_lt inI_0 hi; have e3 := iI_le hi inI_0; have e4 := iI_le inI_0 hi; have e5 := iI_eq hi inI_0
  rw [iI_0] at e1 e2 e3 e4 e5
  refine lv_if_le hC.1 hC.2.1 d ht (fun h => kt ?_) (fun h => kf ?_)
  all_goals simp only [e1, e2, e3, e4, e5, ge_iff_le, gt_iff_lt] at h
  all_goals omega
theorem z_lcmp_le (hC : CallFix p m c cc nL s args tb_ws own) {x y off : Int} {tgt : Nat} (d1 : decode cc pc = .ok (.lcmp, 1)) (d : decode cc (pc + 1) = .ok (.ifCond .le off, 3)) (ht : ((pc + 1 : Nat) : Int) + off = (tgt : Int)) (hi : inL x) (hj : inL y) (kt : x ≤ y → W p l e R s m args below meth c H locs cells slots Q (F0 m tgt ls rest)) (kf : y < x → W p l e R s m args below meth c H locs cells slots Q (F0 m (pc + 4) ls rest)) : W p l e R s m args below meth c H locs cells slots Q (F0 m pc ls (.long (lI y) :: .long (lI x) :: rest)) := by
  rcases lgc hi hj with ⟨h, e⟩ | ⟨h, e⟩ | ⟨h, e⟩
  all_goals
    refine W.lcmp hC.1 hC.2.1 d1 ?_
    rw [e]
    exact z_if_le hC d ht (by decide) (fun h2 => kt (by omega)) (fun h2 => kf (by omega))
theorem z_if_eqB (hC : CallFix p m c cc nL s args tb_ws own) {b : Bool} {off : Int} {tgt : Nat} (d : decode cc pc = .ok (.ifCond .eq off, 3)) (ht : (pc : Int) + off = (tgt : Int)) (kt : b = false → W p l e R s m args below meth c H locs cells slots Q (F0 m tgt ls rest)) (kf : b = true → W p l e R s m args below meth c H locs cells slots Q (F0 m (pc + 3) ls rest)) : W p l e R s m args below meth c H locs cells slots Q (F0 m pc ls (.int (iI (zB b)) :: rest)) := z_if_eq hC d ht (zB_in b) (fun h => kt (by cases b <;> simp_all [zB])) (fun h => kf (by cases b <;> simp_all [zB]))
theorem z_if_neB (hC : CallFix p m c cc nL s args tb_ws own) {b : Bool} {off : Int} {tgt : Nat} (d : decode cc pc = .ok (.ifCond .ne off, 3)) (ht : (pc : Int) + off = (tgt : Int)) (kt : b = true → W p l e R s m args below meth c H locs cells slots Q (F0 m tgt ls rest)) (kf : b = false → W p l e R s m args below meth c H locs cells slots Q (F0 m (pc + 3) ls rest)) : W p l e R s m args below meth c H locs cells slots Q (F0 m pc ls (.int (iI (zB b)) :: rest)) := z_if_ne hC d ht (zB_in b) (fun h => kt (by cases b <;> simp_all [zB])) (fun h => kf (by cases b <;> simp_all [zB]))
end ZRows
