/-! shifts and masks of longs, as whole numbers -/
theorem l_shr_k {x : Int} (hx : inL x) {y : Int64} (k : Nat) (hy : (y.toBitVec.smod 64).toNat = k) (hb : inL (x / 2 ^ k)) : lI x >>> y = lI (x / 2 ^ k) := by
  apply Int64.toInt_inj.mp
  rw [lI_toInt hb]
  show (lI x >>> y).toBitVec.toInt = _
  rw [Int64.toBitVec_shiftRight, BitVec.toInt_sshiftRight', hy, Int.shiftRight_eq_div_pow]
  show (lI x).toInt / ((2 ^ k : Nat) : Int) = _
  rw [lI_toInt hx]
  simp
theorem l_shr24 {x : Int} (hx : inL x) : lI x >>> ((iI 24).toInt64 &&& 63) = lI (x / 16777216) := l_shr_k hx 24 (by decide) (by show inL (x / 16777216); omega)
theorem l_shr48 {x : Int} (hx : inL x) : lI x >>> ((iI 48).toInt64 &&& 63) = lI (x / 281474976710656) := l_shr_k hx 48 (by decide) (by show inL (x / 281474976710656); omega)
theorem l_shr0 {x : Int} (hx : inL x) : lI x >>> ((iI 0).toInt64 &&& 63) = lI x := by
  have h := l_shr_k hx (y := (iI 0).toInt64 &&& 63) 0 (by decide) (by show inL (x / 1); omega)
  rw [h]; congr 1; show x / 1 = x; omega
theorem l_shr26 {x : Int} (hx : inL x) : lI x >>> ((iI 26).toInt64 &&& 63) = lI (x / 67108864) := l_shr_k hx 26 (by decide) (by show inL (x / 67108864); omega)
theorem l_shr52 {x : Int} (hx : inL x) : lI x >>> ((iI 52).toInt64 &&& 63) = lI (x / 4503599627370496) := l_shr_k hx 52 (by decide) (by show inL (x / 4503599627370496); omega)
theorem l_shr63 {x : Int} (hx : inL x) : lI x >>> ((iI 63).toInt64 &&& 63) = lI (x / 9223372036854775808) := l_shr_k hx 63 (by decide) (by show inL (x / 9223372036854775808); omega)
theorem l_shr1 {x : Int} (hx : inL x) : lI x >>> ((iI 1).toInt64 &&& 63) = lI (x / 2) := l_shr_k hx 1 (by decide) (by show inL (x / 2); omega)
theorem lI_tn (x : Int) : (lI x).toBitVec.toNat = (x % 18446744073709551616).toNat := by
  show (BitVec.ofInt 64 x).toNat = _
  rw [BitVec.toNat_ofInt]
  rfl
theorem l_mask_k (x : Int) (k : Nat) {m r : Int} (hm : (m % 18446744073709551616).toNat = 2 ^ k - 1) (hr : (x % 18446744073709551616).toNat % 2 ^ k = (r % 18446744073709551616).toNat) : lI x &&& lI m = lI r := by
  apply Int64.toBitVec_inj.mp
  apply BitVec.eq_of_toNat_eq
  rw [Int64.toBitVec_and, BitVec.toNat_and, lI_tn, lI_tn, lI_tn, hm, Nat.and_two_pow_sub_one_eq_mod]
  exact hr
theorem l_mask24 (x : Int) : lI x &&& lI 16777215 = lI (x % 16777216) := l_mask_k x 24 (by decide) (by show _ % 16777216 = _; omega)
theorem l_mask26 (x : Int) : lI x &&& lI 67108863 = lI (x % 67108864) := l_mask_k x 26 (by decide) (by show _ % 67108864 = _; omega)
theorem l_mask52 (x : Int) : lI x &&& lI 4503599627370495 = lI (x % 4503599627370496) := l_mask_k x 52 (by decide) (by show _ % 4503599627370496 = _; omega)
theorem l_shl26 (x : Int) : lI x <<< ((iI 26).toInt64 &&& 63) = lI (67108864 * x) := by
  apply Int64.toBitVec_inj.mp
  apply BitVec.eq_of_toNat_eq
  rw [Int64.toBitVec_shiftLeft, BitVec.shiftLeft_eq', BitVec.toNat_shiftLeft, lI_tn, lI_tn, show (((iI 26).toInt64 &&& 63).toBitVec.smod 64).toNat = 26 from by decide, Nat.shiftLeft_eq]
  show _ * 67108864 % 18446744073709551616 = _
  omega
/-- the sign of a number -/
def sgn (z : Int) : Int := if z < 0 then -1 else if z = 0 then 0 else 1
theorem sgn_in (z : Int) : -1 ≤ sgn z ∧ sgn z ≤ 1 := by unfold sgn; split <;> (try split) <;> omega
theorem l_ushr63 {x : Int} (hx : inL x) : ((lI x).toUInt64 >>> ((iI 63).toInt64.toUInt64 &&& Int64.toUInt64 63)).toInt64 = lI (if x < 0 then 1 else 0) := by
  apply Int64.toBitVec_inj.mp
  apply BitVec.eq_of_toNat_eq
  have e : (((lI x).toUInt64 >>> ((iI 63).toInt64.toUInt64 &&& Int64.toUInt64 63)).toInt64).toBitVec.toNat = (lI x).toBitVec.toNat / 2 ^ 63 := by
    show ((lI x).toUInt64 >>> ((iI 63).toInt64.toUInt64 &&& Int64.toUInt64 63)).toNat = _
    rw [UInt64.toNat_shiftRight, show ((iI 63).toInt64.toUInt64 &&& Int64.toUInt64 63).toNat % 64 = 63 from by decide, Nat.shiftRight_eq_div_pow]
    rfl
  rw [e, lI_tn, lI_tn]
  show _ / 9223372036854775808 = _
  split <;> omega
theorem l_sgn {x : Int} (hx : inL x) (hx2 : -9223372036854775808 < x) : ((lI x >>> ((iI 63).toInt64 &&& 63)) ||| ((-lI x).toUInt64 >>> ((iI 63).toInt64.toUInt64 &&& Int64.toUInt64 63)).toInt64).toInt32 = iI (sgn x) := by
  rw [l_shr63 hx, lI_neg, l_ushr63 (by omega)]
  unfold sgn
  rcases (show x < 0 ∨ x = 0 ∨ 0 < x by omega) with h | h | h
  · rw [if_pos h, show x / 9223372036854775808 = -1 by omega, if_neg (show ¬ -x < 0 by omega)]; decide
  · subst h; decide
  · rw [if_pos (show -x < 0 by omega), if_neg (show ¬ x < 0 by omega), if_neg (show ¬ x = 0 by omega), show x / 9223372036854775808 = 0 by omega]; decide
theorem i_sgn {x : Int} (hx : -2 ≤ x ∧ x ≤ 2) : ((iI x >>> ((iI 31) &&& 31)) ||| ((-iI x).toUInt32 >>> ((iI 31).toUInt32 &&& Int32.toUInt32 31)).toInt32) = iI (sgn x) := by
  rcases (show x = -2 ∨ x = -1 ∨ x = 0 ∨ x = 1 ∨ x = 2 by omega) with rfl | rfl | rfl | rfl | rfl <;> decide
/-- what the sign of p + q G comes to, in so many rounds -/
def gsN : Nat → Int → Int → Int
  | 0, _, _ => 0
  | n + 1, p, q => if 0 ≤ sgn p * sgn q then sgn (sgn p + sgn q) else gsN n q (p + q)
theorem gsN_s {n : Int} (h : 0 < n) (p q : Int) : gsN n.toNat p q = if 0 ≤ sgn p * sgn q then sgn (sgn p + sgn q) else gsN (n - 1).toNat q (p + q) := by
  obtain ⟨m, rfl⟩ : ∃ m : Nat, n = (m : Int) + 1 := ⟨(n - 1).toNat, by omega⟩
  rw [show ((m : Int) + 1).toNat = m + 1 by omega, show ((m : Int) + 1 - 1).toNat = m by omega]
  rfl
/-- bisection -/
def nrN (Rc : Int → Bool) : Nat → Int → Int → Int
  | 0, a, _ => a
  | n + 1, a, b => if b - a ≤ 1 then a else if Rc ((a + b) / 2) then nrN Rc n ((a + b) / 2) b else nrN Rc n a ((a + b) / 2)
theorem nrN_s (Rc : Int → Bool) {n : Int} (h : 0 < n) (a b : Int) : nrN Rc n.toNat a b = if b - a ≤ 1 then a else if Rc ((a + b) / 2) then nrN Rc (n - 1).toNat ((a + b) / 2) b else nrN Rc (n - 1).toNat a ((a + b) / 2) := by
  obtain ⟨m, rfl⟩ : ∃ m : Nat, n = (m : Int) + 1 := ⟨(n - 1).toNat, by omega⟩
  rw [show ((m : Int) + 1).toNat = m + 1 by omega, show ((m : Int) + 1 - 1).toNat = m by omega]
  rfl
theorem mul_split {x y xh xl yh yl : Int} (hx : x = 67108864 * xh + xl) (hy : y = 67108864 * yh + yl) : x * y = 4503599627370496 * (xh * yh) + 67108864 * (xh * yl + xl * yh) + xl * yl := by
  subst hx; subst hy
  rw [Int.add_mul, Int.mul_add, Int.mul_add]
  have a : 67108864 * xh * (67108864 * yh) = 4503599627370496 * (xh * yh) := by
    rw [Int.mul_assoc, Int.mul_left_comm xh, ← Int.mul_assoc]; rfl
  have b : 67108864 * xh * yl = 67108864 * (xh * yl) := Int.mul_assoc _ _ _
  have c : xl * (67108864 * yh) = 67108864 * (xl * yh) := Int.mul_left_comm _ _ _
  omega
theorem sgn_op {P Q : Int} (h : sgn P * sgn Q < 0) : (P < 0 ∧ 0 < Q) ∨ (0 < P ∧ Q < 0) := by
  unfold sgn at h
  rcases (show P < 0 ∨ P = 0 ∨ 0 < P by omega) with a | a | a <;> rcases (show Q < 0 ∨ Q = 0 ∨ 0 < Q by omega) with b | b | b
  all_goals first | omega | (exfalso; simp [a, b, show ¬ P < 0 by omega, show ¬ Q < 0 by omega, show ¬ P = 0 by omega, show ¬ Q = 0 by omega] at h; done) | (exfalso; simp [*] at h; done) | (exfalso; revert h; simp [a, b]; done) | skip
theorem sgn_eq {a b : Int} (h1 : a < 0 ↔ b < 0) (h2 : a = 0 ↔ b = 0) : sgn a = sgn b := by unfold sgn; simp only [h1, h2]
theorem gsN_in (n : Nat) (p q : Int) : -1 ≤ gsN n p q ∧ gsN n p q ≤ 1 := by
  induction n generalizing p q with
  | zero => exact ⟨by show (-1 : Int) ≤ 0; omega, by show (0 : Int) ≤ 1; omega⟩
  | succ n ih =>
    show -1 ≤ (if 0 ≤ sgn p * sgn q then sgn (sgn p + sgn q) else gsN n q (p + q)) ∧ (if 0 ≤ sgn p * sgn q then sgn (sgn p + sgn q) else gsN n q (p + q)) ≤ 1
    split
    · exact sgn_in _
    · exact ih _ _
/-- whether twice the place is at least an odd number -/
def twZ (up : Bool) (sd sc wh go o : Int) : Bool :=
  if up = false then decide (0 ≤ gsN 1000 (sc * wh - 1 * o) (sc * go))
  else if o < 0 ∧ 0 ≤ sd then true else if 0 < o ∧ sd ≤ 0 then false
  else if 0 < o then decide (0 ≤ gsN 1000 (sc * wh - o * o) (sc * go)) else decide (gsN 1000 (sc * wh - o * o) (sc * go) ≤ 0)
def nesZ (up : Bool) (sd sc wh go : Int) : Int := nrN (fun m => twZ up sd sc wh go (2 * m - 1)) 64 (-40000000000000) 40000000000000
def stepsZ (F : Int → Int) (z n c x len : Int) : Int :=
  if hasZ z n c && decide (0 ≤ x ∧ x ≤ 1 ∧ 1 ≤ len ∧ len ≤ 10000000) then
    (if x = 0 then nesZ false 0 len (2 * F (4 * c + 12 * n) - F (4 * c + 12 * n + 1)) (F (4 * c + 12 * n + 1) - F (4 * c + 12 * n + 2) - F (4 * c + 12 * n + 3))
     else nesZ true (sgn (hZ 0 F (4 * c + 12 * n))) (len * len)
       (3 * ((F (4 * c + 12 * n + 2) - F (4 * c + 12 * n + 3)) * (F (4 * c + 12 * n + 2) - F (4 * c + 12 * n + 3)) + F (4 * c + 12 * n + 1) * F (4 * c + 12 * n + 1)) - (2 * ((F (4 * c + 12 * n + 2) - F (4 * c + 12 * n + 3)) * F (4 * c + 12 * n + 1)) + F (4 * c + 12 * n + 1) * F (4 * c + 12 * n + 1)))
       (2 * (2 * ((F (4 * c + 12 * n + 2) - F (4 * c + 12 * n + 3)) * F (4 * c + 12 * n + 1)) + F (4 * c + 12 * n + 1) * F (4 * c + 12 * n + 1)) - ((F (4 * c + 12 * n + 2) - F (4 * c + 12 * n + 3)) * (F (4 * c + 12 * n + 2) - F (4 * c + 12 * n + 3)) + F (4 * c + 12 * n + 1) * F (4 * c + 12 * n + 1))))
  else 0
theorem nesZ_sd (sd sc wh go : Int) : nesZ false sd sc wh go = nesZ false 0 sc wh go := rfl
theorem nrN_end (Rc : Int → Bool) {n a b : Int} (h : n ≤ 0 ∨ b - a ≤ 1) : nrN Rc n.toNat a b = a := by
  rcases (show n ≤ 0 ∨ 0 < n by omega) with q | q
  · rw [show n.toNat = 0 by omega]; rfl
  · rw [nrN_s Rc q, if_pos (by omega)]
