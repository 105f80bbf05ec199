/-! THE MODEL: its rows of four longs -/
def v4 (a b c d : Int) : Int → Int := fun k => if k = 0 then a else if k = 1 then b else if k = 2 then c else if k = 3 then d else 0
theorem v4_u0 (a b c d x : Int) : uZ (v4 a b c d) 0 x = v4 x b c d := by
  funext k; unfold uZ v4
  by_cases h : k = 0
  · rw [if_pos h, if_pos h]
  · rw [if_neg h, if_neg h, if_neg h]
theorem v4_u1 (a b c d x : Int) : uZ (v4 a b c d) 1 x = v4 a x c d := by
  funext k; unfold uZ v4
  by_cases h : k = 1
  · rw [if_pos h, if_neg (by omega), if_pos h]
  · rw [if_neg h]; simp only [if_neg h]
theorem v4_u2 (a b c d x : Int) : uZ (v4 a b c d) 2 x = v4 a b x d := by
  funext k; unfold uZ v4
  by_cases h : k = 2
  · rw [if_pos h, if_neg (by omega), if_neg (by omega), if_pos h]
  · rw [if_neg h]; simp only [if_neg h]
theorem v4_u3 (a b c d x : Int) : uZ (v4 a b c d) 3 x = v4 a b c x := by
  funext k; unfold uZ v4
  by_cases h : k = 3
  · rw [if_pos h, if_neg (by omega), if_neg (by omega), if_neg (by omega), if_pos h]
  · rw [if_neg h]; simp only [if_neg h]
theorem v4_0 : v4 0 0 0 0 = fun _ => 0 := by
  funext k; unfold v4; simp
theorem UN_next {j : Int} (h : 0 ≤ j ∧ j < 9) : z_UNITS (4 * (j + 1)) = z_UNITS (4 * j + 1) - z_UNITS (4 * j + 2) ∧ z_UNITS (4 * (j + 1) + 1) = z_UNITS (4 * j + 1) - z_UNITS (4 * j + 3) ∧ z_UNITS (4 * (j + 1) + 2) = z_UNITS (4 * j + 1) ∧ z_UNITS (4 * (j + 1) + 3) = z_UNITS (4 * j + 1) - z_UNITS (4 * j) := by
  rcases (show j = 0 ∨ j = 1 ∨ j = 2 ∨ j = 3 ∨ j = 4 ∨ j = 5 ∨ j = 6 ∨ j = 7 ∨ j = 8 by omega) with rfl | rfl | rfl | rfl | rfl | rfl | rfl | rfl | rfl <;> decide
def szZ (x : Int) : Int := if x < 0 then -x else x
def ftZ (a b c d : Int) : Bool := nearZ a && nearZ b && nearZ c && nearZ d
theorem szZ_le (x : Int) : ¬ 1000000 < szZ x ↔ nearZ x = true := by
  unfold szZ nearZ; simp; split <;> omega
theorem szZ_gt (x : Int) : 1000000 < szZ x ↔ nearZ x = false := by
  unfold szZ nearZ; simp; split <;> omega
theorem szZ_in {x : Int} (h : -4611686018427387904 ≤ x ∧ x ≤ 4611686018427387904) : 0 ≤ szZ x ∧ szZ x ≤ 4611686018427387904 := by unfold szZ; split <;> omega
/-- the model's rows of twelve -/
def em12 (F : Int → Int) (n a0 a1 a2 a3 b0 b1 b2 b3 d0 d1 d2 d3 : Int) : Int → Int := uZ (uZ (uZ (uZ (uZ (uZ (uZ (uZ (uZ (uZ (uZ (uZ F (12 * n) a0) (12 * n + 4) b0) (12 * n + 8) d0) (12 * n + 1) a1) (12 * n + 5) b1) (12 * n + 9) d1) (12 * n + 2) a2) (12 * n + 6) b2) (12 * n + 10) d2) (12 * n + 3) a3) (12 * n + 7) b3) (12 * n + 11) d3
def pu12 (F : Int → Int) (n a0 a1 a2 a3 b0 b1 b2 b3 d0 d1 d2 d3 : Int) : Int → Int := st4 (st4 (st4 F (12 * n) a0 a1 a2 a3) (12 * n + 4) b0 b1 b2 b3) (12 * n + 8) d0 d1 d2 d3
def cpN (f g : Int → Int) (n : Int) : Int → Int := fun k => if 0 ≤ k ∧ k < n then f k else g k
theorem cpN_0 (f g : Int → Int) : cpN f g 0 = g := by funext k; unfold cpN; rw [if_neg (by omega)]
theorem cpN_s {f g : Int → Int} {k : Int} (h : 0 ≤ k) : uZ (cpN f g k) k (f k) = cpN f g (k + 1) := by
  funext j
  unfold uZ cpN
  by_cases c : j = k
  · rw [if_pos c, if_pos (by omega), c]
  · rw [if_neg c]
    by_cases d : 0 ≤ j ∧ j < k
    · rw [if_pos d, if_pos (by omega)]
    · rw [if_neg d, if_neg (by omega)]
theorem btw_e {F : Int → Int} {a b c d r : Int} (h1 : a = c) (h2 : b = d) (hr : r = F a - F b) : r = F c - F d := by rw [hr, h1, h2]
