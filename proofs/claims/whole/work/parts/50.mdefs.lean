/-! THE MODEL: its rows of four longs -/
def v4 (a b c d : Int) : Int → Int := fun k => if k = 0 then a else if k = 1 then b else if k = 2 then c else if k = 3 then d else 0
theorem v4_u0 (a b c d x : Int) : uZ (v4 a b c d) 0 x = v4 x b c d := by
  funext k; unfold uZ v4
  by_cases h : k = 0
  · rw [if_pos h, if_pos h]
  · rw [if_neg h, if_neg h, if_neg h]
theorem v4_u1 (a b c d x : Int) : uZ (v4 a b c d) 1 x = v4 a x c d := by
  funext k; unfold uZ v4
  by_cases h : k = 1
  · rw [if_pos h, if_neg (by omega), if_pos h]
  · rw [if_neg h]; simp only [if_neg h]
theorem v4_u2 (a b c d x : Int) : uZ (v4 a b c d) 2 x = v4 a b x d := by
  funext k; unfold uZ v4
  by_cases h : k = 2
  · rw [if_pos h, if_neg (by omega), if_neg (by omega), if_pos h]
  · rw [if_neg h]; simp only [if_neg h]
theorem v4_u3 (a b c d x : Int) : uZ (v4 a b c d) 3 x = v4 a b c x := by
  funext k; unfold uZ v4
  by_cases h : k = 3
  · rw [if_pos h, if_neg (by omega), if_neg (by omega), if_neg (by omega), if_pos h]
  · rw [if_neg h]; simp only [if_neg h]
theorem v4_0 : v4 0 0 0 0 = fun _ => 0 := by
  funext k; unfold v4; simp
