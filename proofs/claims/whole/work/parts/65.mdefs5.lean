/-! the model: dividing and putting together -/
def w20 (e0 e1 e2 e3 e4 e5 e6 e7 e8 e9 e10 e11 e12 e13 e14 e15 e16 e17 e18 e19 : Int) : Int → Int := fun k => if k = 0 then e0 else if k = 1 then e1 else if k = 2 then e2 else if k = 3 then e3 else if k = 4 then e4 else if k = 5 then e5 else if k = 6 then e6 else if k = 7 then e7 else if k = 8 then e8 else if k = 9 then e9 else if k = 10 then e10 else if k = 11 then e11 else if k = 12 then e12 else if k = 13 then e13 else if k = 14 then e14 else if k = 15 then e15 else if k = 16 then e16 else if k = 17 then e17 else if k = 18 then e18 else if k = 19 then e19 else 0
def mdP (T F : Int → Int) (n fm : Int) (Yr Fr : Int → Int) (fm2 : Int) (Yr2 Fr2 : Int → Int) (W : Int → Int) : Prop :=
  dvA W F n ∧ (ftZ (W 0) (W 1) (W 2) (W 3) = true ∧ ftZ (W 4) (W 5) (W 6) (W 7) = true ∧ ftZ (W 8) (W 9) (W 10) (W 11) = true) ∧ ((T n = 0 ∧ dvC W 0 4 12 ∧ ftZ (W 12) (W 13) (W 14) (W 15) = true ∧ fm2 = fm + 2 ∧ Yr2 = uZ (uZ Yr fm 0) (fm + 1) 1 ∧ Fr2 = em12 (em12 Fr fm (W 8) (W 9) (W 10) (W 11) (W 12) (W 13) (W 14) (W 15) (W 4) (W 5) (W 6) (W 7)) (fm + 1) (W 12) (W 13) (W 14) (W 15) (W 8) (W 9) (W 10) (W 11) (W 0) (W 1) (W 2) (W 3)) ∨
    (T n = 1 ∧ dvC W 4 0 12 ∧ dvC W 4 8 16 ∧ (ftZ (W 12) (W 13) (W 14) (W 15) = true ∧ ftZ (W 16) (W 17) (W 18) (W 19) = true) ∧ fm2 = fm + 3 ∧ Yr2 = uZ (uZ (uZ Yr fm 1) (fm + 1) 1) (fm + 2) 0 ∧ Fr2 = em12 (em12 (em12 Fr fm (W 16) (W 17) (W 18) (W 19) (W 8) (W 9) (W 10) (W 11) (W 0) (W 1) (W 2) (W 3)) (fm + 1) (W 12) (W 13) (W 14) (W 15) (W 16) (W 17) (W 18) (W 19) (W 4) (W 5) (W 6) (W 7)) (fm + 2) (W 16) (W 17) (W 18) (W 19) (W 12) (W 13) (W 14) (W 15) (W 0) (W 1) (W 2) (W 3)))
/-- a half that can't be divided: one of the points is too far -/
def mdX (T F : Int → Int) (n : Int) (W : Int → Int) : Prop :=
  dvA W F n ∧ ((T n = 0 ∧ dvC W 0 4 12 ∧ ¬ (ftZ (W 0) (W 1) (W 2) (W 3) = true ∧ ftZ (W 4) (W 5) (W 6) (W 7) = true ∧ ftZ (W 8) (W 9) (W 10) (W 11) = true ∧ ftZ (W 12) (W 13) (W 14) (W 15) = true)) ∨ (T n = 1 ∧ dvC W 4 0 12 ∧ dvC W 4 8 16 ∧ ¬ (ftZ (W 0) (W 1) (W 2) (W 3) = true ∧ ftZ (W 4) (W 5) (W 6) (W 7) = true ∧ ftZ (W 8) (W 9) (W 10) (W 11) = true ∧ ftZ (W 12) (W 13) (W 14) (W 15) = true ∧ ftZ (W 16) (W 17) (W 18) (W 19) = true)))
def mdR (T F : Int → Int) : Nat → Int → (Int → Int) → (Int → Int) → Prop
  | 0, fm, _, _ => fm = 0
  | k + 1, fm2, Yr2, Fr2 => ∃ (fm : Int) (Yr Fr W : Int → Int), mdR T F k fm Yr Fr ∧ mdP T F k fm Yr Fr fm2 Yr2 Fr2 W
theorem mdR_s {T F : Int → Int} {k fm fm2 : Int} {Yr Fr Yr2 Fr2 W : Int → Int} (h0 : 0 ≤ k) (h : mdR T F k.toNat fm Yr Fr) (hp : mdP T F k fm Yr Fr fm2 Yr2 Fr2 W) : mdR T F (k + 1).toNat fm2 Yr2 Fr2 := by
  obtain ⟨n, rfl⟩ : ∃ n : Nat, k = n := ⟨k.toNat, by omega⟩
  rw [show ((n : Int) + 1).toNat = n + 1 by omega]
  rw [show ((n : Int)).toNat = n by omega] at h
  exact ⟨fm, Yr, Fr, W, h, hp⟩
def jnF (Fr : Int → Int) (fm : Int) (F : Int → Int) (i1 i2 i3 : Int) : Int → Int := em12 Fr fm (F (i1 + 1) - F (i1 + 3) - F i1) (F (i1 + 2) - F (i1 + 3)) (F (i1 + 1) - F i1) (F (i1 + 2) - F (i1 + 3) - F i1) (F (i2 + 1) - F (i2 + 3) - F i2) (F (i2 + 2) - F (i2 + 3)) (F (i2 + 1) - F i2) (F (i2 + 2) - F (i2 + 3) - F i2) (F (i3 + 1) - F (i3 + 3) - F i3) (F (i3 + 2) - F (i3 + 3)) (F (i3 + 1) - F i3) (F (i3 + 2) - F (i3 + 3) - F i3)
def jfZ (F : Int → Int) (i1 i2 i3 : Int) : Bool := ftZ (F (i1 + 1) - F (i1 + 3) - F i1) (F (i1 + 2) - F (i1 + 3)) (F (i1 + 1) - F i1) (F (i1 + 2) - F (i1 + 3) - F i1) && (ftZ (F (i2 + 1) - F (i2 + 3) - F i2) (F (i2 + 2) - F (i2 + 3)) (F (i2 + 1) - F i2) (F (i2 + 2) - F (i2 + 3) - F i2) && ftZ (F (i3 + 1) - F (i3 + 3) - F i3) (F (i3 + 2) - F (i3 + 3)) (F (i3 + 1) - F i3) (F (i3 + 2) - F (i3 + 3) - F i3))
/-- the rows of Fr are those of Fn made smaller -/
def shq (Fn Fr : Int → Int) (m : Int) : Prop := ∀ j c, 0 ≤ j → j < m → 0 ≤ c → c ≤ 2 → Fr (12 * j + 4 * c) = Fn (12 * j + 4 * c + 1) - Fn (12 * j + 4 * c + 3) - Fn (12 * j + 4 * c) ∧ Fr (12 * j + 4 * c + 1) = Fn (12 * j + 4 * c + 2) - Fn (12 * j + 4 * c + 3) ∧ Fr (12 * j + 4 * c + 2) = Fn (12 * j + 4 * c + 1) - Fn (12 * j + 4 * c) ∧ Fr (12 * j + 4 * c + 3) = Fn (12 * j + 4 * c + 2) - Fn (12 * j + 4 * c) - Fn (12 * j + 4 * c + 3)
def allN (Fr : Int → Int) (m : Int) : Prop := ∀ k, 0 ≤ k → k < 12 * m → nearZ (Fr k) = true
def mdf (gd : Bool) (zn : Int) (Tn Fn : Int → Int) (fm : Int) (Yr Fr : Int → Int) : Prop := (gd = true → fm = zn ∧ Yr = Tn ∧ shq Fn Fr zn ∧ allN Fr zn) ∧ (gd = false → ∃ Fq, shq Fn Fq zn ∧ ¬ allN Fq zn)
theorem em12_out {F : Int → Int} {n a0 a1 a2 a3 b0 b1 b2 b3 d0 d1 d2 d3 j : Int} (h : j < 12 * n ∨ 12 * n + 12 ≤ j) : em12 F n a0 a1 a2 a3 b0 b1 b2 b3 d0 d1 d2 d3 j = F j := by
  unfold em12
  rw [uZ_n (by omega), uZ_n (by omega), uZ_n (by omega), uZ_n (by omega), uZ_n (by omega), uZ_n (by omega), uZ_n (by omega), uZ_n (by omega), uZ_n (by omega), uZ_n (by omega), uZ_n (by omega), uZ_n (by omega)]
theorem wrN_out {F R : Int → Int} {n a b c j : Int} (h : j < 12 * n ∨ 12 * n + 12 ≤ j) : wrN F n R a b c j = F j := by
  unfold wrN
  rw [cZ_out (by omega), cZ_out (by omega), cZ_out (by omega)]
theorem em12_at (F : Int → Int) (n a0 a1 a2 a3 b0 b1 b2 b3 d0 d1 d2 d3 : Int) : em12 F n a0 a1 a2 a3 b0 b1 b2 b3 d0 d1 d2 d3 (12 * n) = a0 ∧ em12 F n a0 a1 a2 a3 b0 b1 b2 b3 d0 d1 d2 d3 (12 * n + 1) = a1 ∧ em12 F n a0 a1 a2 a3 b0 b1 b2 b3 d0 d1 d2 d3 (12 * n + 2) = a2 ∧ em12 F n a0 a1 a2 a3 b0 b1 b2 b3 d0 d1 d2 d3 (12 * n + 3) = a3 ∧ em12 F n a0 a1 a2 a3 b0 b1 b2 b3 d0 d1 d2 d3 (12 * n + 4) = b0 ∧ em12 F n a0 a1 a2 a3 b0 b1 b2 b3 d0 d1 d2 d3 (12 * n + 5) = b1 ∧ em12 F n a0 a1 a2 a3 b0 b1 b2 b3 d0 d1 d2 d3 (12 * n + 6) = b2 ∧ em12 F n a0 a1 a2 a3 b0 b1 b2 b3 d0 d1 d2 d3 (12 * n + 7) = b3 ∧ em12 F n a0 a1 a2 a3 b0 b1 b2 b3 d0 d1 d2 d3 (12 * n + 8) = d0 ∧ em12 F n a0 a1 a2 a3 b0 b1 b2 b3 d0 d1 d2 d3 (12 * n + 9) = d1 ∧ em12 F n a0 a1 a2 a3 b0 b1 b2 b3 d0 d1 d2 d3 (12 * n + 10) = d2 ∧ em12 F n a0 a1 a2 a3 b0 b1 b2 b3 d0 d1 d2 d3 (12 * n + 11) = d3 := by
  unfold em12
  refine ⟨?_, ?_, ?_, ?_, ?_, ?_, ?_, ?_, ?_, ?_, ?_, ?_⟩
  · rw [uZ_n (by omega), uZ_n (by omega), uZ_n (by omega), uZ_n (by omega), uZ_n (by omega), uZ_n (by omega), uZ_n (by omega), uZ_n (by omega), uZ_n (by omega), uZ_n (by omega), uZ_n (by omega), uZ_s]
  · rw [uZ_n (by omega), uZ_n (by omega), uZ_n (by omega), uZ_n (by omega), uZ_n (by omega), uZ_n (by omega), uZ_n (by omega), uZ_n (by omega), uZ_s]
  · rw [uZ_n (by omega), uZ_n (by omega), uZ_n (by omega), uZ_n (by omega), uZ_n (by omega), uZ_s]
  · rw [uZ_n (by omega), uZ_n (by omega), uZ_s]
  · rw [uZ_n (by omega), uZ_n (by omega), uZ_n (by omega), uZ_n (by omega), uZ_n (by omega), uZ_n (by omega), uZ_n (by omega), uZ_n (by omega), uZ_n (by omega), uZ_n (by omega), uZ_s]
  · rw [uZ_n (by omega), uZ_n (by omega), uZ_n (by omega), uZ_n (by omega), uZ_n (by omega), uZ_n (by omega), uZ_n (by omega), uZ_s]
  · rw [uZ_n (by omega), uZ_n (by omega), uZ_n (by omega), uZ_n (by omega), uZ_s]
  · rw [uZ_n (by omega), uZ_s]
  · rw [uZ_n (by omega), uZ_n (by omega), uZ_n (by omega), uZ_n (by omega), uZ_n (by omega), uZ_n (by omega), uZ_n (by omega), uZ_n (by omega), uZ_n (by omega), uZ_s]
  · rw [uZ_n (by omega), uZ_n (by omega), uZ_n (by omega), uZ_n (by omega), uZ_n (by omega), uZ_n (by omega), uZ_s]
  · rw [uZ_n (by omega), uZ_n (by omega), uZ_n (by omega), uZ_s]
  · rw [uZ_s]
theorem wrN_at (F R : Int → Int) (n a b c : Int) : wrN F n R a b c (12 * n) = R (a) ∧ wrN F n R a b c (12 * n + 1) = R (a + 1) ∧ wrN F n R a b c (12 * n + 2) = R (a + 2) ∧ wrN F n R a b c (12 * n + 3) = R (a + 3) ∧ wrN F n R a b c (12 * n + 4) = R (b) ∧ wrN F n R a b c (12 * n + 5) = R (b + 1) ∧ wrN F n R a b c (12 * n + 6) = R (b + 2) ∧ wrN F n R a b c (12 * n + 7) = R (b + 3) ∧ wrN F n R a b c (12 * n + 8) = R (c) ∧ wrN F n R a b c (12 * n + 9) = R (c + 1) ∧ wrN F n R a b c (12 * n + 10) = R (c + 2) ∧ wrN F n R a b c (12 * n + 11) = R (c + 3) := by
  unfold wrN cZ
  refine ⟨?_, ?_, ?_, ?_, ?_, ?_, ?_, ?_, ?_, ?_, ?_, ?_⟩
  · rw [if_neg (by omega), if_neg (by omega), if_pos (by omega)]; congr 1; omega
  · rw [if_neg (by omega), if_neg (by omega), if_pos (by omega)]; congr 1; omega
  · rw [if_neg (by omega), if_neg (by omega), if_pos (by omega)]; congr 1; omega
  · rw [if_neg (by omega), if_neg (by omega), if_pos (by omega)]; congr 1; omega
  · rw [if_neg (by omega), if_pos (by omega)]; congr 1; omega
  · rw [if_neg (by omega), if_pos (by omega)]; congr 1; omega
  · rw [if_neg (by omega), if_pos (by omega)]; congr 1; omega
  · rw [if_neg (by omega), if_pos (by omega)]; congr 1; omega
  · rw [if_pos (by omega)]; congr 1; omega
  · rw [if_pos (by omega)]; congr 1; omega
  · rw [if_pos (by omega)]; congr 1; omega
  · rw [if_pos (by omega)]; congr 1; omega
theorem pu12_at (F : Int → Int) (n a0 a1 a2 a3 b0 b1 b2 b3 d0 d1 d2 d3 : Int) : pu12 F n a0 a1 a2 a3 b0 b1 b2 b3 d0 d1 d2 d3 (12 * n) = a0 ∧ pu12 F n a0 a1 a2 a3 b0 b1 b2 b3 d0 d1 d2 d3 (12 * n + 1) = a1 ∧ pu12 F n a0 a1 a2 a3 b0 b1 b2 b3 d0 d1 d2 d3 (12 * n + 2) = a2 ∧ pu12 F n a0 a1 a2 a3 b0 b1 b2 b3 d0 d1 d2 d3 (12 * n + 3) = a3 ∧ pu12 F n a0 a1 a2 a3 b0 b1 b2 b3 d0 d1 d2 d3 (12 * n + 4) = b0 ∧ pu12 F n a0 a1 a2 a3 b0 b1 b2 b3 d0 d1 d2 d3 (12 * n + 5) = b1 ∧ pu12 F n a0 a1 a2 a3 b0 b1 b2 b3 d0 d1 d2 d3 (12 * n + 6) = b2 ∧ pu12 F n a0 a1 a2 a3 b0 b1 b2 b3 d0 d1 d2 d3 (12 * n + 7) = b3 ∧ pu12 F n a0 a1 a2 a3 b0 b1 b2 b3 d0 d1 d2 d3 (12 * n + 8) = d0 ∧ pu12 F n a0 a1 a2 a3 b0 b1 b2 b3 d0 d1 d2 d3 (12 * n + 9) = d1 ∧ pu12 F n a0 a1 a2 a3 b0 b1 b2 b3 d0 d1 d2 d3 (12 * n + 10) = d2 ∧ pu12 F n a0 a1 a2 a3 b0 b1 b2 b3 d0 d1 d2 d3 (12 * n + 11) = d3 := by
  unfold pu12 st4
  refine ⟨?_, ?_, ?_, ?_, ?_, ?_, ?_, ?_, ?_, ?_, ?_, ?_⟩
  · rw [uZ_n (by omega), uZ_n (by omega), uZ_n (by omega), uZ_n (by omega), uZ_n (by omega), uZ_n (by omega), uZ_n (by omega), uZ_n (by omega), uZ_n (by omega), uZ_n (by omega), uZ_n (by omega), uZ_et (by omega)]
  · rw [uZ_n (by omega), uZ_n (by omega), uZ_n (by omega), uZ_n (by omega), uZ_n (by omega), uZ_n (by omega), uZ_n (by omega), uZ_n (by omega), uZ_n (by omega), uZ_n (by omega), uZ_et (by omega)]
  · rw [uZ_n (by omega), uZ_n (by omega), uZ_n (by omega), uZ_n (by omega), uZ_n (by omega), uZ_n (by omega), uZ_n (by omega), uZ_n (by omega), uZ_n (by omega), uZ_et (by omega)]
  · rw [uZ_n (by omega), uZ_n (by omega), uZ_n (by omega), uZ_n (by omega), uZ_n (by omega), uZ_n (by omega), uZ_n (by omega), uZ_n (by omega), uZ_et (by omega)]
  · rw [uZ_n (by omega), uZ_n (by omega), uZ_n (by omega), uZ_n (by omega), uZ_n (by omega), uZ_n (by omega), uZ_n (by omega), uZ_et (by omega)]
  · rw [uZ_n (by omega), uZ_n (by omega), uZ_n (by omega), uZ_n (by omega), uZ_n (by omega), uZ_n (by omega), uZ_et (by omega)]
  · rw [uZ_n (by omega), uZ_n (by omega), uZ_n (by omega), uZ_n (by omega), uZ_n (by omega), uZ_et (by omega)]
  · rw [uZ_n (by omega), uZ_n (by omega), uZ_n (by omega), uZ_n (by omega), uZ_et (by omega)]
  · rw [uZ_n (by omega), uZ_n (by omega), uZ_n (by omega), uZ_et (by omega)]
  · rw [uZ_n (by omega), uZ_n (by omega), uZ_et (by omega)]
  · rw [uZ_n (by omega), uZ_et (by omega)]
  · rw [uZ_et (by omega)]
theorem pu12_out {F : Int → Int} {n a0 a1 a2 a3 b0 b1 b2 b3 d0 d1 d2 d3 j : Int} (h : j < 12 * n ∨ 12 * n + 12 ≤ j) : pu12 F n a0 a1 a2 a3 b0 b1 b2 b3 d0 d1 d2 d3 j = F j := by
  unfold pu12 st4
  rw [uZ_n (by omega), uZ_n (by omega), uZ_n (by omega), uZ_n (by omega), uZ_n (by omega), uZ_n (by omega), uZ_n (by omega), uZ_n (by omega), uZ_n (by omega), uZ_n (by omega), uZ_n (by omega), uZ_n (by omega)]
theorem jn_shq {Fn Fr F : Int → Int} {m i1 i2 i3 : Int} (hm : 0 ≤ m) (h : shq Fn Fr m) : shq (wrN Fn m F i1 i2 i3) (jnF Fr m F i1 i2 i3) (m + 1) := by
  intro j c h1 h2 h3 h4
  rcases (show j < m ∨ j = m by omega) with q | q
  · unfold jnF
    rw [em12_out (by omega), em12_out (by omega), em12_out (by omega), em12_out (by omega), wrN_out (by omega), wrN_out (by omega), wrN_out (by omega), wrN_out (by omega)]
    exact h j c h1 q h3 h4
  · subst q
    obtain ⟨p0, p1, p2, p3, p4, p5, p6, p7, p8, p9, p10, p11⟩ := wrN_at Fn F j i1 i2 i3
    unfold jnF
    obtain ⟨q0, q1, q2, q3, q4, q5, q6, q7, q8, q9, q10, q11⟩ := em12_at Fr j (F (i1 + 1) - F (i1 + 3) - F i1) (F (i1 + 2) - F (i1 + 3)) (F (i1 + 1) - F i1) (F (i1 + 2) - F (i1 + 3) - F i1) (F (i2 + 1) - F (i2 + 3) - F i2) (F (i2 + 2) - F (i2 + 3)) (F (i2 + 1) - F i2) (F (i2 + 2) - F (i2 + 3) - F i2) (F (i3 + 1) - F (i3 + 3) - F i3) (F (i3 + 2) - F (i3 + 3)) (F (i3 + 1) - F i3) (F (i3 + 2) - F (i3 + 3) - F i3)
    rcases (show c = 0 ∨ c = 1 ∨ c = 2 by omega) with rfl | rfl | rfl
    · rw [show 12 * j + 4 * 0 + 1 = 12 * j + 1 by omega, show 12 * j + 4 * 0 + 2 = 12 * j + 2 by omega, show 12 * j + 4 * 0 + 3 = 12 * j + 3 by omega, show 12 * j + 4 * 0 = 12 * j by omega]
      rw [q0, q1, q2, q3, p0, p1, p2, p3]; refine ⟨?_, ?_, ?_, ?_⟩ <;> omega
    · rw [show 12 * j + 4 * 1 + 1 = 12 * j + 5 by omega, show 12 * j + 4 * 1 + 2 = 12 * j + 6 by omega, show 12 * j + 4 * 1 + 3 = 12 * j + 7 by omega, show 12 * j + 4 * 1 = 12 * j + 4 by omega]
      rw [q4, q5, q6, q7, p4, p5, p6, p7]; refine ⟨?_, ?_, ?_, ?_⟩ <;> omega
    · rw [show 12 * j + 4 * 2 + 1 = 12 * j + 9 by omega, show 12 * j + 4 * 2 + 2 = 12 * j + 10 by omega, show 12 * j + 4 * 2 + 3 = 12 * j + 11 by omega, show 12 * j + 4 * 2 = 12 * j + 8 by omega]
      rw [q8, q9, q10, q11, p8, p9, p10, p11]; refine ⟨?_, ?_, ?_, ?_⟩ <;> omega
theorem jn_allN {Fr F : Int → Int} {m i1 i2 i3 : Int} (hm : 0 ≤ m) : allN (jnF Fr m F i1 i2 i3) (m + 1) ↔ (allN Fr m ∧ jfZ F i1 i2 i3 = true) := by
  obtain ⟨q0, q1, q2, q3, q4, q5, q6, q7, q8, q9, q10, q11⟩ := em12_at Fr m (F (i1 + 1) - F (i1 + 3) - F i1) (F (i1 + 2) - F (i1 + 3)) (F (i1 + 1) - F i1) (F (i1 + 2) - F (i1 + 3) - F i1) (F (i2 + 1) - F (i2 + 3) - F i2) (F (i2 + 2) - F (i2 + 3)) (F (i2 + 1) - F i2) (F (i2 + 2) - F (i2 + 3) - F i2) (F (i3 + 1) - F (i3 + 3) - F i3) (F (i3 + 2) - F (i3 + 3)) (F (i3 + 1) - F i3) (F (i3 + 2) - F (i3 + 3) - F i3)
  constructor
  · intro h
    refine ⟨fun k h1 h2 => ?_, ?_⟩
    · have := h k h1 (by omega); unfold jnF at this; rwa [em12_out (by omega)] at this
    · unfold jfZ ftZ
      unfold jnF at h
      rw [show nearZ (F (i1 + 1) - F (i1 + 3) - F i1) = true by have := h (12 * m) (by omega) (by omega); rwa [q0] at this, show nearZ (F (i1 + 2) - F (i1 + 3)) = true by have := h (12 * m + 1) (by omega) (by omega); rwa [q1] at this, show nearZ (F (i1 + 1) - F i1) = true by have := h (12 * m + 2) (by omega) (by omega); rwa [q2] at this, show nearZ (F (i1 + 2) - F (i1 + 3) - F i1) = true by have := h (12 * m + 3) (by omega) (by omega); rwa [q3] at this, show nearZ (F (i2 + 1) - F (i2 + 3) - F i2) = true by have := h (12 * m + 4) (by omega) (by omega); rwa [q4] at this, show nearZ (F (i2 + 2) - F (i2 + 3)) = true by have := h (12 * m + 5) (by omega) (by omega); rwa [q5] at this, show nearZ (F (i2 + 1) - F i2) = true by have := h (12 * m + 6) (by omega) (by omega); rwa [q6] at this, show nearZ (F (i2 + 2) - F (i2 + 3) - F i2) = true by have := h (12 * m + 7) (by omega) (by omega); rwa [q7] at this, show nearZ (F (i3 + 1) - F (i3 + 3) - F i3) = true by have := h (12 * m + 8) (by omega) (by omega); rwa [q8] at this, show nearZ (F (i3 + 2) - F (i3 + 3)) = true by have := h (12 * m + 9) (by omega) (by omega); rwa [q9] at this, show nearZ (F (i3 + 1) - F i3) = true by have := h (12 * m + 10) (by omega) (by omega); rwa [q10] at this, show nearZ (F (i3 + 2) - F (i3 + 3) - F i3) = true by have := h (12 * m + 11) (by omega) (by omega); rwa [q11] at this]; rfl
  · intro ⟨h, g⟩ k h1 h2
    unfold jfZ ftZ at g
    simp only [Bool.and_eq_true] at g
    rcases (show k < 12 * m ∨ k = 12 * m ∨ k = 12 * m + 1 ∨ k = 12 * m + 2 ∨ k = 12 * m + 3 ∨ k = 12 * m + 4 ∨ k = 12 * m + 5 ∨ k = 12 * m + 6 ∨ k = 12 * m + 7 ∨ k = 12 * m + 8 ∨ k = 12 * m + 9 ∨ k = 12 * m + 10 ∨ k = 12 * m + 11 by omega) with q | q | q | q | q | q | q | q | q | q | q | q | q
    · unfold jnF; rw [em12_out (by omega)]; exact h k h1 q
    · unfold jnF; rw [q, q0]; exact g.1.1.1.1
    · unfold jnF; rw [q, q1]; exact g.1.1.1.2
    · unfold jnF; rw [q, q2]; exact g.1.1.2
    · unfold jnF; rw [q, q3]; exact g.1.2
    · unfold jnF; rw [q, q4]; exact g.2.1.1.1.1
    · unfold jnF; rw [q, q5]; exact g.2.1.1.1.2
    · unfold jnF; rw [q, q6]; exact g.2.1.1.2
    · unfold jnF; rw [q, q7]; exact g.2.1.2
    · unfold jnF; rw [q, q8]; exact g.2.2.1.1.1
    · unfold jnF; rw [q, q9]; exact g.2.2.1.1.2
    · unfold jnF; rw [q, q10]; exact g.2.2.1.2
    · unfold jnF; rw [q, q11]; exact g.2.2.2
theorem shq_uni {Fn Fr Fq : Int → Int} {m : Int} (h : shq Fn Fr m) (g : shq Fn Fq m) {k : Int} (h0 : 0 ≤ k) (h1 : k < 12 * m) : Fr k = Fq k := by
  have e1 := h (k / 12) (k % 12 / 4) (by omega) (by omega) (by omega) (by omega)
  have e2 := g (k / 12) (k % 12 / 4) (by omega) (by omega) (by omega) (by omega)
  obtain ⟨p, ep⟩ : ∃ p : Int, p = 12 * (k / 12) + 4 * (k % 12 / 4) := ⟨_, rfl⟩
  rw [← ep] at e1 e2
  rcases (show k = p ∨ k = p + 1 ∨ k = p + 2 ∨ k = p + 3 by omega) with q | q | q | q <;> rw [q] <;> omega
theorem shq_mono {Fn Fr : Int → Int} {m i1 i2 i3 : Int} {F : Int → Int} (hm : 0 ≤ m) (h : shq Fn Fr m) (n : ¬ allN Fr m) : ∃ Fq, shq (wrN Fn m F i1 i2 i3) Fq (m + 1) ∧ ¬ allN Fq (m + 1) := ⟨jnF Fr m F i1 i2 i3, jn_shq hm h, fun q => n ((jn_allN hm).mp q).1⟩
/-- a step with a join -/
theorem mdf_t {zn fm : Int} {Tn Fn Yr Fr F : Int → Int} {i1 i2 i3 y : Int} (hz : 0 ≤ zn) (h : mdf true zn Tn Fn fm Yr Fr) : mdf (jfZ F i1 i2 i3) (zn + 1) (uZ Tn zn y) (wrN Fn zn F i1 i2 i3) (fm + 1) (uZ Yr fm y) (jnF Fr fm F i1 i2 i3) := by
  obtain ⟨a, b, c, d⟩ := h.1 rfl
  subst a; subst b
  refine ⟨fun q => ⟨rfl, rfl, jn_shq hz c, (jn_allN hz).mpr ⟨d, q⟩⟩, fun q => ⟨jnF Fr fm F i1 i2 i3, jn_shq hz c, fun w => ?_⟩⟩
  rw [((jn_allN hz).mp w).2] at q; cases q
theorem mdf_f {zn fm : Int} {Tn Tn2 Fn Yr Fr F : Int → Int} {i1 i2 i3 : Int} (hz : 0 ≤ zn) (h : mdf false zn Tn Fn fm Yr Fr) : mdf false (zn + 1) Tn2 (wrN Fn zn F i1 i2 i3) fm Yr Fr := by
  obtain ⟨Fq, a, b⟩ := h.2 rfl
  exact ⟨fun q => (by cases q), fun _ => shq_mono hz a b⟩
