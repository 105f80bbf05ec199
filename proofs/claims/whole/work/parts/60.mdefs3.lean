/-! the model: seed, place, remove -/
def msF (F : Int → Int) (k : Int) : Int → Int := if k = 0 then (pu12 (pu12 (pu12 (pu12 (pu12 (pu12 (pu12 (pu12 (pu12 (pu12 F 0 0 0 0 0 (z_UNITS 0) (z_UNITS 1) (z_UNITS 2) (z_UNITS 3) (z_UNITS 4) (z_UNITS 5) (z_UNITS 6) (z_UNITS 7)) 1 0 0 0 0 (z_UNITS 8) (z_UNITS 9) (z_UNITS 10) (z_UNITS 11) (z_UNITS 4) (z_UNITS 5) (z_UNITS 6) (z_UNITS 7)) 2 0 0 0 0 (z_UNITS 8) (z_UNITS 9) (z_UNITS 10) (z_UNITS 11) (z_UNITS 12) (z_UNITS 13) (z_UNITS 14) (z_UNITS 15)) 3 0 0 0 0 (z_UNITS 16) (z_UNITS 17) (z_UNITS 18) (z_UNITS 19) (z_UNITS 12) (z_UNITS 13) (z_UNITS 14) (z_UNITS 15)) 4 0 0 0 0 (z_UNITS 16) (z_UNITS 17) (z_UNITS 18) (z_UNITS 19) (z_UNITS 20) (z_UNITS 21) (z_UNITS 22) (z_UNITS 23)) 5 0 0 0 0 (z_UNITS 24) (z_UNITS 25) (z_UNITS 26) (z_UNITS 27) (z_UNITS 20) (z_UNITS 21) (z_UNITS 22) (z_UNITS 23)) 6 0 0 0 0 (z_UNITS 24) (z_UNITS 25) (z_UNITS 26) (z_UNITS 27) (z_UNITS 28) (z_UNITS 29) (z_UNITS 30) (z_UNITS 31)) 7 0 0 0 0 (z_UNITS 32) (z_UNITS 33) (z_UNITS 34) (z_UNITS 35) (z_UNITS 28) (z_UNITS 29) (z_UNITS 30) (z_UNITS 31)) 8 0 0 0 0 (z_UNITS 32) (z_UNITS 33) (z_UNITS 34) (z_UNITS 35) (z_UNITS 36) (z_UNITS 37) (z_UNITS 38) (z_UNITS 39)) 9 0 0 0 0 (z_UNITS 0) (z_UNITS 1) (z_UNITS 2) (z_UNITS 3) (z_UNITS 36) (z_UNITS 37) (z_UNITS 38) (z_UNITS 39)) else if k = 1 then (pu12 F 0 0 0 0 0 (z_UNITS 0) (z_UNITS 1) (z_UNITS 2) (z_UNITS 3) (z_UNITS 4) (z_UNITS 5) (z_UNITS 6) (z_UNITS 7)) else if k = 2 then (pu12 F 0 0 0 0 0 (z_UNITS 0) (z_UNITS 1) (z_UNITS 2) (z_UNITS 3) (z_UNITS 12) (z_UNITS 13) (z_UNITS 14) (z_UNITS 15)) else F
def plFt (a b c d k j : Int) : Bool := ftZ a b c d && (ftZ (a + z_UNITS (4 * k)) (b + z_UNITS (4 * k + 1)) (c + z_UNITS (4 * k + 2)) (d + z_UNITS (4 * k + 3)) && ftZ (a + z_UNITS (4 * j)) (b + z_UNITS (4 * j + 1)) (c + z_UNITS (4 * j + 2)) (d + z_UNITS (4 * j + 3)))
def plM (F : Int → Int) (z a b c d k j : Int) : Int → Int := pu12 F z a b c d (a + z_UNITS (4 * k)) (b + z_UNITS (4 * k + 1)) (c + z_UNITS (4 * k + 2)) (d + z_UNITS (4 * k + 3)) (a + z_UNITS (4 * j)) (b + z_UNITS (4 * j + 1)) (c + z_UNITS (4 * j + 2)) (d + z_UNITS (4 * j + 3))
theorem cZ_st {f : Int → Int} {s d m p q : Int} (hm : 0 ≤ m) (hp : p = d + m) (hq : q = s + m) : uZ (cZ f f s d m) p (f q) = cZ f f s d (m + 1) := by
  funext j
  unfold uZ cZ
  by_cases c : j = p
  · rw [if_pos c, if_pos (by omega)]; congr 1; omega
  · rw [if_neg c]
    by_cases e : d ≤ j ∧ j < d + m
    · rw [if_pos e, if_pos (by omega)]
    · rw [if_neg e, if_neg (by omega)]
theorem cZ_out {f g : Int → Int} {s d m j : Int} (h : j < d ∨ d + m ≤ j) : cZ f g s d m j = g j := by unfold cZ; rw [if_neg (by omega)]
theorem cZ_nil {f g : Int → Int} {s d m : Int} (h : m ≤ 0) : cZ f g s d m = g := by funext j; exact cZ_out (by omega)
theorem rm12 {F G : Int → Int} {n k : Int} (hn : 0 ≤ n ∧ n ≤ k) (eG : G = cZ F F (12 * n + 12) (12 * n) (12 * (k - n))) : (uZ (uZ (uZ (uZ (uZ (uZ (uZ (uZ (uZ (uZ (uZ (uZ G (12 * k) (G (12 * k + 12))) (12 * k + 1) (G (12 * k + 13))) (12 * k + 2) (G (12 * k + 14))) (12 * k + 3) (G (12 * k + 15))) (12 * k + 4) (G (12 * k + 16))) (12 * k + 5) (G (12 * k + 17))) (12 * k + 6) (G (12 * k + 18))) (12 * k + 7) (G (12 * k + 19))) (12 * k + 8) (G (12 * k + 20))) (12 * k + 9) (G (12 * k + 21))) (12 * k + 10) (G (12 * k + 22))) (12 * k + 11) (G (12 * k + 23))) = cZ F F (12 * n + 12) (12 * n) (12 * (k + 1 - n)) := by
  have q : ∀ j, 12 * k ≤ j → G j = F j := fun j h => by rw [eG]; exact cZ_out (by omega)
  obtain ⟨m, em⟩ : ∃ m : Int, m = 12 * (k - n) := ⟨_, rfl⟩
  rw [← em] at eG
  rw [q (12 * k + 12) (by omega), q (12 * k + 13) (by omega), q (12 * k + 14) (by omega), q (12 * k + 15) (by omega), q (12 * k + 16) (by omega), q (12 * k + 17) (by omega), q (12 * k + 18) (by omega), q (12 * k + 19) (by omega), q (12 * k + 20) (by omega), q (12 * k + 21) (by omega), q (12 * k + 22) (by omega), q (12 * k + 23) (by omega)]
  have e0 : uZ (cZ F F (12 * n + 12) (12 * n) (m)) (12 * k) (F (12 * k + 12)) = cZ F F (12 * n + 12) (12 * n) (m + 1) := cZ_st (by omega) (by omega) (by omega)
  have e1 : uZ (cZ F F (12 * n + 12) (12 * n) (m + 1)) (12 * k + 1) (F (12 * k + 13)) = cZ F F (12 * n + 12) (12 * n) (m + 1 + 1) := cZ_st (by omega) (by omega) (by omega)
  have e2 : uZ (cZ F F (12 * n + 12) (12 * n) (m + 1 + 1)) (12 * k + 2) (F (12 * k + 14)) = cZ F F (12 * n + 12) (12 * n) (m + 1 + 1 + 1) := cZ_st (by omega) (by omega) (by omega)
  have e3 : uZ (cZ F F (12 * n + 12) (12 * n) (m + 1 + 1 + 1)) (12 * k + 3) (F (12 * k + 15)) = cZ F F (12 * n + 12) (12 * n) (m + 1 + 1 + 1 + 1) := cZ_st (by omega) (by omega) (by omega)
  have e4 : uZ (cZ F F (12 * n + 12) (12 * n) (m + 1 + 1 + 1 + 1)) (12 * k + 4) (F (12 * k + 16)) = cZ F F (12 * n + 12) (12 * n) (m + 1 + 1 + 1 + 1 + 1) := cZ_st (by omega) (by omega) (by omega)
  have e5 : uZ (cZ F F (12 * n + 12) (12 * n) (m + 1 + 1 + 1 + 1 + 1)) (12 * k + 5) (F (12 * k + 17)) = cZ F F (12 * n + 12) (12 * n) (m + 1 + 1 + 1 + 1 + 1 + 1) := cZ_st (by omega) (by omega) (by omega)
  have e6 : uZ (cZ F F (12 * n + 12) (12 * n) (m + 1 + 1 + 1 + 1 + 1 + 1)) (12 * k + 6) (F (12 * k + 18)) = cZ F F (12 * n + 12) (12 * n) (m + 1 + 1 + 1 + 1 + 1 + 1 + 1) := cZ_st (by omega) (by omega) (by omega)
  have e7 : uZ (cZ F F (12 * n + 12) (12 * n) (m + 1 + 1 + 1 + 1 + 1 + 1 + 1)) (12 * k + 7) (F (12 * k + 19)) = cZ F F (12 * n + 12) (12 * n) (m + 1 + 1 + 1 + 1 + 1 + 1 + 1 + 1) := cZ_st (by omega) (by omega) (by omega)
  have e8 : uZ (cZ F F (12 * n + 12) (12 * n) (m + 1 + 1 + 1 + 1 + 1 + 1 + 1 + 1)) (12 * k + 8) (F (12 * k + 20)) = cZ F F (12 * n + 12) (12 * n) (m + 1 + 1 + 1 + 1 + 1 + 1 + 1 + 1 + 1) := cZ_st (by omega) (by omega) (by omega)
  have e9 : uZ (cZ F F (12 * n + 12) (12 * n) (m + 1 + 1 + 1 + 1 + 1 + 1 + 1 + 1 + 1)) (12 * k + 9) (F (12 * k + 21)) = cZ F F (12 * n + 12) (12 * n) (m + 1 + 1 + 1 + 1 + 1 + 1 + 1 + 1 + 1 + 1) := cZ_st (by omega) (by omega) (by omega)
  have e10 : uZ (cZ F F (12 * n + 12) (12 * n) (m + 1 + 1 + 1 + 1 + 1 + 1 + 1 + 1 + 1 + 1)) (12 * k + 10) (F (12 * k + 22)) = cZ F F (12 * n + 12) (12 * n) (m + 1 + 1 + 1 + 1 + 1 + 1 + 1 + 1 + 1 + 1 + 1) := cZ_st (by omega) (by omega) (by omega)
  have e11 : uZ (cZ F F (12 * n + 12) (12 * n) (m + 1 + 1 + 1 + 1 + 1 + 1 + 1 + 1 + 1 + 1 + 1)) (12 * k + 11) (F (12 * k + 23)) = cZ F F (12 * n + 12) (12 * n) (m + 1 + 1 + 1 + 1 + 1 + 1 + 1 + 1 + 1 + 1 + 1 + 1) := cZ_st (by omega) (by omega) (by omega)
  rw [eG, e0, e1, e2, e3, e4, e5, e6, e7, e8, e9, e10, e11]
  congr 1; omega
theorem nearZ_b {x : Int} (h : nearZ x = true) : -1000000 ≤ x ∧ x ≤ 1000000 := by unfold nearZ at h; simpa using h
theorem ftZ_b {a b c d : Int} (h : ftZ a b c d = true) : (-1000000 ≤ a ∧ a ≤ 1000000) ∧ (-1000000 ≤ b ∧ b ≤ 1000000) ∧ (-1000000 ≤ c ∧ c ≤ 1000000) ∧ (-1000000 ≤ d ∧ d ≤ 1000000) := by
  unfold ftZ at h
  simp only [Bool.and_eq_true] at h
  exact ⟨nearZ_b h.1.1.1, nearZ_b h.1.1.2, nearZ_b h.1.2, nearZ_b h.2⟩
theorem bF_st4 {F : Int → Int} {p a b c d : Int} (h : bF F) (ha : -30000000 ≤ a ∧ a ≤ 30000000) (hb : -30000000 ≤ b ∧ b ≤ 30000000) (hc : -30000000 ≤ c ∧ c ≤ 30000000) (hd : -30000000 ≤ d ∧ d ≤ 30000000) : bF (st4 F p a b c d) := bF_uZ (bF_uZ (bF_uZ (bF_uZ h ha) hb) hc) hd
theorem bF_pu12 {F : Int → Int} {n a0 a1 a2 a3 b0 b1 b2 b3 d0 d1 d2 d3 : Int} (h : bF F) (ha : ftZ a0 a1 a2 a3 = true) (hb : ftZ b0 b1 b2 b3 = true) (hd : ftZ d0 d1 d2 d3 = true) : bF (pu12 F n a0 a1 a2 a3 b0 b1 b2 b3 d0 d1 d2 d3) := by
  have a := ftZ_b ha; have b := ftZ_b hb; have d := ftZ_b hd
  exact bF_st4 (bF_st4 (bF_st4 h (by omega) (by omega) (by omega) (by omega)) (by omega) (by omega) (by omega) (by omega)) (by omega) (by omega) (by omega) (by omega)
