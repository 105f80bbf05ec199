def beW (Wd : Int → Int) (x v : Int) : Int → Int := uZ (uZ (uZ (uZ (uZ (uZ (uZ (uZ (uZ Wd (9 * x) (v % 16777216)) (9 * x + 1) ((v / 16777216) % 16777216)) (9 * x + 2) ((v / 281474976710656) % 16777216)) (9 * x + 3) 0) (9 * x + 4) 0) (9 * x + 5) 0) (9 * x + 6) 0) (9 * x + 7) 0) (9 * x + 8) 0
def zeW (Wd : Int → Int) (x : Int) : Int → Int := uZ (uZ (uZ (uZ (uZ (uZ (uZ (uZ (uZ Wd (9 * x) 0) (9 * x + 1) 0) (9 * x + 2) 0) (9 * x + 3) 0) (9 * x + 4) 0) (9 * x + 5) 0) (9 * x + 6) 0) (9 * x + 7) 0) (9 * x + 8) 0
theorem vl9 (W : Int → Int) (b : Int) : vl W b 9 = W b + W (b + 1) * 16777216 + W (b + 2) * 281474976710656 + W (b + 3) * 16777216 ^ 3 + W (b + 4) * 16777216 ^ 4 + W (b + 5) * 16777216 ^ 5 + W (b + 6) * 16777216 ^ 6 + W (b + 7) * 16777216 ^ 7 + W (b + 8) * 16777216 ^ 8 := by
  show (((((((((0 + W (b + (0 : Nat)) * 16777216 ^ 0) + W (b + (1 : Nat)) * 16777216 ^ 1) + W (b + (2 : Nat)) * 16777216 ^ 2) + W (b + (3 : Nat)) * 16777216 ^ 3) + W (b + (4 : Nat)) * 16777216 ^ 4) + W (b + (5 : Nat)) * 16777216 ^ 5) + W (b + (6 : Nat)) * 16777216 ^ 6) + W (b + (7 : Nat)) * 16777216 ^ 7) + W (b + (8 : Nat)) * 16777216 ^ 8) = _
  have e1 : b + ((0 : Nat) : Int) = b := by omega
  rw [e1]
  simp
theorem nine {P : Int → Prop} (h0 : P 0) (h1 : P 1) (h2 : P 2) (h3 : P 3) (h4 : P 4) (h5 : P 5) (h6 : P 6) (h7 : P 7) (h8 : P 8) : ∀ i : Int, 0 ≤ i → i < 9 → P i := by
  intro i a b
  rcases (show i = 0 ∨ i = 1 ∨ i = 2 ∨ i = 3 ∨ i = 4 ∨ i = 5 ∨ i = 6 ∨ i = 7 ∨ i = 8 by omega) with rfl | rfl | rfl | rfl | rfl | rfl | rfl | rfl | rfl <;> assumption
theorem be_at (Wd : Int → Int) (x v : Int) : beW Wd x v (9 * x) = v % 16777216 ∧ beW Wd x v (9 * x + 1) = (v / 16777216) % 16777216 ∧ beW Wd x v (9 * x + 2) = (v / 281474976710656) % 16777216 ∧ beW Wd x v (9 * x + 3) = 0 ∧ beW Wd x v (9 * x + 4) = 0 ∧ beW Wd x v (9 * x + 5) = 0 ∧ beW Wd x v (9 * x + 6) = 0 ∧ beW Wd x v (9 * x + 7) = 0 ∧ beW Wd x v (9 * x + 8) = 0 := by
  unfold beW
  refine ⟨?_, ?_, ?_, ?_, ?_, ?_, ?_, ?_, ?_⟩
  · rw [uZ_n (by omega), uZ_n (by omega), uZ_n (by omega), uZ_n (by omega), uZ_n (by omega), uZ_n (by omega), uZ_n (by omega), uZ_n (by omega), uZ_s]
  · rw [uZ_n (by omega), uZ_n (by omega), uZ_n (by omega), uZ_n (by omega), uZ_n (by omega), uZ_n (by omega), uZ_n (by omega), uZ_s]
  · rw [uZ_n (by omega), uZ_n (by omega), uZ_n (by omega), uZ_n (by omega), uZ_n (by omega), uZ_n (by omega), uZ_s]
  · rw [uZ_n (by omega), uZ_n (by omega), uZ_n (by omega), uZ_n (by omega), uZ_n (by omega), uZ_s]
  · rw [uZ_n (by omega), uZ_n (by omega), uZ_n (by omega), uZ_n (by omega), uZ_s]
  · rw [uZ_n (by omega), uZ_n (by omega), uZ_n (by omega), uZ_s]
  · rw [uZ_n (by omega), uZ_n (by omega), uZ_s]
  · rw [uZ_n (by omega), uZ_s]
  · rw [uZ_s]
theorem be_lem (Wd : Int → Int) (x : Int) {v : Int} (hv : 0 ≤ v ∧ v ≤ 9223372036854775807) : bk (beW Wd x v) (9 * x) v ∧ ∀ k, k < 9 * x ∨ 9 * x + 9 ≤ k → beW Wd x v k = Wd k := by
  obtain ⟨a0, a1, a2, a3, a4, a5, a6, a7, a8⟩ := be_at Wd x v
  refine ⟨⟨?_, ?_⟩, fun k hk => ?_⟩
  · refine nine ?_ ?_ ?_ ?_ ?_ ?_ ?_ ?_ ?_
    · rw [show 9 * x + 0 = 9 * x by omega, a0]; omega
    · rw [a1]; omega
    · rw [a2]; omega
    · rw [a3]; omega
    · rw [a4]; omega
    · rw [a5]; omega
    · rw [a6]; omega
    · rw [a7]; omega
    · rw [a8]; omega
  · rw [vl9, a0, a1, a2, a3, a4, a5, a6, a7, a8]; omega
  · unfold beW
    rw [uZ_n (by omega), uZ_n (by omega), uZ_n (by omega), uZ_n (by omega), uZ_n (by omega), uZ_n (by omega), uZ_n (by omega), uZ_n (by omega), uZ_n (by omega)]
theorem ze_lem (Wd : Int → Int) (x y z : Int) : pO Wd (zeW Wd x) x y z 0 := by
  refine pO_0 (fun k hk => ?_) (nine ?_ ?_ ?_ ?_ ?_ ?_ ?_ ?_ ?_) <;> unfold zeW
  · rw [uZ_n (by omega), uZ_n (by omega), uZ_n (by omega), uZ_n (by omega), uZ_n (by omega), uZ_n (by omega), uZ_n (by omega), uZ_n (by omega), uZ_n (by omega)]
  · rw [uZ_n (by omega), uZ_n (by omega), uZ_n (by omega), uZ_n (by omega), uZ_n (by omega), uZ_n (by omega), uZ_n (by omega), uZ_n (by omega), show 9 * x + 0 = 9 * x by omega, uZ_s]
  · rw [uZ_n (by omega), uZ_n (by omega), uZ_n (by omega), uZ_n (by omega), uZ_n (by omega), uZ_n (by omega), uZ_n (by omega), uZ_s]
  · rw [uZ_n (by omega), uZ_n (by omega), uZ_n (by omega), uZ_n (by omega), uZ_n (by omega), uZ_n (by omega), uZ_s]
  · rw [uZ_n (by omega), uZ_n (by omega), uZ_n (by omega), uZ_n (by omega), uZ_n (by omega), uZ_s]
  · rw [uZ_n (by omega), uZ_n (by omega), uZ_n (by omega), uZ_n (by omega), uZ_s]
  · rw [uZ_n (by omega), uZ_n (by omega), uZ_n (by omega), uZ_s]
  · rw [uZ_n (by omega), uZ_n (by omega), uZ_s]
  · rw [uZ_n (by omega), uZ_s]
  · rw [uZ_s]
theorem vl_diff {W : Int → Int} {b c : Int} {m n : Nat} (h : ∀ k : Int, (m : Int) ≤ k → k < n → W (b + k) = W (c + k)) (hmn : m ≤ n) : vl W b n - vl W b m = vl W c n - vl W c m := by
  induction n with
  | zero => rw [show m = 0 by omega]; omega
  | succ n ih =>
    rcases (show m ≤ n ∨ m = n + 1 by omega) with q | q
    · have i := ih (fun k a d => h k a (by omega)) q
      show vl W b n + W (b + n) * 16777216 ^ n - _ = vl W c n + W (c + n) * 16777216 ^ n - _
      rw [h n (by omega) (by omega)]; omega
    · rw [q]; omega
theorem cmp_lt {W : Int → Int} {x y i A C : Int} (hx : bk W (9 * x) A) (hy : bk W (9 * y) C) (h0 : 0 ≤ i) (h9 : i < 9) (he : ∀ m, i < m → m < 9 → W (9 * x + m) = W (9 * y + m)) (hl : W (9 * x + i) < W (9 * y + i)) : A < C := by
  have d := vl_diff (W := W) (b := 9 * x) (c := 9 * y) (m := (i + 1).toNat) (n := 9) (fun k a b => he k (by omega) (by omega)) (by omega)
  rw [vl_s _ _ h0, vl_s _ _ h0, hx.2, hy.2] at d
  have a := vl_in (W := W) (b := 9 * x) (n := i.toNat) (fun k a b => hx.1 k a (by omega))
  have c := vl_in (W := W) (b := 9 * y) (n := i.toNat) (fun k a b => hy.1 k a (by omega))
  have p := Int.mul_le_mul_of_nonneg_right (show W (9 * x + i) + 1 ≤ W (9 * y + i) by omega) (show (0 : Int) ≤ 16777216 ^ i.toNat by have := bpow_pos i.toNat; omega)
  rw [Int.add_mul] at p
  omega
theorem cmp_eq {W : Int → Int} {x y A C : Int} (hx : bk W (9 * x) A) (hy : bk W (9 * y) C) (he : ∀ m, 0 ≤ m → m < 9 → W (9 * x + m) = W (9 * y + m)) : A = C := by
  have d := vl_diff (W := W) (b := 9 * x) (c := 9 * y) (m := 0) (n := 9) (fun k a b => he k (by omega) (by omega)) (by omega)
  rw [hx.2, hy.2] at d
  show A = C
  have e1 : vl W (9 * x) 0 = 0 := rfl
  have e2 : vl W (9 * y) 0 = 0 := rfl
  omega
/-- adding and taking away: sg is 1 or -1 -/
def gI (Wd G : Int → Int) (x y sg i ov : Int) : Prop :=
  (∀ k, k < 9 * x ∨ 9 * x + 9 ≤ k → G k = Wd k) ∧ dg G (9 * x) ∧ (∀ m, i ≤ m → m < 9 → G (9 * x + m) = Wd (9 * x + m)) ∧ vl G (9 * x) i.toNat + ov * 16777216 ^ i.toNat = vl Wd (9 * x) i.toNat + sg * vl Wd (9 * y) i.toNat
theorem gI_0 {Wd : Int → Int} {x y sg : Int} (h : dg Wd (9 * x)) : gI Wd Wd x y sg 0 0 := by
  refine ⟨fun _ _ => rfl, h, fun _ _ _ => rfl, ?_⟩
  show (0 : Int) + 0 * _ = 0 + sg * 0
  simp
theorem gI_alg {a ov P X Y b sg c t q r : Int} (e : a + ov * P = b + sg * c) (ht : t = X + sg * Y + ov) (hq : 16777216 * q + r = t) : a + r * P + q * (P * 16777216) = b + X * P + sg * (c + Y * P) := by grind
theorem gI_s {Wd G : Int → Int} {x y sg i ov t : Int} (h : gI Wd G x y sg i ov) (hi : 0 ≤ i) (hi9 : i < 9) (hxy : x ≠ y) (ht : t = G (i + 9 * x) + sg * G (i + 9 * y) + ov) : gI Wd (uZ G (i + 9 * x) (t % 16777216)) x y sg (i + 1) (t / 16777216) := by
  obtain ⟨h1, h2, h3, h4⟩ := h
  have ey : G (i + 9 * y) = Wd (9 * y + i) := by rw [show i + 9 * y = 9 * y + i by omega]; exact h1 _ (by omega)
  have ex : G (i + 9 * x) = Wd (9 * x + i) := by rw [show i + 9 * x = 9 * x + i by omega]; exact h3 _ (by omega) hi9
  rw [ey, ex] at ht
  refine ⟨fun k hk => by rw [uZ_n (by omega)]; exact h1 k hk, fun k k1 k2 => ?_, fun m m1 m2 => by rw [uZ_n (by omega)]; exact h3 m (by omega) m2, ?_⟩
  · unfold uZ; split
    · omega
    · exact h2 k k1 k2
  · rw [vl_s _ _ hi, vl_s Wd _ hi, vl_s Wd _ hi]
    rw [show 9 * x + i = i + 9 * x by omega, uZ_s]
    rw [vl_congr (W := uZ G (i + 9 * x) (t % 16777216)) (W' := G) (fun k k1 k2 => uZ_n (by omega))]
    have e1 : (16777216 : Int) ^ (i + 1).toNat = 16777216 ^ i.toNat * 16777216 := by
      rw [show (i + 1).toNat = i.toNat + 1 by omega]; exact Int.pow_succ _ _
    rw [e1]
    have ex2 : Wd (i + 9 * x) = Wd (9 * x + i) := by congr 1; omega
    rw [ex2]
    exact gI_alg h4 ht (by omega)
theorem gI_end {Wd G : Int → Int} {x y sg ov A C V : Int} (h : gI Wd G x y sg 9 ov) (hx : bk Wd (9 * x) A) (hy : bk Wd (9 * y) C) (hV : V = A + sg * C) (h0 : 0 ≤ V ∧ V < 16777216 ^ 9) : bk G (9 * x) V ∧ ∀ k, k < 9 * x ∨ 9 * x + 9 ≤ k → G k = Wd k := by
  obtain ⟨h1, h2, -, h4⟩ := h
  refine ⟨⟨h2, ?_⟩, h1⟩
  have v := vl_in (W := G) (b := 9 * x) (n := 9) (fun i a b => h2 i a (by omega))
  rw [show (9 : Int).toNat = 9 from rfl, hx.2, hy.2, ← hV] at h4
  have p := bpow_pos 9
  generalize vl G (9 * x) 9 = U at *
  generalize (16777216 : Int) ^ 9 = P at *
  have hK0 : ov = 0 := by
    rcases (show ov ≤ -1 ∨ ov = 0 ∨ 1 ≤ ov by omega) with q | q | q
    · have := Int.mul_le_mul_of_nonneg_right q (show 0 ≤ P by omega)
      omega
    · exact q
    · have := Int.mul_le_mul_of_nonneg_right q (show 0 ≤ P by omega)
      omega
  rw [hK0] at h4
  omega
theorem pI_t {Wd G G2 : Int → Int} {x y z i j ov : Int} (h : pI Wd G G2 x y z i j ov) (hi : 0 ≤ i) (hj : 0 ≤ j) (hij : i + j < 9) (hxy : x ≠ y) (hxz : x ≠ z) (dy : dg Wd (9 * y)) (dz : dg Wd (9 * z)) : 0 ≤ (G2 (i + 9 * y) * G2 (j + 9 * z)) + G2 (i + j + 9 * x) + ov ∧ (G2 (i + 9 * y) * G2 (j + 9 * z)) + G2 (i + j + 9 * x) + ov ≤ 281474976710656 := by
  obtain ⟨h1, h2, h3, h4, h5⟩ := h
  have ey : G2 (i + 9 * y) = Wd (9 * y + i) := by rw [show i + 9 * y = 9 * y + i by omega]; exact h1 _ (by omega)
  have ez : G2 (j + 9 * z) = Wd (9 * z + j) := by rw [show j + 9 * z = 9 * z + j by omega]; exact h1 _ (by omega)
  have bx := h2 (i + j) (by omega) hij
  rw [show 9 * x + (i + j) = i + j + 9 * x by omega] at bx
  have by_ := dy i hi (by omega)
  have bz := dz j hj (by omega)
  have bp := mul_bd (a := Wd (9 * y + i)) (b := Wd (9 * z + j)) (A := 16777215) (B := 16777215) (by omega) (by omega)
  have bp0 : 0 ≤ Wd (9 * y + i) * Wd (9 * z + j) := Int.mul_nonneg by_.1 bz.1
  rw [ey, ez]
  omega
theorem bk_keep {W W' : Int → Int} {b x V : Int} (h : bk W b V) (hk : ∀ k, k < 9 * x ∨ 9 * x + 9 ≤ k → W' k = W k) (hb : b + 9 ≤ 9 * x ∨ 9 * x + 9 ≤ b) : bk W' b V := by
  refine ⟨fun i a c => by rw [hk _ (by omega)]; exact h.1 i a c, ?_⟩
  rw [vl_congr (W' := W) (fun k a c => hk _ (by omega))]; exact h.2
/-- the sign of x + y times the root of 5 -/
def rsZ (x y : Int) : Int := if 0 ≤ x ∧ 0 ≤ y then (if x = 0 ∧ y = 0 then 0 else 1) else if x ≤ 0 ∧ y ≤ 0 then -1 else if (decide (szZ y * szZ y * 5 < szZ x * szZ x)) = decide (0 < x) then 1 else -1
theorem rsZ_in (x y : Int) : -1 ≤ rsZ x y ∧ rsZ x y ≤ 1 := by
  unfold rsZ; split
  · split <;> omega
  · split
    · omega
    · split <;> omega
theorem p9_big : (340282366920938463463374607431768211456 : Int) < 16777216 ^ 9 := by decide
theorem sgn_gt (a : Int) : 0 < sgn a ↔ 0 < a := by unfold sgn; split <;> (try split) <;> omega
theorem sgn_le (a : Int) : sgn a ≤ 0 ↔ a ≤ 0 := by unfold sgn; split <;> (try split) <;> omega
