/-! numbers of nine words of 24 bits -/
def vl (W : Int → Int) (b : Int) : Nat → Int
  | 0 => 0
  | n + 1 => vl W b n + W (b + n) * 16777216 ^ n
def dg (W : Int → Int) (b : Int) : Prop := ∀ i : Int, 0 ≤ i → i < 9 → 0 ≤ W (b + i) ∧ W (b + i) < 16777216
def bk (W : Int → Int) (b V : Int) : Prop := dg W b ∧ vl W b 9 = V
theorem vl_s (W : Int → Int) (b : Int) {n : Int} (h : 0 ≤ n) : vl W b (n + 1).toNat = vl W b n.toNat + W (b + n) * 16777216 ^ n.toNat := by
  obtain ⟨m, rfl⟩ : ∃ m : Nat, n = m := ⟨n.toNat, by omega⟩
  rw [show ((m : Int) + 1).toNat = m + 1 by omega, show ((m : Int)).toNat = m by omega]
  rfl
theorem vl_congr {W W' : Int → Int} {b : Int} {n : Nat} (h : ∀ k : Int, 0 ≤ k → k < n → W (b + k) = W' (b + k)) : vl W b n = vl W' b n := by
  induction n with
  | zero => rfl
  | succ n ih =>
    show vl W b n + W (b + n) * 16777216 ^ n = vl W' b n + W' (b + n) * 16777216 ^ n
    rw [ih (fun k h1 h2 => h k h1 (by omega)), h n (by omega) (by omega)]
theorem bpow_pos (n : Nat) : (0 : Int) < 16777216 ^ n := Int.pow_pos (by decide)
theorem vl_in {W : Int → Int} {b : Int} {n : Nat} (h : ∀ i : Int, 0 ≤ i → i < n → 0 ≤ W (b + i) ∧ W (b + i) < 16777216) : 0 ≤ vl W b n ∧ vl W b n < 16777216 ^ n := by
  induction n with
  | zero => exact ⟨Int.le_refl _, by show (0 : Int) < 16777216 ^ 0; decide⟩
  | succ n ih =>
    have i := ih (fun k h1 h2 => h k h1 (by omega))
    have d := h n (by omega) (by omega)
    have p := bpow_pos n
    show 0 ≤ vl W b n + W (b + n) * 16777216 ^ n ∧ vl W b n + W (b + n) * 16777216 ^ n < 16777216 ^ (n + 1)
    have a : 0 ≤ W (b + n) * 16777216 ^ n := Int.mul_nonneg d.1 (by omega)
    have c : W (b + n) * 16777216 ^ n ≤ 16777215 * 16777216 ^ n := Int.mul_le_mul_of_nonneg_right (by omega) (by omega)
    have e : (16777216 : Int) ^ (n + 1) = 16777216 ^ n * 16777216 := Int.pow_succ _ _
    omega
theorem prod_alg {a ov P G yi Bi Z Bj zj X q r : Int} (e : a + ov * P = G + yi * Bi * Z) (hP : P = Bi * Bj) (ht : 16777216 * q + r = X + yi * zj + ov) : a + r * P + q * (P * 16777216) = G + X * P + yi * Bi * (Z + zj * Bj) := by
  grind
def pI (Wd G G2 : Int → Int) (x y z i j ov : Int) : Prop :=
  (∀ k, k < 9 * x ∨ 9 * x + 9 ≤ k → G2 k = Wd k) ∧ dg G2 (9 * x) ∧ (0 ≤ ov ∧ ov < 16777216) ∧ (∀ m, i + j ≤ m → m < 9 → G2 (9 * x + m) = G (9 * x + m)) ∧
  vl G2 (9 * x) (i + j).toNat + ov * 16777216 ^ (i + j).toNat = vl G (9 * x) (i + j).toNat + Wd (9 * y + i) * 16777216 ^ i.toNat * vl Wd (9 * z) j.toNat
def pO (Wd G : Int → Int) (x y z i : Int) : Prop :=
  (∀ k, k < 9 * x ∨ 9 * x + 9 ≤ k → G k = Wd k) ∧ dg G (9 * x) ∧ ∃ K : Int, vl G (9 * x) 9 + K * 16777216 ^ 9 = vl Wd (9 * y) i.toNat * vl Wd (9 * z) 9
theorem pI_0 {Wd G : Int → Int} {x y z i : Int} (h : pO Wd G x y z i) : pI Wd G G x y z i 0 0 := by
  obtain ⟨h1, h2, -⟩ := h
  refine ⟨h1, h2, by omega, fun _ _ _ => rfl, ?_⟩
  show _ + 0 * _ = _ + _ * vl Wd (9 * z) 0
  show _ + 0 * _ = _ + _ * 0
  simp
theorem bpow_add {i j : Int} (hi : 0 ≤ i) (hj : 0 ≤ j) : (16777216 : Int) ^ (i + j).toNat = 16777216 ^ i.toNat * 16777216 ^ j.toNat := by
  rw [← Int.pow_add]; congr 1; omega
theorem blk_ne {x y a b : Int} (h : x ≠ y) (ha : 0 ≤ a ∧ a < 9) (hb : 0 ≤ b ∧ b < 9) : 9 * x + a ≠ 9 * y + b := by omega
theorem pI_s {Wd G G2 : Int → Int} {x y z i j ov t : Int} (h : pI Wd G G2 x y z i j ov) (hi : 0 ≤ i) (hj : 0 ≤ j) (hij : i + j < 9) (hxy : x ≠ y) (hxz : x ≠ z) (dy : dg Wd (9 * y)) (dz : dg Wd (9 * z))
    (ht : t = (G2 (i + 9 * y) * G2 (j + 9 * z)) + G2 (i + j + 9 * x) + ov) : pI Wd G (uZ G2 (i + j + 9 * x) (t % 16777216)) x y z i (j + 1) (t / 16777216) := by
  obtain ⟨h1, h2, h3, h4, h5⟩ := h
  have ey : G2 (i + 9 * y) = Wd (9 * y + i) := by rw [show i + 9 * y = 9 * y + i by omega]; exact h1 _ (by omega)
  have ez : G2 (j + 9 * z) = Wd (9 * z + j) := by rw [show j + 9 * z = 9 * z + j by omega]; exact h1 _ (by omega)
  have ex : G2 (i + j + 9 * x) = G (9 * x + (i + j)) := by rw [show i + j + 9 * x = 9 * x + (i + j) by omega]; exact h4 _ (by omega) hij
  have bx := h2 (i + j) (by omega) hij
  rw [show 9 * x + (i + j) = i + j + 9 * x by omega] at bx
  have by_ := dy i hi (by omega)
  have bz := dz j hj (by omega)
  have bp := mul_bd (a := Wd (9 * y + i)) (b := Wd (9 * z + j)) (A := 16777215) (B := 16777215) (by omega) (by omega)
  have bp0 : 0 ≤ Wd (9 * y + i) * Wd (9 * z + j) := Int.mul_nonneg by_.1 bz.1
  rw [ey, ez] at ht
  have e0 : (i + (j + 1)).toNat = (i + j + 1).toNat := by congr 1; omega
  refine ⟨fun k hk => by rw [uZ_n (by omega)]; exact h1 k hk, fun k k1 k2 => ?_, by omega, fun m m1 m2 => by rw [uZ_n (by omega)]; exact h4 m (by omega) m2, ?_⟩
  · unfold uZ; split
    · omega
    · exact h2 k k1 k2
  · rw [e0, vl_s _ _ (by omega), vl_s G _ (by omega), vl_s Wd _ hj]
    rw [show 9 * x + (i + j) = i + j + 9 * x by omega, uZ_s]
    rw [vl_congr (W := uZ G2 (i + j + 9 * x) (t % 16777216)) (W' := G2) (fun k k1 k2 => uZ_n (by omega))]
    have e1 : (16777216 : Int) ^ (i + j + 1).toNat = 16777216 ^ (i + j).toNat * 16777216 := by
      rw [show (i + j + 1).toNat = (i + j).toNat + 1 by omega]; exact Int.pow_succ _ _
    rw [e1]
    have ex2 : G (i + j + 9 * x) = G2 (i + j + 9 * x) := by rw [ex]; congr 1; omega
    rw [ex2]
    exact prod_alg h5 (bpow_add hi hj) (by omega)
theorem vl_tail (W : Int → Int) (b : Int) {m n : Nat} (h : m ≤ n) : ∃ R : Int, vl W b n = vl W b m + 16777216 ^ m * R := by
  induction n with
  | zero => exact ⟨0, by rw [show m = 0 by omega]; simp⟩
  | succ n ih =>
    rcases (show m ≤ n ∨ m = n + 1 by omega) with q | q
    · obtain ⟨R, hR⟩ := ih q
      refine ⟨R + W (b + n) * 16777216 ^ (n - m), ?_⟩
      show vl W b n + W (b + n) * 16777216 ^ n = _
      have e : (16777216 : Int) ^ n = 16777216 ^ m * 16777216 ^ (n - m) := by rw [← Int.pow_add]; congr 1; omega
      rw [hR, e]
      generalize (16777216 : Int) ^ m = p
      generalize (16777216 : Int) ^ (n - m) = q'
      grind
    · exact ⟨0, by rw [q]; simp⟩
theorem pI_end {Wd G G2 : Int → Int} {x y z i j ov : Int} (h : pI Wd G G2 x y z i j ov) (hO : pO Wd G x y z i) (hi : 0 ≤ i) (hi9 : i < 9) (hj : 0 ≤ j) (hij : i + j = 9) : pO Wd G2 x y z (i + 1) := by
  obtain ⟨h1, h2, h3, h4, h5⟩ := h
  obtain ⟨-, -, K, hK⟩ := hO
  obtain ⟨R, hR⟩ := vl_tail Wd (9 * z) (show j.toNat ≤ 9 by omega)
  refine ⟨h1, h2, K + ov + Wd (9 * y + i) * R, ?_⟩
  rw [vl_s _ _ hi]
  have e9 : (16777216 : Int) ^ 9 = 16777216 ^ i.toNat * 16777216 ^ j.toNat := by rw [← bpow_add hi hj]; congr 1; omega
  rw [show (i + j).toNat = 9 by omega] at h5
  rw [e9] at hK h5 ⊢
  generalize (16777216 : Int) ^ i.toNat = Bi at *
  generalize (16777216 : Int) ^ j.toNat = Bj at *
  grind
theorem vl_0 {W : Int → Int} {b : Int} {n : Nat} (h : ∀ i : Int, 0 ≤ i → i < n → W (b + i) = 0) : vl W b n = 0 := by
  induction n with
  | zero => rfl
  | succ n ih =>
    show vl W b n + W (b + n) * 16777216 ^ n = 0
    rw [ih (fun i a c => h i a (by omega)), h n (by omega) (by omega)]; simp
theorem pO_0 {Wd G : Int → Int} {x y z : Int} (h1 : ∀ k, k < 9 * x ∨ 9 * x + 9 ≤ k → G k = Wd k) (h0 : ∀ i : Int, 0 ≤ i → i < 9 → G (9 * x + i) = 0) : pO Wd G x y z 0 := by
  refine ⟨h1, fun i a b => by rw [h0 i a b]; omega, 0, ?_⟩
  rw [vl_0 (n := 9) (fun i a b => h0 i a b)]
  show (0 : Int) + 0 * _ = vl Wd (9 * y) 0 * _
  show (0 : Int) + 0 * _ = 0 * _
  simp
theorem pO_end {Wd G : Int → Int} {x y z A C : Int} (h : pO Wd G x y z 9) (hy : bk Wd (9 * y) A) (hz : bk Wd (9 * z) C) (hAC : A * C < 16777216 ^ 9) (hA : 0 ≤ A) (hC : 0 ≤ C) : bk G (9 * x) (A * C) ∧ ∀ k, k < 9 * x ∨ 9 * x + 9 ≤ k → G k = Wd k := by
  obtain ⟨h1, h2, K, hK⟩ := h
  refine ⟨⟨h2, ?_⟩, h1⟩
  have v := vl_in (W := G) (b := 9 * x) (n := 9) (fun i a b => h2 i a (by omega))
  rw [show (9 : Int).toNat = 9 from rfl, hy.2, hz.2] at hK
  have p := bpow_pos 9
  have n0 : 0 ≤ A * C := Int.mul_nonneg hA hC
  generalize vl G (9 * x) 9 = V at *
  generalize A * C = M at *
  generalize (16777216 : Int) ^ 9 = P at *
  have hK0 : K = 0 := by
    rcases (show K ≤ -1 ∨ K = 0 ∨ 1 ≤ K by omega) with q | q | q
    · have := Int.mul_le_mul_of_nonneg_right q (show 0 ≤ P by omega)
      omega
    · exact q
    · have := Int.mul_le_mul_of_nonneg_right q (show 0 ≤ P by omega)
      omega
  rw [hK0] at hK
  omega
