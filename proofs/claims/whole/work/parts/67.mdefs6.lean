/-! the model: steps -/
theorem l_div2 {x : Int} (hx : inL x) (h0 : 0 ≤ x) : lI x / lI 2 = lI (x / 2) := by
  apply Int64.toInt_inj.mp
  rw [lI_toInt (by omega), Int64.toInt_div, lI_toInt hx, lI_toInt (by decide)]
  rw [Int.tdiv_eq_ediv_of_nonneg h0]
  rw [Int.bmod_eq_of_le (by omega) (by omega)]
theorem p9 : (16777216 : Int) ^ 9 = 105312291668557186697918027683670432318895095400549111254310977536 := by decide
theorem bk_cp {W W2 : Int → Int} {b V : Int} (h : bk W b V) (e : ∀ i : Int, 0 ≤ i → i < 9 → W2 (36 + i) = W (b + i)) : bk W2 (9 * 4) V := by
  refine ⟨fun i h1 h2 => ?_, ?_⟩
  · show 0 ≤ W2 (36 + i) ∧ W2 (36 + i) < 16777216
    rw [e i h1 h2]; exact h.1 i h1 h2
  · rw [← h.2]
    rw [vl9, vl9]
    have q := fun i a c => e i a c
    have e0 := q 0 (by decide) (by decide)
    have e1 := q 1 (by decide) (by decide); have e2 := q 2 (by decide) (by decide); have e3 := q 3 (by decide) (by decide)
    have e4 := q 4 (by decide) (by decide); have e5 := q 5 (by decide) (by decide); have e6 := q 6 (by decide) (by decide)
    have e7 := q 7 (by decide) (by decide); have e8 := q 8 (by decide) (by decide)
    rw [show (36 : Int) + 0 = 36 from rfl, show b + 0 = b by omega] at e0
    show W2 36 + W2 (36 + 1) * 16777216 + W2 (36 + 2) * 281474976710656 + W2 (36 + 3) * 16777216 ^ 3 + W2 (36 + 4) * 16777216 ^ 4 + W2 (36 + 5) * 16777216 ^ 5 + W2 (36 + 6) * 16777216 ^ 6 + W2 (36 + 7) * 16777216 ^ 7 + W2 (36 + 8) * 16777216 ^ 8 = _
    rw [e0, e1, e2, e3, e4, e5, e6, e7, e8]
theorem vl_pos {W : Int → Int} {b : Int} {n : Nat} (h : ∀ i : Int, 0 ≤ i → i < n → 0 ≤ W (b + i)) (h0 : vl W b n = 0) : ∀ i : Int, 0 ≤ i → i < n → W (b + i) = 0 := by
  induction n with
  | zero => intro i a c; omega
  | succ n ih =>
    have e := vl_s W b (n := (n : Int)) (by omega)
    rw [show ((n : Int) + 1).toNat = n + 1 by omega, show ((n : Int)).toNat = n by omega] at e
    have q := h n (by omega) (by omega)
    have p := Int.mul_nonneg q (Int.le_of_lt (bpow_pos n))
    have r : 0 ≤ vl W b n := by
      have : ∀ m : Nat, m ≤ n → 0 ≤ vl W b m := by
        intro m hm
        induction m with
        | zero => exact Int.le_refl _
        | succ m im =>
          have e2 := vl_s W b (n := (m : Int)) (by omega)
          rw [show ((m : Int) + 1).toNat = m + 1 by omega, show ((m : Int)).toNat = m by omega] at e2
          have p2 := Int.mul_nonneg (h m (by omega) (by omega)) (Int.le_of_lt (bpow_pos m))
          have := im (by omega)
          omega
      exact this n (Nat.le_refl _)
    have z1 : vl W b n = 0 := by omega
    have z2 : W (b + n) * 16777216 ^ n = 0 := by omega
    intro i a c
    rcases (show i < n ∨ i = n by omega) with g | g
    · exact ih (fun i a c => h i a (by omega)) z1 i a g
    · rw [g]
      rcases Int.mul_eq_zero.mp z2 with y | y
      · exact y
      · exact absurd y (by have := bpow_pos n; omega)
theorem bk_none {W : Int → Int} {V : Int} (h : bk W (9 * 4) V) : (!anyZ 9 (fun m => decide (¬ W (m + 36) = 0))) = decide (V = 0) := by
  by_cases c : V = 0
  · have q := vl_pos (n := 9) (fun i a b => (h.1 i a b).1) (h.2.trans c)
    rw [anyZ_f.mpr (fun k a b => ?_)]
    · simp [c]
    · have := q k a b
      rw [show (9 : Int) * 4 + k = k + 36 by omega] at this
      simp [this]
  · cases q : anyZ 9 (fun m => decide (¬ W (m + 36) = 0)) with
    | true => simp [c]
    | false =>
      exfalso; apply c
      rw [← h.2]
      apply vl_0
      intro i a b
      have := anyZ_f.mp q i a b
      rw [show (9 : Int) * 4 + i = i + 36 by omega]
      simpa using this
theorem lqs {L q : Int} (hL : 0 < L) : (q < 0 → L * q < 0) ∧ (q = 0 → L * q = 0) ∧ (0 < q → 0 < L * q) :=
  ⟨fun h => Int.mul_neg_of_pos_of_neg hL h, fun h => by rw [h]; simp, fun h => Int.mul_pos hL h⟩
theorem lsz {L x : Int} : (x < 0 → L * szZ x = -(L * x)) ∧ (0 ≤ x → L * szZ x = L * x) := by
  unfold szZ
  constructor
  · intro h; rw [if_pos h, Int.mul_neg]
  · intro h; rw [if_neg (by omega)]
theorem szsq (x : Int) : szZ x * szZ x = x * x := by
  unfold szZ; split
  · rw [Int.neg_mul_neg]
  · rfl
theorem sz_lq {L q : Int} (hL : 0 < L) : szZ (L * q) = L * szZ q := by
  have a := lqs (q := q) hL
  have b := lsz (L := L) (x := q)
  unfold szZ at b ⊢
  split <;> split <;> first | omega | (rw [Int.mul_neg])
def ssZ (od len p q : Int) : Int := rsZ (len * len * (2 * p + q) - 2 * (od * od)) (len * len * q)
def ibZ (od len m n : Int) : Bool :=
  if sgZ m n = 0 then decide (od < 0) else if decide (0 < od) = decide (0 < sgZ m n) then
    (if 0 < sgZ m n then decide (0 ≤ ssZ od len (3 * (m * m) + 3 * (n * n) - (2 * m * n + n * n)) (2 * (2 * m * n) + 2 * (n * n) - (m * m + n * n))) else decide (ssZ od len (3 * (m * m) + 3 * (n * n) - (2 * m * n + n * n)) (2 * (2 * m * n) + 2 * (n * n) - (m * m + n * n)) ≤ 0))
  else decide (od < 0)
def mtR (F : Int → Int) (x ax len t : Int) : Bool := if ax = 0 then decide (0 ≤ sgZ (len * (-F (x + 1) + 2 * F x) - (2 * t - 1)) (len * (F (x + 1) - F (x + 2) - F (x + 3)))) else ibZ (2 * t - 1) len (F (x + 2) - F (x + 3)) (F (x + 1))
/-- the greatest place that is not above -/
def mstp (F : Int → Int) (z n c ax len r : Int) : Prop :=
  (¬ (hasZ z n c = true ∧ 0 ≤ ax ∧ ax ≤ 1 ∧ 1 ≤ len ∧ len ≤ 10000000) ∧ r = 0) ∨ ((hasZ z n c = true ∧ 0 ≤ ax ∧ ax ≤ 1 ∧ 1 ≤ len ∧ len ≤ 10000000) ∧ (-100000000000000 ≤ r ∧ r ≤ 100000000000000) ∧ (r = -100000000000000 ∨ mtR F (4 * c + 12 * n) ax len r = true) ∧ (r = 100000000000000 ∨ mtR F (4 * c + 12 * n) ax len (r + 1) = false))
