/-! what the class's writers make -/
def st4 (F : Int → Int) (p a b c d : Int) : Int → Int := uZ (uZ (uZ (uZ F p a) (p + 1) b) (p + 2) c) (p + 3) d
/-- half n of rows: three points out of R -/
def wrN (F : Int → Int) (n : Int) (R : Int → Int) (a b c : Int) : Int → Int := cZ R (cZ R (cZ R F a (12 * n) 4) b (12 * n + 4) 4) c (12 * n + 8) 4
def lowZ (F : Int → Int) (n k : Int) : Int := min (hZ k F (12 * n)) (min (hZ k F (12 * n + 4)) (hZ k F (12 * n + 8)))
def higZ (F : Int → Int) (n k : Int) : Int := max (hZ k F (12 * n)) (max (hZ k F (12 * n + 4)) (hZ k F (12 * n + 8)))
def mLo (Lo F : Int → Int) (n : Int) : Int → Int := uZ (uZ (uZ (uZ (uZ Lo (5 * n) (lowZ F n 0)) (5 * n + 1) (lowZ F n 1)) (5 * n + 2) (lowZ F n 2)) (5 * n + 3) (lowZ F n 3)) (5 * n + 4) (lowZ F n 4)
def mHi (Hi F : Int → Int) (n : Int) : Int → Int := uZ (uZ (uZ (uZ (uZ Hi (5 * n) (higZ F n 0)) (5 * n + 1) (higZ F n 1)) (5 * n + 2) (higZ F n 2)) (5 * n + 3) (higZ F n 3)) (5 * n + 4) (higZ F n 4)
def mALo (Lo F : Int → Int) : Nat → Int → Int
  | 0 => Lo
  | n + 1 => mLo (mALo Lo F n) F n
def mAHi (Hi F : Int → Int) : Nat → Int → Int
  | 0 => Hi
  | n + 1 => mHi (mAHi Hi F n) F n
theorem mALo_s {k : Int} (h : 0 ≤ k) (Lo F : Int → Int) : mALo Lo F (k + 1).toNat = mLo (mALo Lo F k.toNat) F k := by
  obtain ⟨n, rfl⟩ : ∃ n : Nat, k = n := ⟨k.toNat, by omega⟩
  rw [show ((n : Int) + 1).toNat = n + 1 by omega, show ((n : Int)).toNat = n by omega]
  rfl
theorem mAHi_s {k : Int} (h : 0 ≤ k) (Hi F : Int → Int) : mAHi Hi F (k + 1).toNat = mHi (mAHi Hi F k.toNat) F k := by
  obtain ⟨n, rfl⟩ : ∃ n : Nat, k = n := ⟨k.toNat, by omega⟩
  rw [show ((n : Int) + 1).toNat = n + 1 by omega, show ((n : Int)).toNat = n by omega]
  rfl
/-- a half's three points made smaller -/
def sh4 (F : Int → Int) (p : Int) : Int → Int := st4 F p (F (p + 1) - F (p + 3) - F p) (F (p + 2) - F (p + 3)) (F (p + 1) - F p) (F (p + 2) - F p - F (p + 3))
def shN (F : Int → Int) : Nat → Int → Int
  | 0 => F
  | n + 1 => sh4 (sh4 (sh4 (shN F n) (12 * n)) (12 * n + 4)) (12 * n + 8)
theorem shN_s {k : Int} (h : 0 ≤ k) (F : Int → Int) : shN F (k + 1).toNat = sh4 (sh4 (sh4 (shN F k.toNat) (12 * k)) (12 * k + 4)) (12 * k + 8) := by
  obtain ⟨n, rfl⟩ : ∃ n : Nat, k = n := ⟨k.toNat, by omega⟩
  rw [show ((n : Int) + 1).toNat = n + 1 by omega, show ((n : Int)).toNat = n by omega]
  rfl
theorem bF_uZ {F : Int → Int} {e x : Int} (h : bF F) (hx : -30000000 ≤ x ∧ x ≤ 30000000) : bF (uZ F e x) := fun k => by
  unfold uZ; split
  · exact hx
  · exact h k
theorem bF_cZ {f g : Int → Int} {sp dp n : Int} (hf : bF f) (hg : bF g) : bF (cZ f g sp dp n) := fun k => by
  unfold cZ; split
  · exact hf _
  · exact hg k
theorem bF_wrN {F R : Int → Int} {n a b c : Int} (hF : bF F) (hR : bF R) : bF (wrN F n R a b c) := bF_cZ hR (bF_cZ hR (bF_cZ hR hF))
theorem bF_UNITS : bF z_UNITS := fun k => by have := UNITS_in k; omega
theorem bT_uZ {T : Int → Int} {e x : Int} (h : bT T) (hx : 0 ≤ x ∧ x ≤ 1) : bT (uZ T e x) := fun k => by
  unfold uZ; split
  · exact hx
  · exact h k
theorem bT_cZ {f g : Int → Int} {sp dp n : Int} (hf : bT f) (hg : bT g) : bT (cZ f g sp dp n) := fun k => by
  unfold cZ; split
  · exact hf _
  · exact hg k
theorem bL_cZ {f g : Int → Int} {sp dp n : Int} (hf : bL f) (hg : bL g) : bL (cZ f g sp dp n) := fun k => by
  unfold cZ; split
  · exact hf _
  · exact hg k
theorem bL_uZ {F : Int → Int} {e x : Int} (h : bL F) (hx : -4000000000000000000 ≤ x ∧ x ≤ 4000000000000000000) : bL (uZ F e x) := fun k => by
  unfold uZ; split
  · exact hx
  · exact h k
theorem lowZ_in {F : Int → Int} (hF : bF F) (n k : Int) : -3000000000000000000 ≤ lowZ F n k ∧ lowZ F n k ≤ 3000000000000000000 := by
  unfold lowZ
  have a := hZ_in hF k (12 * n); have b := hZ_in hF k (12 * n + 4); have c := hZ_in hF k (12 * n + 8)
  omega
theorem higZ_in {F : Int → Int} (hF : bF F) (n k : Int) : -3000000000000000000 ≤ higZ F n k ∧ higZ F n k ≤ 3000000000000000000 := by
  unfold higZ
  have a := hZ_in hF k (12 * n); have b := hZ_in hF k (12 * n + 4); have c := hZ_in hF k (12 * n + 8)
  omega
theorem bL_mLo {Lo F : Int → Int} (h : bL Lo) (hF : bF F) (n : Int) : bL (mLo Lo F n) := by
  have q := fun k => lowZ_in hF n k
  exact bL_uZ (bL_uZ (bL_uZ (bL_uZ (bL_uZ h (by have := q 0; omega)) (by have := q 1; omega)) (by have := q 2; omega)) (by have := q 3; omega)) (by have := q 4; omega)
theorem bL_mHi {Hi F : Int → Int} (h : bL Hi) (hF : bF F) (n : Int) : bL (mHi Hi F n) := by
  have q := fun k => higZ_in hF n k
  exact bL_uZ (bL_uZ (bL_uZ (bL_uZ (bL_uZ h (by have := q 0; omega)) (by have := q 1; omega)) (by have := q 2; omega)) (by have := q 3; omega)) (by have := q 4; omega)
theorem bL_mALo {Lo F : Int → Int} (h : bL Lo) (hF : bF F) (n : Nat) : bL (mALo Lo F n) := by
  induction n with
  | zero => exact h
  | succ n ih => exact bL_mLo ih hF n
theorem bL_mAHi {Hi F : Int → Int} (h : bL Hi) (hF : bF F) (n : Nat) : bL (mAHi Hi F n) := by
  induction n with
  | zero => exact h
  | succ n ih => exact bL_mHi ih hF n
theorem uZ_nt {F : Int → Int} {e z j v : Int} (h : j ≠ e) (k : F j = v) : uZ F e z j = v := by rw [uZ_n h]; exact k
theorem uZ_et {F : Int → Int} {e z j : Int} (h : j = e) : uZ F e z j = z := by rw [h]; exact uZ_s F e z
