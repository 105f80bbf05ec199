/-! what the class's writers make -/
def st4 (F : Int → Int) (p a b c d : Int) : Int → Int := uZ (uZ (uZ (uZ F p a) (p + 1) b) (p + 2) c) (p + 3) d
/-- half n of rows: three points out of R -/
def wrN (F : Int → Int) (n : Int) (R : Int → Int) (a b c : Int) : Int → Int := cZ R (cZ R (cZ R F a (12 * n) 4) b (12 * n + 4) 4) c (12 * n + 8) 4
def lowZ (F : Int → Int) (n k : Int) : Int := min (hZ k F (12 * n)) (min (hZ k F (12 * n + 4)) (hZ k F (12 * n + 8)))
def higZ (F : Int → Int) (n k : Int) : Int := max (hZ k F (12 * n)) (max (hZ k F (12 * n + 4)) (hZ k F (12 * n + 8)))
def mLo (Lo F : Int → Int) (n : Int) : Int → Int := uZ (uZ (uZ (uZ (uZ Lo (5 * n) (lowZ F n 0)) (5 * n + 1) (lowZ F n 1)) (5 * n + 2) (lowZ F n 2)) (5 * n + 3) (lowZ F n 3)) (5 * n + 4) (lowZ F n 4)
def mHi (Hi F : Int → Int) (n : Int) : Int → Int := uZ (uZ (uZ (uZ (uZ Hi (5 * n) (higZ F n 0)) (5 * n + 1) (higZ F n 1)) (5 * n + 2) (higZ F n 2)) (5 * n + 3) (higZ F n 3)) (5 * n + 4) (higZ F n 4)
def mALo (Lo F : Int → Int) : Nat → Int → Int
  | 0 => Lo
  | n + 1 => mLo (mALo Lo F n) F n
def mAHi (Hi F : Int → Int) : Nat → Int → Int
  | 0 => Hi
  | n + 1 => mHi (mAHi Hi F n) F n
theorem mALo_s {k : Int} (h : 0 ≤ k) (Lo F : Int → Int) : mALo Lo F (k + 1).toNat = mLo (mALo Lo F k.toNat) F k := by
  obtain ⟨n, rfl⟩ : ∃ n : Nat, k = n := ⟨k.toNat, by omega⟩
  rw [show ((n : Int) + 1).toNat = n + 1 by omega, show ((n : Int)).toNat = n by omega]
  rfl
theorem mAHi_s {k : Int} (h : 0 ≤ k) (Hi F : Int → Int) : mAHi Hi F (k + 1).toNat = mHi (mAHi Hi F k.toNat) F k := by
  obtain ⟨n, rfl⟩ : ∃ n : Nat, k = n := ⟨k.toNat, by omega⟩
  rw [show ((n : Int) + 1).toNat = n + 1 by omega, show ((n : Int)).toNat = n by omega]
  rfl
/-- a half's three points made smaller -/
def sh4 (F : Int → Int) (p : Int) : Int → Int := st4 F p (F (p + 1) - F (p + 3) - F p) (F (p + 2) - F (p + 3)) (F (p + 1) - F p) (F (p + 2) - F p - F (p + 3))
def shN (F : Int → Int) : Nat → Int → Int
  | 0 => F
  | n + 1 => sh4 (sh4 (sh4 (shN F n) (12 * n)) (12 * n + 4)) (12 * n + 8)
theorem shN_s {k : Int} (h : 0 ≤ k) (F : Int → Int) : shN F (k + 1).toNat = sh4 (sh4 (sh4 (shN F k.toNat) (12 * k)) (12 * k + 4)) (12 * k + 8) := by
  obtain ⟨n, rfl⟩ : ∃ n : Nat, k = n := ⟨k.toNat, by omega⟩
  rw [show ((n : Int) + 1).toNat = n + 1 by omega, show ((n : Int)).toNat = n by omega]
  rfl
