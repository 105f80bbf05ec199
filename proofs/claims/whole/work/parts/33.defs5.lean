/-! dividing and putting together, as the class's rows do it -/
/-- A, B, C made larger stand in the row of work -/
def dvA (W F : Int → Int) (n : Int) : Prop :=
  W 0 = F (12 * n + 1) - F (12 * n + 3) ∧ W 1 = F (12 * n + 1) + F (12 * n + 2) - F (12 * n + 3) ∧ W 2 = F (12 * n + 1) + F (12 * n + 2) - F (12 * n) ∧ W 3 = F (12 * n + 2) - F (12 * n) ∧
  W 4 = F (12 * n + 5) - F (12 * n + 7) ∧ W 5 = F (12 * n + 5) + F (12 * n + 6) - F (12 * n + 7) ∧ W 6 = F (12 * n + 5) + F (12 * n + 6) - F (12 * n + 4) ∧ W 7 = F (12 * n + 6) - F (12 * n + 4) ∧
  W 8 = F (12 * n + 9) - F (12 * n + 11) ∧ W 9 = F (12 * n + 9) + F (12 * n + 10) - F (12 * n + 11) ∧ W 10 = F (12 * n + 9) + F (12 * n + 10) - F (12 * n + 8) ∧ W 11 = F (12 * n + 10) - F (12 * n + 8)
/-- a point that cuts the piece from place x to place y of the row stands at place r -/
def dvC (W : Int → Int) (x y r : Int) : Prop :=
  W r = (W (y + 1) - W (x + 1)) - (W (y + 3) - W (x + 3)) - (W y - W x) + W x ∧ W (r + 1) = (W (y + 2) - W (x + 2)) - (W (y + 3) - W (x + 3)) + W (x + 1) ∧
  W (r + 2) = (W (y + 1) - W (x + 1)) - (W y - W x) + W (x + 2) ∧ W (r + 3) = (W (y + 2) - W (x + 2)) - (W y - W x) - (W (y + 3) - W (x + 3)) + W (x + 3)
def dvP (T F : Int → Int) (n zn : Int) (Tn Fn : Int → Int) (zn' : Int) (Tn' Fn' W : Int → Int) : Prop :=
  dvA W F n ∧ ((T n = 0 ∧ dvC W 0 4 12 ∧ zn' = zn + 2 ∧ Tn' = uZ (uZ Tn zn 0) (zn + 1) 1 ∧ Fn' = wrN (wrN Fn zn W 8 12 4) (zn + 1) W 12 8 0) ∨
    (T n = 1 ∧ dvC W 4 0 12 ∧ dvC W 4 8 16 ∧ zn' = zn + 3 ∧ Tn' = uZ (uZ (uZ Tn zn 1) (zn + 1) 1) (zn + 2) 0 ∧ Fn' = wrN (wrN (wrN Fn zn W 16 8 0) (zn + 1) W 12 16 4) (zn + 2) W 16 12 0))
def ptN (T F U : Int → Int) (z y zn : Int) (Tn Fn : Int → Int) : Int × (Int → Int) × (Int → Int) × (Int → Int) :=
  if flbZ T F z y = -1 ∨ flcZ F z y = -1 ∨ ¬ U (flbZ T F z y) = 0 then (zn, Tn, Fn, U)
  else if T (flcZ F z y) = 0 then (zn + 1, uZ Tn zn 0, wrN Fn zn F (12 * flbZ T F z y + 8) (12 * y + 8) (12 * y), uZ (uZ U y 1) (flbZ T F z y) 1)
  else if U (flcZ F z y) = 0 then (zn + 1, uZ Tn zn 1, wrN Fn zn F (12 * y + 8) (12 * flbZ T F z y + 8) (12 * flcZ F z y + 4), uZ (uZ (uZ U (flcZ F z y) 1) y 1) (flbZ T F z y) 1)
  else (zn, Tn, Fn, U)
/-- the first k halves have been looked at -/
def ptA (T F U : Int → Int) (z : Int) (Tn Fn : Int → Int) : Nat → Int × (Int → Int) × (Int → Int) × (Int → Int)
  | 0 => (0, Tn, Fn, U)
  | k + 1 => if T k = 0 then ptN T F (ptA T F U z Tn Fn k).2.2.2 z k (ptA T F U z Tn Fn k).1 (ptA T F U z Tn Fn k).2.1 (ptA T F U z Tn Fn k).2.2.1 else ptA T F U z Tn Fn k
theorem ptA_s {k : Int} (h : 0 ≤ k) (T F U : Int → Int) (z : Int) (Tn Fn : Int → Int) : ptA T F U z Tn Fn (k + 1).toNat = if T k = 0 then ptN T F (ptA T F U z Tn Fn k.toNat).2.2.2 z k (ptA T F U z Tn Fn k.toNat).1 (ptA T F U z Tn Fn k.toNat).2.1 (ptA T F U z Tn Fn k.toNat).2.2.1 else ptA T F U z Tn Fn k.toNat := by
  obtain ⟨n, rfl⟩ : ∃ n : Nat, k = n := ⟨k.toNat, by omega⟩
  rw [show ((n : Int) + 1).toNat = n + 1 by omega, show ((n : Int)).toNat = n by omega]
  rfl
theorem flb_in (T F : Int → Int) (z y : Int) (h : 0 ≤ z) : -1 ≤ flbZ T F z y ∧ flbZ T F z y < z := by
  have q := fstZ_in z.toNat (fun n => decide (T n = 1) && (pS F (12 * n) (12 * y + 4) && pS F (12 * n + 4) (12 * y)))
  unfold flbZ; omega
theorem flc_in (F : Int → Int) (z y : Int) (h : 0 ≤ z) : -1 ≤ flcZ F z y ∧ flcZ F z y < z := by
  have q := fstZ_in z.toNat (fun m => decide (¬ m = y) && (pS F (12 * m) (12 * y) && pS F (12 * m + 8) (12 * y + 8)))
  unfold flcZ; omega
theorem bF_sh4 {F : Int → Int} {p : Int} (h : bF F) (h0 : -1000000 ≤ F p ∧ F p ≤ 1000000) (h1 : -1000000 ≤ F (p + 1) ∧ F (p + 1) ≤ 1000000) (h2 : -1000000 ≤ F (p + 2) ∧ F (p + 2) ≤ 1000000) (h3 : -1000000 ≤ F (p + 3) ∧ F (p + 3) ≤ 1000000) : bF (sh4 F p) :=
  bF_uZ (bF_uZ (bF_uZ (bF_uZ h (by omega)) (by omega)) (by omega)) (by omega)
