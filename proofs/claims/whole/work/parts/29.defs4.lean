/-! the shop's writers -/
/-- the row of work that place makes -/
def plW (Wk : Int → Int) (a b c d k j : Int) : Int → Int := st4 (st4 (st4 Wk 0 a b c d) 4 (a + z_UNITS (4 * k)) (b + z_UNITS (4 * k + 1)) (c + z_UNITS (4 * k + 2)) (d + z_UNITS (4 * k + 3))) 8 (a + z_UNITS (4 * j)) (b + z_UNITS (4 * j + 1)) (c + z_UNITS (4 * j + 2)) (d + z_UNITS (4 * j + 3))
def plJ (y k : Int) (left : Bool) : Int := if y = 0 then (if left then (k + 1) % 10 else (k + 9) % 10) else (if left then (k + 3) % 10 else (k + 7) % 10)
/-- a place that isn't refused at once -/
def plOk (z y a b c d k : Int) : Bool := decide (0 ≤ y ∧ y ≤ 1 ∧ 0 ≤ k ∧ k < 10 ∧ z < 400) && (nearZ a && nearZ b && nearZ c && nearZ d)
def hPt (x a b c d : Int) : Int := z_RISES (4 * x) * a + z_RISES (4 * x + 1) * b + z_RISES (4 * x + 2) * c + z_RISES (4 * x + 3) * d
def insZ (Lo Hi : Int → Int) (z a b c d : Int) : Int := if nearZ a && nearZ b && nearZ c && nearZ d then fstZ z.toNat (fun n => hoZ Lo Hi (fun k => hPt k a b c d) n) else -1
def sunF (F : Int → Int) : Int → Int := wrN (wrN (wrN (wrN (wrN (wrN (wrN (wrN (wrN (wrN F 0 z_UNITS 40 0 4) 1 z_UNITS 40 8 4) 2 z_UNITS 40 8 12) 3 z_UNITS 40 16 12) 4 z_UNITS 40 16 20) 5 z_UNITS 40 24 20) 6 z_UNITS 40 24 28) 7 z_UNITS 40 32 28) 8 z_UNITS 40 32 36) 9 z_UNITS 40 0 36
def sunT (T : Int → Int) : Int → Int := uZ (uZ (uZ (uZ (uZ (uZ (uZ (uZ (uZ (uZ T 0 0) 1 0) 2 0) 3 0) 4 0) 5 0) 6 0) 7 0) 8 0) 9 0
theorem hoZ_congr {Lo Hi f g : Int → Int} {n : Int} (h : ∀ k, 0 ≤ k → k < 5 → f k = g k) : hoZ Lo Hi f n = hoZ Lo Hi g n := by
  have e : anyZ 5 (hof Lo Hi f n) = anyZ 5 (hof Lo Hi g n) := by
    show ((((((false || hof Lo Hi f n 0) || hof Lo Hi f n 1) || hof Lo Hi f n 2) || hof Lo Hi f n 3) || hof Lo Hi f n 4)) = ((((((false || hof Lo Hi g n 0) || hof Lo Hi g n 1) || hof Lo Hi g n 2) || hof Lo Hi g n 3) || hof Lo Hi g n 4))
    unfold hof
    rw [h 0 (by decide) (by decide), h 1 (by decide) (by decide), h 2 (by decide) (by decide), h 3 (by decide) (by decide), h 4 (by decide) (by decide)]
  unfold hoZ; rw [e]
theorem hoZ_f {Lo Hi HS : Int → Int} {a b c d : Int} (h : ∀ k, 0 ≤ k → k < 5 → HS k = hPt k a b c d) : (fun n => hoZ Lo Hi (fun k => hPt k a b c d) n) = (fun n => hoZ Lo Hi HS n) := by
  funext n
  exact hoZ_congr (fun k h1 h2 => (h k h1 h2).symm)
def sdT (T : Int → Int) (k : Int) : Int → Int := if k = 0 then sunT T else if k = 1 then uZ T 0 0 else if k = 2 then uZ T 0 1 else T
def sdF (F : Int → Int) (k : Int) : Int → Int := if k = 0 then sunF F else if k = 1 then wrN F 0 z_UNITS 40 0 4 else if k = 2 then wrN F 0 z_UNITS 40 0 12 else F
def sdZ (k : Int) : Int := if k = 0 then 10 else if k = 1 then 1 else if k = 2 then 1 else 0
/-- what dividing makes of a row of work -/
def cut4 (x0 x1 x2 x3 y0 y1 y2 y3 : Int) : Int × Int × Int × Int := ((y1 - x1) - (y3 - x3) - (y0 - x0) + x0, (y2 - x2) - (y3 - x3) + x1, (y1 - x1) - (y0 - x0) + x2, (y2 - x2) - (y0 - x0) - (y3 - x3) + x3)
