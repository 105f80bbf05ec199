/-! the model's geometry: one row times another's mirror image, signs -/
def cj0 (x0 x1 x2 x3 y0 y1 y2 y3 : Int) : Int := x0 * y0 + x1 * y1 + x2 * y2 + x3 * y3 - (x1 * y0 + x2 * y1 + x3 * y2)
def cj1 (x0 x1 x2 x3 y0 y1 y2 y3 : Int) : Int := x0 * y1 + x1 * y2 + x2 * y3 - (x1 * y0 + x2 * y1 + x3 * y2)
def cj2 (x0 x1 x2 x3 y0 y1 y2 y3 : Int) : Int := x0 * y2 + x1 * y3 + x3 * y0 - (x1 * y0 + x2 * y1 + x3 * y2)
def cj3 (x0 x1 x2 x3 y0 y1 y2 y3 : Int) : Int := x0 * y3 + x2 * y0 + x3 * y1 - (x1 * y0 + x2 * y1 + x3 * y2)
abbrev b6 (x : Int) : Prop := -60000000 ≤ x ∧ x ≤ 60000000
theorem cj_in {x0 x1 x2 x3 y0 y1 y2 y3 : Int} (a0 : b6 x0) (a1 : b6 x1) (a2 : b6 x2) (a3 : b6 x3) (c0 : b6 y0) (c1 : b6 y1) (c2 : b6 y2) (c3 : b6 y3) :
    (-25200000000000000 ≤ cj0 x0 x1 x2 x3 y0 y1 y2 y3 ∧ cj0 x0 x1 x2 x3 y0 y1 y2 y3 ≤ 25200000000000000) ∧ (-25200000000000000 ≤ cj1 x0 x1 x2 x3 y0 y1 y2 y3 ∧ cj1 x0 x1 x2 x3 y0 y1 y2 y3 ≤ 25200000000000000) ∧ (-25200000000000000 ≤ cj2 x0 x1 x2 x3 y0 y1 y2 y3 ∧ cj2 x0 x1 x2 x3 y0 y1 y2 y3 ≤ 25200000000000000) ∧ (-25200000000000000 ≤ cj3 x0 x1 x2 x3 y0 y1 y2 y3 ∧ cj3 x0 x1 x2 x3 y0 y1 y2 y3 ≤ 25200000000000000) := by
  have p : ∀ a b : Int, b6 a → b6 b → -3600000000000000 ≤ a * b ∧ a * b ≤ 3600000000000000 := fun a b ha hb => mul_bd (A := 60000000) (B := 60000000) ha hb
  have q00 := p _ _ a0 c0; have q11 := p _ _ a1 c1; have q22 := p _ _ a2 c2; have q33 := p _ _ a3 c3
  have q10 := p _ _ a1 c0; have q21 := p _ _ a2 c1; have q32 := p _ _ a3 c2
  have q01 := p _ _ a0 c1; have q12 := p _ _ a1 c2; have q23 := p _ _ a2 c3
  have q02 := p _ _ a0 c2; have q13 := p _ _ a1 c3; have q30 := p _ _ a3 c0
  have q03 := p _ _ a0 c3; have q20 := p _ _ a2 c0; have q31 := p _ _ a3 c1
  unfold cj0 cj1 cj2 cj3
  omega
def sgZ (m n : Int) : Int := rsZ (2 * m + n) n
theorem sgZ_in (m n : Int) : -1 ≤ sgZ m n ∧ sgZ m n ≤ 1 := rsZ_in _ _
def trZ (x0 x1 x2 x3 y0 y1 y2 y3 : Int) : Int := sgZ (cj2 x0 x1 x2 x3 y0 y1 y2 y3 - cj3 x0 x1 x2 x3 y0 y1 y2 y3) (cj1 x0 x1 x2 x3 y0 y1 y2 y3)
def alZ (x0 x1 x2 x3 y0 y1 y2 y3 : Int) : Int := sgZ (2 * cj0 x0 x1 x2 x3 y0 y1 y2 y3 - cj1 x0 x1 x2 x3 y0 y1 y2 y3) (cj1 x0 x1 x2 x3 y0 y1 y2 y3 - cj2 x0 x1 x2 x3 y0 y1 y2 y3 - cj3 x0 x1 x2 x3 y0 y1 y2 y3)
/-- from x to y, and from x to z -/
def siZ (F : Int → Int) (x y z : Int) : Int := trZ (F y - F x) (F (y + 1) - F (x + 1)) (F (y + 2) - F (x + 2)) (F (y + 3) - F (x + 3)) (F z - F x) (F (z + 1) - F (x + 1)) (F (z + 2) - F (x + 2)) (F (z + 3) - F (x + 3))
def agZ (F : Int → Int) (x y z : Int) : Int := alZ (F y - F x) (F (y + 1) - F (x + 1)) (F (y + 2) - F (x + 2)) (F (y + 3) - F (x + 3)) (F z - F x) (F (z + 1) - F (x + 1)) (F (z + 2) - F (x + 2)) (F (z + 3) - F (x + 3))
theorem siZ_in (F : Int → Int) (x y z : Int) : -1 ≤ siZ F x y z ∧ siZ F x y z ≤ 1 := sgZ_in _ _
/-- strictly between -/
def wiZ (F : Int → Int) (x y z : Int) : Bool := decide (siZ F x y z = 0) && (decide (0 < agZ F x y z) && decide (0 < agZ F y x z))
/-- all of o lies beyond the line of an edge e of n -/
def owZ (F : Int → Int) (n e : Int) : Int := siZ F (4 * e + 12 * n) (4 * ((e + 1) % 3) + 12 * n) (4 * ((e + 2) % 3) + 12 * n)
def paf (F : Int → Int) (n o e : Int) : Bool := !anyZ 3 (fun k => decide (siZ F (4 * e + 12 * n) (4 * ((e + 1) % 3) + 12 * n) (4 * k + 12 * o) = owZ F n e))
def paZ (F : Int → Int) (n o : Int) : Bool := anyZ 3 (fun e => paf F n o e)
def frZ (T : Int → Int) (n e : Int) : Int := 12 * n + (if e = 2 then 4 else if e = 0 ∧ T n = 1 then 4 else 0)
def toZ (T : Int → Int) (n e : Int) : Int := 12 * n + (if e = 0 then (if T n = 1 then 0 else 4) else 8)
def mkZ (T : Int → Int) (n e : Int) : Int := if e = 2 then 2 + T n else e
theorem frZ_in (T : Int → Int) (n e : Int) : 12 * n ≤ frZ T n e ∧ frZ T n e ≤ 12 * n + 8 := by unfold frZ; split <;> (try split) <;> omega
theorem toZ_in (T : Int → Int) (n e : Int) : 12 * n ≤ toZ T n e ∧ toZ T n e ≤ 12 * n + 8 := by unfold toZ; split <;> (try split) <;> omega
def olZ (F : Int → Int) (x y p q : Int) : Bool := (pS F x p && pS F y q || pS F x q && pS F y p) || (decide (siZ F x y p = 0) && (decide (siZ F x y q = 0) && (wiZ F x y p || (wiZ F x y q || (wiZ F p q x || wiZ F p q y)))))
def nqZ (w0 w1 w2 w3 : Int) : Bool := decide (sgZ (2 * cj0 w0 w1 w2 w3 w0 w1 w2 w3 - cj1 w0 w1 w2 w3 w0 w1 w2 w3 - 32) (cj1 w0 w1 w2 w3 w0 w1 w2 w3 - cj2 w0 w1 w2 w3 w0 w1 w2 w3 - cj3 w0 w1 w2 w3 w0 w1 w2 w3) ≤ 0)
def neZ (F : Int → Int) (n o : Int) : Bool := nqZ (F (12 * o) - F (12 * n)) (F (12 * o + 1) - F (12 * n + 1)) (F (12 * o + 2) - F (12 * n + 2)) (F (12 * o + 3) - F (12 * n + 3))
def amf (T F : Int → Int) (n o e f : Int) : Bool := olZ F (frZ T n e) (toZ T n e) (frZ T o f) (toZ T o f) && !(decide (mkZ T n e = mkZ T o f) && (pS F (frZ T n e) (frZ T o f) && pS F (toZ T n e) (toZ T o f)))
def agnZ (T F : Int → Int) (n o : Int) : Bool := if neZ F n o = false then false else if paZ F n o = false ∧ paZ F o n = false then true else anyZ 3 (fun e => anyZ 3 (fun f => amf T F n o e f))
def cvf (F : Int → Int) (n p e : Int) : Bool := decide (¬ siZ F (4 * e + 12 * n) (4 * ((e + 1) % 3) + 12 * n) p = 0) && decide (¬ siZ F (4 * e + 12 * n) (4 * ((e + 1) % 3) + 12 * n) p = owZ F n e)
def cvZ (F : Int → Int) (n p : Int) : Bool := !anyZ 3 (fun e => cvf F n p e)
