/-! the model's readers -/
theorem anyZ_stop {k z : Int} {f : Int → Bool} {b : Bool} (h0 : 0 ≤ k) (hk : k ≤ z) (hb : b = !anyZ k.toNat f) (hs : k = z ∨ b = false) : b = !anyZ z.toNat f := by
  rcases hs with q | q
  · rw [← q]; exact hb
  · rw [q] at hb ⊢
    have q2 : anyZ k.toNat f = true := by revert hb; cases anyZ k.toNat f <;> simp
    obtain ⟨m, m1, m2, m3⟩ := anyZ_e q2
    rw [anyZ_t (k := m) m1 (by omega) m3]; rfl
theorem anyZ_stop0 {k z : Int} {f : Int → Bool} {b : Bool} (h0 : 0 ≤ k) (hk : k ≤ z) (hb : b = anyZ k.toNat f) (hs : k = z ∨ b = true) : b = anyZ z.toNat f := by
  rcases hs with q | q
  · rw [← q]; exact hb
  · rw [q] at hb ⊢
    obtain ⟨m, m1, m2, m3⟩ := anyZ_e hb.symm
    rw [anyZ_t (k := m) m1 (by omega) m3]
theorem any_st1 {k : Int} {f : Int → Bool} {b : Bool} (h0 : 0 ≤ k) (hb : b = !anyZ k.toNat f) (ht : b = true) (c : Bool) (hf : f k = !c) : c = !anyZ (k + 1).toNat f := by
  rw [anyZ_s h0, hf]
  have q2 : anyZ k.toNat f = false := by rw [ht] at hb; revert hb; cases anyZ k.toNat f <;> simp
  rw [q2]; simp
theorem any_st0 {k : Int} {f : Int → Bool} {b : Bool} (h0 : 0 ≤ k) (hb : b = anyZ k.toNat f) (ht : b = false) (c : Bool) (hf : f k = c) : c = anyZ (k + 1).toNat f := by
  rw [anyZ_s h0, hf, ← hb, ht]; simp
def enZ (e w : Int) : Int := if e = 0 then w else if e = 1 then 2 * w else 1 + w
theorem enZ_in {e w : Int} (h : 0 ≤ w ∧ w ≤ 1) : 0 ≤ enZ e w ∧ enZ e w ≤ 2 := by unfold enZ; split <;> (try split) <;> omega
def hef (F : Int → Int) (o x y f : Int) : Bool := (pS F (4 * enZ f 0 + 12 * o) x && pS F (4 * enZ f 1 + 12 * o) y) || (pS F (4 * enZ f 0 + 12 * o) y && pS F (4 * enZ f 1 + 12 * o) x)
def heZ (F : Int → Int) (o x y : Int) : Bool := anyZ 3 (fun f => hef F o x y f)
def alq (F : Int → Int) (n e o : Int) : Bool := decide (¬ o = n) && heZ F o (4 * enZ e 0 + 12 * n) (4 * enZ e 1 + 12 * n)
def alf (F : Int → Int) (z n e : Int) : Bool := !anyZ z.toNat (fun o => alq F n e o)
def moE (F : Int → Int) (z : Int) : Int := sumZ z.toNat (fun n => cntZ 3 (fun e => alf F z n e))
def fsf (F : Int → Int) (k : Int) : Bool := !anyZ k.toNat (fun j => pS F (4 * j) (4 * k))
def moP (F : Int → Int) (z : Int) : Int := cntZ (3 * z).toNat (fun k => fsf F k)
def ipf (T F : Int → Int) (n m : Int) : Bool := decide (¬ m = n) && (decide (T m = T n) && (pS F (12 * m + 4) (12 * n + 4) && pS F (12 * m + 8) (12 * n + 8)))
def mcouZ (T F : Int → Int) (z lv w : Int) : Int := if w = 0 then z else if w = 1 then ctZ T z 0 else if w = 2 then z - ctZ T z 0 else if w = 3 then lv else if w = 4 then moE F z else if w = 5 then moP F z else if w = 6 then cprZ T F z else -1
def anZ (T F : Int → Int) (n x : Int) : Int := if pS F (12 * n) x then 1 + 2 * T n else if pS F (12 * n + 4) x then 2 - T n else if pS F (12 * n + 8) x then 2 - T n else 0
theorem anZ_in {T F : Int → Int} (hT : bT T) (n x : Int) : 0 ≤ anZ T F n x ∧ anZ T F n x ≤ 3 := by
  have := hT n; unfold anZ; split <;> (try split) <;> (try split) <;> omega
def mgo (T F : Int → Int) (x k o : Int) : Bool := decide (¬ anZ T F o x = 0) && agnZ T F o k
def mgk (T F : Int → Int) (x k : Int) : Bool := decide (¬ anZ T F k x = 0) && anyZ k.toNat (fun o => mgo T F x k o)
def mstZ (T F : Int → Int) (z n c w : Int) : Int := if hasZ z n c && decide (0 ≤ w ∧ w ≤ 2) then (if w = 0 then cntZ z.toNat (fun k => decide (¬ anZ T F k (4 * c + 12 * n) = 0)) else if w = 1 then sumZ z.toNat (fun k => anZ T F k (4 * c + 12 * n)) else if sumZ z.toNat (fun k => anZ T F k (4 * c + 12 * n)) = 10 ∧ anyZ z.toNat (fun k => mgk T F (4 * c + 12 * n) k) = false then 1 else 0) else -1
def mclZ (T F : Int → Int) (z : Int) : Int := 1 + fstZ z.toNat (fun n => anyZ n.toNat (fun o => agnZ T F o n))
def minZ (F : Int → Int) (z a b c d : Int) : Int := if ftZ a b c d then fstZ z.toNat (fun n => cvZ (st4 F 4800 a b c d) n 4800) else -1
theorem stop_lem {k z : Int} {f : Int → Bool} {g c : Bool} (h0 : 0 ≤ k) (hk : k ≤ z) (h : false = (g && !(c && anyZ k.toNat f))) : false = (g && !(c && anyZ z.toNat f)) := by
  revert h
  cases g <;> cases c <;> simp
  intro q
  obtain ⟨m, m1, m2, m3⟩ := anyZ_e q
  exact anyZ_t (k := m) m1 (by omega) m3
theorem bT_fil {U : Int → Int} (h : bT U) (n : Int) : bT (fil U n) := fun k => by
  unfold fil; split
  · omega
  · exact h k
