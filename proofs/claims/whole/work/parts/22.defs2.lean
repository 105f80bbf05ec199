/-! what the class's own readers answer -/
abbrev bT (T : Int → Int) : Prop := ∀ k, 0 ≤ T k ∧ T k ≤ 1
def eaZ (Lo Hi T F : Int → Int) (n : Int) : Bool := anyZ n.toNat (fun m => clZ Lo Hi T F m n)
theorem edZ_t {T F : Int → Int} {m n k : Int} (h0 : 0 ≤ k) (h1 : k < 9) (h : disZ F m ((k / 3) + 3 * T m) n ((k % 3) + 3 * T n) = true) : edZ T F m n = true := by
  rw [Int.add_comm (k / 3), Int.add_comm (k % 3)] at h
  exact anyZ_t (k := k / 3) (by omega) (by omega) (anyZ_t (k := k % 3) (by omega) (by omega) h)
theorem edZ_f {T F : Int → Int} {m n : Int} (h : ∀ j : Int, 0 ≤ j → j < 9 → disZ F m ((j / 3) + 3 * T m) n ((j % 3) + 3 * T n) = false) : edZ T F m n = false := anyZ_f.mpr (fun e h1 h2 => anyZ_f.mpr (fun f h3 h4 => by
  have q := h (3 * e + f) (by omega) (by omega)
  rw [show (3 * e + f) / 3 = e by omega, show (3 * e + f) % 3 = f by omega, Int.add_comm e, Int.add_comm f] at q
  exact q))
theorem clZ_a {Lo Hi T F : Int → Int} {m n : Int} (h : apZ Lo Hi m n = true) : clZ Lo Hi T F m n = false := by unfold clZ; simp [h]
theorem clZ_o {Lo Hi T F : Int → Int} {m n : Int} (h : apZ Lo Hi m n = false) (h2 : ovZ Lo Hi m n = true) : clZ Lo Hi T F m n = true := by unfold clZ; simp [h, h2]
theorem clZ_e {Lo Hi T F : Int → Int} {m n : Int} (h : apZ Lo Hi m n = false) (h2 : ovZ Lo Hi m n = false) : clZ Lo Hi T F m n = edZ T F m n := by unfold clZ; simp [h, h2]
def cisZ (Lo Hi T F : Int → Int) (m n c : Int) : Bool := anyZ m.toNat (fun j => decide (¬ cAt F j n c = -1) && clZ Lo Hi T F j m)
def stcZ (Lo Hi T F : Int → Int) (z n c : Int) : Bool := anyZ z.toNat (fun m => decide (1 ≤ m) && (decide (¬ cAt F m n c = -1) && cisZ Lo Hi T F m n c))
def flbZ (T F : Int → Int) (z x : Int) : Int := fstZ z.toNat (fun n => decide (T n = 1) && (pS F (12 * n) (12 * x + 4) && pS F (12 * n + 4) (12 * x)))
def flcZ (F : Int → Int) (z x : Int) : Int := fstZ z.toNat (fun m => decide (¬ m = x) && (pS F (12 * m) (12 * x) && pS F (12 * m + 8) (12 * x + 8)))
def unuZ (U : Int → Int) (z : Int) : Int := cntZ z.toNat (fun n => decide (U n = 0))
def ctZ (T : Int → Int) (z y : Int) : Int := cntZ z.toNat (fun n => decide (T n = y))
def ifaZ (F : Int → Int) (n c : Int) : Bool := !anyZ n.toNat (fun m => decide (¬ cAt F m n c = -1))
def cpZ (F : Int → Int) (z : Int) : Int := sumZ z.toNat (fun n => cntZ 3 (fun c => ifaZ F n c))
def ipZ (T F : Int → Int) (z n : Int) : Bool := anyZ z.toNat (fun m => decide (¬ m = n) && (decide (T m = T n) && (pS F (12 * m + 4) (12 * n + 4) && pS F (12 * m + 8) (12 * n + 8))))
def cprZ (T F : Int → Int) (z : Int) : Int := cntZ z.toNat (fun n => ipZ T F z n)
/-- three bits -/
def sb (a b c : Bool) : Int := zB a + 2 * zB b + 4 * zB c
theorem sb_in (a b c : Bool) : 0 ≤ sb a b c ∧ sb a b c ≤ 7 := by cases a <;> cases b <;> cases c <;> decide
theorem sb_or (a b c a' b' c' : Bool) : iI (sb a b c) ||| iI (sb a' b' c') = iI (sb (a || a') (b || b') (c || c')) := by
  cases a <;> cases b <;> cases c <;> cases a' <;> cases b' <;> cases c' <;> decide
def crn (F : Int → Int) (m n c : Int) : Bool := decide (¬ cAt F m n c = -1)
def shA (F : Int → Int) (n m : Int) : Bool := crn F m n 0 && crn F m n 1
def shB (F : Int → Int) (n m : Int) : Bool := crn F m n 0 && crn F m n 2
def shC (F : Int → Int) (n m : Int) : Bool := crn F m n 1 && crn F m n 2
/-- the halves whose edges are looked at -/
def leq (Lo Hi : Int → Int) (n m : Int) : Bool := decide (¬ m = n) && !apZ Lo Hi m n
def le1 (Lo Hi F : Int → Int) (z n : Int) : Int := 3 - (zB (anyZ z.toNat (fun m => leq Lo Hi n m && shA F n m)) + zB (anyZ z.toNat (fun m => leq Lo Hi n m && shB F n m)) + zB (anyZ z.toNat (fun m => leq Lo Hi n m && shC F n m)))
def cleZ (Lo Hi F : Int → Int) (z : Int) : Int := sumZ z.toNat (fun n => le1 Lo Hi F z n)
theorem anyZ_s {k : Int} (h : 0 ≤ k) (f : Int → Bool) : anyZ (k + 1).toNat f = (anyZ k.toNat f || f k) := by
  obtain ⟨n, rfl⟩ : ∃ n : Nat, k = n := ⟨k.toNat, by omega⟩
  rw [show ((n : Int) + 1).toNat = n + 1 by omega, show ((n : Int)).toNat = n by omega]
  rfl
def clashZ (Lo Hi T F : Int → Int) (z : Int) : Int := 1 + fstZ z.toNat (fun n => decide (1 ≤ n) && eaZ Lo Hi T F n)
theorem sumZ_abs {n : Nat} {g : Int → Int} {M : Int} (hM : 0 ≤ M) (h : ∀ k : Int, -M ≤ g k ∧ g k ≤ M) : -(n * M) ≤ sumZ n g ∧ sumZ n g ≤ n * M := by
  induction n with
  | zero => simp [sumZ]
  | succ n ih =>
    have b := h n
    show -(((n + 1 : Nat) : Int) * M) ≤ sumZ n g + g n ∧ sumZ n g + g n ≤ ((n + 1 : Nat) : Int) * M
    have e : ((n + 1 : Nat) : Int) * M = n * M + M := by rw [Int.natCast_add, Int.add_mul]; simp
    omega
def stH (F : Int → Int) (z n c : Int) : Int := cntZ z.toNat (fun m => crn F m n c)
def stG (T F : Int → Int) (n c m : Int) : Int := if crn F m n c then z_ANGLES (3 * T m + cAt F m n c) else 0
def stA (T F : Int → Int) (z n c : Int) : Int := sumZ z.toNat (stG T F n c)
theorem stG_in (T F : Int → Int) (n c m : Int) : -3 ≤ stG T F n c m ∧ stG T F n c m ≤ 3 := by
  unfold stG
  split
  · exact AN_in _
  · omega
theorem stA_in (T F : Int → Int) {z : Int} (n c : Int) (hz : 0 ≤ z ∧ z ≤ 400) : -1200 ≤ stA T F z n c ∧ stA T F z n c ≤ 1200 := by
  have h := sumZ_abs (n := z.toNat) (g := stG T F n c) (M := 3) (by decide) (stG_in T F n c)
  unfold stA; omega
def starZ (Lo Hi T F : Int → Int) (z n c w : Int) : Int := if hasZ z n c && decide (0 ≤ w ∧ w ≤ 2) then (if w = 0 then stH F z n c else if w = 1 then stA T F z n c else if stA T F z n c = 10 ∧ stcZ Lo Hi T F z n c = false then 1 else 0) else -1
def corZ (T F : Int → Int) (z n c i : Int) : Int := if hasZ z n c && decide (0 ≤ i ∧ i ≤ 4) then (if i = 4 then T n else F (4 * c + i + 12 * n)) else -2000000
def couZ (Lo Hi T F : Int → Int) (z lv w : Int) : Int := if w = 0 then z else if w = 1 then ctZ T z 0 else if w = 2 then ctZ T z 1 else if w = 3 then lv else if w = 4 then cleZ Lo Hi F z else if w = 5 then cpZ F z else if w = 6 then cprZ T F z else -1
