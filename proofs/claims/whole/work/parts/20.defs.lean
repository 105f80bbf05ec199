/-! WHAT LOOPS COME TO, and what the class's methods answer -/
def anyZ : Nat → (Int → Bool) → Bool
  | 0, _ => false
  | n + 1, f => anyZ n f || f n
theorem anyZ_f {n : Nat} {f : Int → Bool} : anyZ n f = false ↔ ∀ k : Int, 0 ≤ k → k < n → f k = false := by
  induction n with
  | zero => exact ⟨fun _ k h1 h2 => by omega, fun _ => rfl⟩
  | succ n ih =>
    constructor
    · intro h k h1 h2
      have h := (Bool.or_eq_false_iff.mp (show (anyZ n f || f n) = false from h))
      rcases (show k < n ∨ k = n by omega) with q | q
      · exact ih.mp h.1 k h1 q
      · rw [q]; exact h.2
    · intro h
      exact Bool.or_eq_false_iff.mpr ⟨ih.mpr (fun k h1 h2 => h k h1 (by omega)), h n (by omega) (by omega)⟩
theorem anyZ_t {n : Nat} {f : Int → Bool} {k : Int} (h0 : 0 ≤ k) (h1 : k < n) (h : f k = true) : anyZ n f = true := by
  cases q : anyZ n f with
  | true => rfl
  | false => rw [anyZ_f.mp q k h0 h1] at h; cases h
theorem anyZ_e {n : Nat} {f : Int → Bool} (h : anyZ n f = true) : ∃ k : Int, 0 ≤ k ∧ k < n ∧ f k = true := by
  induction n with
  | zero => cases h
  | succ n ih =>
    rcases Bool.or_eq_true_iff.mp (show (anyZ n f || f n) = true from h) with q | q
    · obtain ⟨k, a, b, c⟩ := ih q; exact ⟨k, a, by omega, c⟩
    · exact ⟨n, by omega, by omega, q⟩
theorem stepF {f : Int → Bool} {k : Int} (h : ∀ j, 0 ≤ j → j < k → f j = false) (hk : f k = false) : ∀ j, 0 ≤ j → j < k + 1 → f j = false := by
  intro j h1 h2
  rcases (show j < k ∨ j = k by omega) with q | q
  · exact h j h1 q
  · rw [q]; exact hk
/-- the least place, or -1 -/
def fstZ : Nat → (Int → Bool) → Int
  | 0, _ => -1
  | n + 1, f => if fstZ n f = -1 then (if f n then n else -1) else fstZ n f
theorem fstZ_none {n : Nat} {f : Int → Bool} (h : ∀ j, 0 ≤ j → j < (n : Int) → f j = false) : fstZ n f = -1 := by
  induction n with
  | zero => rfl
  | succ n ih =>
    show (if fstZ n f = -1 then (if f n then (n : Int) else -1) else fstZ n f) = -1
    rw [if_pos (ih (fun j a b => h j a (by omega))), if_neg (by rw [h n (by omega) (by omega)]; decide)]
theorem fstZ_at {n : Nat} {f : Int → Bool} {k : Int} (h0 : 0 ≤ k) (h1 : k < n) (h : ∀ j, 0 ≤ j → j < k → f j = false) (hk : f k = true) : fstZ n f = k := by
  induction n with
  | zero => omega
  | succ n ih =>
    show (if fstZ n f = -1 then (if f n then (n : Int) else -1) else fstZ n f) = k
    rcases (show k < n ∨ k = n by omega) with q | q
    · rw [ih q, if_neg (by omega)]
    · subst q
      rw [if_pos (fstZ_none h), if_pos hk]
theorem fstZ_in (n : Nat) (f : Int → Bool) : -1 ≤ fstZ n f ∧ fstZ n f < n := by
  induction n with
  | zero => exact ⟨Int.le_refl _, (by decide : (-1 : Int) < 0)⟩
  | succ n ih =>
    show -1 ≤ (if fstZ n f = -1 then (if f n then (n : Int) else -1) else fstZ n f) ∧ (if fstZ n f = -1 then (if f n then (n : Int) else -1) else fstZ n f) < ((n + 1 : Nat) : Int)
    by_cases c : fstZ n f = -1
    · rw [if_pos c]
      by_cases d : f n
      · rw [if_pos d]; omega
      · rw [if_neg d]; omega
    · rw [if_neg c]; omega
/-- how many, and sums -/
def sumZ : Nat → (Int → Int) → Int
  | 0, _ => 0
  | n + 1, g => sumZ n g + g n
def cntZ (n : Nat) (f : Int → Bool) : Int := sumZ n (fun k => if f k then 1 else 0)
theorem sumZ_s {k : Int} (h : 0 ≤ k) (g : Int → Int) : sumZ (k + 1).toNat g = sumZ k.toNat g + g k := by
  obtain ⟨n, rfl⟩ : ∃ n : Nat, k = n := ⟨k.toNat, by omega⟩
  rw [show ((n : Int) + 1).toNat = n + 1 by omega, show ((n : Int)).toNat = n by omega]
  rfl
theorem cntZ_s {k : Int} (h : 0 ≤ k) (f : Int → Bool) : cntZ (k + 1).toNat f = cntZ k.toNat f + (if f k then 1 else 0) := sumZ_s h _
theorem sumZ_in {n : Nat} {g : Int → Int} {M : Int} (h : ∀ k : Int, 0 ≤ k → k < n → 0 ≤ g k ∧ g k ≤ M) : 0 ≤ sumZ n g ∧ sumZ n g ≤ n * M := by
  induction n with
  | zero => exact ⟨Int.le_refl _, by simp [sumZ]⟩
  | succ n ih =>
    have a := ih (fun k h1 h2 => h k h1 (by omega))
    have b := h n (by omega) (by omega)
    show 0 ≤ sumZ n g + g n ∧ sumZ n g + g n ≤ ((n + 1 : Nat) : Int) * M
    have e : ((n + 1 : Nat) : Int) * M = n * M + M := by rw [Int.natCast_add, Int.add_mul]; simp
    omega
theorem cntZ_in (n : Nat) (f : Int → Bool) : 0 ≤ cntZ n f ∧ cntZ n f ≤ n := by
  have h := sumZ_in (n := n) (g := fun k => if f k then 1 else 0) (M := 1) (fun k _ _ => by
    show 0 ≤ (if f k then (1 : Int) else 0) ∧ (if f k then (1 : Int) else 0) ≤ 1
    by_cases c : f k
    · rw [if_pos c]; omega
    · rw [if_neg c]; omega)
  unfold cntZ; omega
theorem getD_in {l : List Int} {M : Int} (hM : 0 ≤ M) (h : ∀ x ∈ l, -M ≤ x ∧ x ≤ M) (k : Nat) : -M ≤ l.getD k 0 ∧ l.getD k 0 ≤ M := by
  rw [List.getD_eq_getElem?_getD]
  cases q : l[k]? with
  | none => show -M ≤ (0 : Int) ∧ (0 : Int) ≤ M; omega
  | some x => exact h x (List.mem_of_getElem? q)
theorem UNITS_in (k : Int) : -1 ≤ z_UNITS k ∧ z_UNITS k ≤ 1 := getD_in (by decide) (by decide) _
theorem RISES_in (k : Int) : -20365011074 ≤ z_RISES k ∧ z_RISES k ≤ 20365011074 := getD_in (by decide) (by decide) _
/-! the class's points -/
def pS (F : Int → Int) (p q : Int) : Bool := decide (F p = F q ∧ F (p + 1) = F (q + 1) ∧ F (p + 2) = F (q + 2) ∧ F (p + 3) = F (q + 3))
def nearZ (x : Int) : Bool := decide (-1000000 ≤ x ∧ x ≤ 1000000)
def hZ (axis : Int) (F : Int → Int) (p : Int) : Int := z_RISES (4 * axis) * F p + z_RISES (4 * axis + 1) * F (p + 1) + z_RISES (4 * axis + 2) * F (p + 2) + z_RISES (4 * axis + 3) * F (p + 3)
/-- every row of numbers stays within this -/
abbrev bF (F : Int → Int) : Prop := ∀ k, -30000000 ≤ F k ∧ F k ≤ 30000000
abbrev bL (F : Int → Int) : Prop := ∀ k, -4000000000000000000 ≤ F k ∧ F k ≤ 4000000000000000000
theorem mul_bd {a b A B : Int} (ha : -A ≤ a ∧ a ≤ A) (hb : -B ≤ b ∧ b ≤ B) : -(A * B) ≤ a * b ∧ a * b ≤ A * B := by
  have h1 : a.natAbs ≤ A.natAbs := by omega
  have h2 : b.natAbs ≤ B.natAbs := by omega
  have h3 := Nat.mul_le_mul h1 h2
  rw [← Int.natAbs_mul, ← Int.natAbs_mul] at h3
  have hA : 0 ≤ A * B := Int.mul_nonneg (by omega) (by omega)
  omega
theorem hZ_in {F : Int → Int} (hF : bF F) (x p : Int) : -3000000000000000000 ≤ hZ x F p ∧ hZ x F p ≤ 3000000000000000000 := by
  unfold hZ
  have a1 := mul_bd (RISES_in (4 * x)) (hF p)
  have a2 := mul_bd (RISES_in (4 * x + 1)) (hF (p + 1))
  have a3 := mul_bd (RISES_in (4 * x + 2)) (hF (p + 2))
  have a4 := mul_bd (RISES_in (4 * x + 3)) (hF (p + 3))
  omega
theorem EB_in (k : Int) : 0 ≤ z_EDGE_BEGINS k ∧ z_EDGE_BEGINS k ≤ 2 := by
  have h : ∀ n : Nat, 0 ≤ l_EDGE_BEGINS.getD n 0 ∧ l_EDGE_BEGINS.getD n 0 ≤ 2 := fun n => by
    rcases (show n < 6 ∨ 6 ≤ n by omega) with q | q
    · exact (by decide : ∀ n, n < 6 → 0 ≤ l_EDGE_BEGINS.getD n 0 ∧ l_EDGE_BEGINS.getD n 0 ≤ 2) n q
    · rw [List.getD_eq_getElem?_getD, List.getElem?_eq_none q]; decide
  exact h _
theorem EE_in (k : Int) : 0 ≤ z_EDGE_ENDS k ∧ z_EDGE_ENDS k ≤ 2 := by
  have h : ∀ n : Nat, 0 ≤ l_EDGE_ENDS.getD n 0 ∧ l_EDGE_ENDS.getD n 0 ≤ 2 := fun n => by
    rcases (show n < 6 ∨ 6 ≤ n by omega) with q | q
    · exact (by decide : ∀ n, n < 6 → 0 ≤ l_EDGE_ENDS.getD n 0 ∧ l_EDGE_ENDS.getD n 0 ≤ 2) n q
    · rw [List.getD_eq_getElem?_getD, List.getElem?_eq_none q]; decide
  exact h _
theorem EM_in (k : Int) : -3 ≤ z_EDGE_MARKS k ∧ z_EDGE_MARKS k ≤ 3 := getD_in (by decide) (by decide) _
theorem AN_in (k : Int) : -3 ≤ z_ANGLES k ∧ z_ANGLES k ≤ 3 := getD_in (by decide) (by decide) _
/-- strips -/
def apf (Lo Hi : Int → Int) (m n k : Int) : Bool := decide (Hi (k + 5 * n) < Lo (k + 5 * m) ∨ Hi (k + 5 * m) < Lo (k + 5 * n))
def apZ (Lo Hi : Int → Int) (m n : Int) : Bool := anyZ 5 (apf Lo Hi m n)
def ovf (Lo Hi : Int → Int) (m n k : Int) : Bool := decide (Hi (k + 5 * n) ≤ Lo (k + 5 * m) ∨ Hi (k + 5 * m) ≤ Lo (k + 5 * n))
def ovZ (Lo Hi : Int → Int) (m n : Int) : Bool := !anyZ 5 (ovf Lo Hi m n)
def hof (Lo Hi hs : Int → Int) (n k : Int) : Bool := decide (hs k < Lo (k + 5 * n) ∨ Hi (k + 5 * n) < hs k)
def hoZ (Lo Hi hs : Int → Int) (n : Int) : Bool := !anyZ 5 (hof Lo Hi hs n)
/-- halves -/
def hasZ (z n c : Int) : Bool := decide (0 ≤ n ∧ n < z ∧ 0 ≤ c ∧ c ≤ 2)
def cAt (F : Int → Int) (m n c : Int) : Int := if pS F (12 * m) (4 * c + 12 * n) then 0 else if pS F (12 * m + 4) (4 * c + 12 * n) then 1 else if pS F (12 * m + 8) (4 * c + 12 * n) then 2 else -1
theorem cAt_in (F : Int → Int) (m n c : Int) : -1 ≤ cAt F m n c ∧ cAt F m n c ≤ 2 := by
  unfold cAt
  split
  · omega
  · split
    · omega
    · split <;> omega
def wlZ (F : Int → Int) (n : Int) : Bool := !anyZ 12 (fun i => !nearZ (F (i + 12 * n)))
def awlZ (F : Int → Int) (z : Int) : Bool := !anyZ z.toNat (fun n => !wlZ F n)
/-- pieces of edges -/
def rmZ (x : Int) (F : Int → Int) (p q r s : Int) : Bool := decide (min (hZ x F p) (hZ x F q) < max (hZ x F r) (hZ x F s) ∧ min (hZ x F r) (hZ x F s) < max (hZ x F p) (hZ x F q))
def lnf (F : Int → Int) (p q k : Int) : Bool := decide (hZ k F p = hZ k F q)
def pshA (F : Int → Int) (p q r s k : Int) : Bool := decide (hZ k F p = hZ k F r) && decide (hZ k F p = hZ k F s) && rmZ ((k + 1) % 5) F p q r s
def pshZ (F : Int → Int) (p q r s : Int) : Bool := if fstZ 5 (lnf F p q) = -1 then false else pshA F p q r s (fstZ 5 (lnf F p q))
def disZ (F : Int → Int) (m e n f : Int) : Bool := if z_EDGE_MARKS e = z_EDGE_MARKS f ∧ pS F (12 * m + 4 * z_EDGE_BEGINS e) (12 * n + 4 * z_EDGE_BEGINS f) ∧ pS F (12 * m + 4 * z_EDGE_ENDS e) (12 * n + 4 * z_EDGE_ENDS f) then false else pshZ F (12 * m + 4 * z_EDGE_BEGINS e) (12 * m + 4 * z_EDGE_ENDS e) (12 * n + 4 * z_EDGE_BEGINS f) (12 * n + 4 * z_EDGE_ENDS f)
def edZ (T F : Int → Int) (m n : Int) : Bool := anyZ 3 (fun e => anyZ 3 (fun f => disZ F m (3 * T m + e) n (3 * T n + f)))
def clZ (Lo Hi T F : Int → Int) (m n : Int) : Bool := if apZ Lo Hi m n then false else ovZ Lo Hi m n || edZ T F m n
