/-! NUMBERS p + q G: their signs -/
theorem five_sq {x y : Int} (h : x * x = 5 * (y * y)) : x = 0 ∧ y = 0 := by
  have key : ∀ n : Nat, ∀ x y : Int, y.natAbs ≤ n → x * x = 5 * (y * y) → y = 0 := by
    intro n
    induction n with
    | zero => intro x y hn _; omega
    | succ n ih =>
      intro x y hn e
      have h5 : x % 5 = 0 := by
        have q : x * x % 5 = 0 := by omega
        rw [Int.mul_emod] at q
        rcases (show x % 5 = 0 ∨ x % 5 = 1 ∨ x % 5 = 2 ∨ x % 5 = 3 ∨ x % 5 = 4 by omega) with c | c | c | c | c <;> rw [c] at q <;> first | exact c | (exfalso; revert q; decide)
      obtain ⟨a, ha⟩ : ∃ a : Int, x = 5 * a := ⟨x / 5, by omega⟩
      have e2 : y * y = 5 * (a * a) := by subst ha; grind
      have h5y : y % 5 = 0 := by
        have q : y * y % 5 = 0 := by omega
        rw [Int.mul_emod] at q
        rcases (show y % 5 = 0 ∨ y % 5 = 1 ∨ y % 5 = 2 ∨ y % 5 = 3 ∨ y % 5 = 4 by omega) with c | c | c | c | c <;> rw [c] at q <;> first | exact c | (exfalso; revert q; decide)
      obtain ⟨b, hb⟩ : ∃ b : Int, y = 5 * b := ⟨y / 5, by omega⟩
      have e3 : a * a = 5 * (b * b) := by subst hb; grind
      rcases (show y = 0 ∨ y ≠ 0 by omega) with c | c
      · exact c
      · have := ih a b (by omega) e3
        omega
  have hy := key y.natAbs x y (Nat.le_refl _) h
  subst hy
  have : x * x = 0 := by omega
  exact ⟨by rcases Int.mul_eq_zero.mp this with q | q <;> exact q, rfl⟩
def nm (p q : Int) : Int := p * p + p * q - q * q
theorem nm_x (p q : Int) : (2 * p + q) * (2 * p + q) - 5 * (q * q) = 4 * nm p q := by unfold nm; grind
theorem nm_0 {p q : Int} (h : nm p q = 0) : p = 0 ∧ q = 0 := by
  have e := nm_x p q
  have := five_sq (x := 2 * p + q) (y := q) (by omega)
  omega
def Pos (p q : Int) : Prop := (0 ≤ p ∧ 0 ≤ q ∧ ¬ (p = 0 ∧ q = 0)) ∨ (0 < p ∧ q < 0 ∧ 0 < nm p q) ∨ (p < 0 ∧ 0 < q ∧ nm p q < 0)
theorem nm_neg (p q : Int) : nm (-p) (-q) = nm p q := by unfold nm; grind
theorem nm_phi (p q : Int) : nm q (p + q) = - nm p q := by unfold nm; grind
theorem nm_gt {p q : Int} (hp : 0 < p) (hq : q < 0) (h : 0 < nm p q) : 0 < p + q := by
  rcases (show 0 < p + q ∨ p + q ≤ 0 by omega) with c | c
  · exact c
  · exfalso
    have a : p * (p + q) ≤ 0 := Int.mul_nonpos_of_nonneg_of_nonpos (by omega) c
    have b : 0 < q * q := Int.mul_pos_of_neg_of_neg hq hq
    have e : nm p q = p * (p + q) - q * q := by unfold nm; grind
    omega
theorem Pos_phi {p q : Int} (h : Pos p q) : Pos q (p + q) := by
  have e := nm_phi p q
  rcases h with ⟨a, b, c⟩ | ⟨a, b, c⟩ | ⟨a, b, c⟩
  · exact Or.inl ⟨b, by omega, by omega⟩
  · have := nm_gt a b c
    exact Or.inr (Or.inr ⟨b, this, by omega⟩)
  · rcases (show 0 ≤ p + q ∨ p + q < 0 by omega) with d | d
    · exact Or.inl ⟨by omega, d, by omega⟩
    · exact Or.inr (Or.inl ⟨b, d, by omega⟩)
theorem Pos_tri (p q : Int) : Pos p q ∨ Pos (-p) (-q) ∨ (p = 0 ∧ q = 0) := by
  have e := nm_neg p q
  have z : nm p q = 0 → p = 0 ∧ q = 0 := nm_0
  unfold Pos
  rw [e]
  omega
theorem sgZ_1 {p q : Int} (h : Pos p q) : sgZ p q = 1 := by
  have e := nm_x p q
  unfold sgZ rsZ
  rw [szsq, szsq]
  rcases h with ⟨a, b, c⟩ | ⟨a, b, c⟩ | ⟨a, b, c⟩
  · rw [if_pos (by omega), if_neg (by omega)]
  · have := nm_gt a b c
    rw [if_neg (by omega), if_neg (by omega), if_pos (by simp; omega)]
  · rcases (show 0 ≤ 2 * p + q ∨ 2 * p + q < 0 by omega) with d | d
    · rw [if_pos (by omega), if_neg (by omega)]
    · rw [if_neg (by omega), if_neg (by omega), if_pos (by simp; omega)]
theorem sgZ_m {p q : Int} (h : Pos (-p) (-q)) : sgZ p q = -1 := by
  have e := nm_x p q
  have en := nm_neg p q
  unfold sgZ rsZ
  rw [szsq, szsq]
  rcases h with ⟨a, b, c⟩ | ⟨a, b, c⟩ | ⟨a, b, c⟩
  · rw [if_neg (by omega), if_pos (by omega)]
  · have := nm_gt a b c
    rw [if_neg (by omega), if_neg (by omega), if_neg (by simp; omega)]
  · rcases (show 2 * p + q ≤ 0 ∨ 0 < 2 * p + q by omega) with d | d
    · rw [if_neg (by omega), if_pos (by omega)]
    · rw [if_neg (by omega), if_neg (by omega), if_neg (by simp; omega)]
theorem sgZ_00 : sgZ 0 0 = 0 := by decide
theorem sgZ_cases (p q : Int) : (sgZ p q = 1 ∧ Pos p q) ∨ (sgZ p q = -1 ∧ Pos (-p) (-q)) ∨ (sgZ p q = 0 ∧ p = 0 ∧ q = 0) := by
  rcases Pos_tri p q with h | h | ⟨h1, h2⟩
  · exact Or.inl ⟨sgZ_1 h, h⟩
  · exact Or.inr (Or.inl ⟨sgZ_m h, h⟩)
  · exact Or.inr (Or.inr ⟨by rw [h1, h2]; exact sgZ_00, h1, h2⟩)
theorem sgZ_phi (p q : Int) : sgZ q (p + q) = sgZ p q := by
  rcases sgZ_cases p q with ⟨a, b⟩ | ⟨a, b⟩ | ⟨a, b, c⟩
  · rw [a]; exact sgZ_1 (Pos_phi b)
  · rw [a]
    have := Pos_phi b
    rw [show -p + -q = -(p + q) by omega] at this
    exact sgZ_m this
  · rw [b, c]; rfl
theorem sgZ_neg (p q : Int) : sgZ (-p) (-q) = - sgZ p q := by
  rcases sgZ_cases p q with ⟨a, b⟩ | ⟨a, b⟩ | ⟨a, b, c⟩
  · rw [a]; exact sgZ_m (by rw [Int.neg_neg, Int.neg_neg]; exact b)
  · rw [a]; exact sgZ_1 b
  · rw [b, c]; rfl
/-- G^n times p + q G -/
def ph : Nat → Int → Int → Int × Int
  | 0, p, q => (p, q)
  | n + 1, p, q => ph n q (p + q)
theorem sgZ_ph (n : Nat) (p q : Int) : sgZ (ph n p q).1 (ph n p q).2 = sgZ p q := by
  induction n generalizing p q with
  | zero => rfl
  | succ n ih => show sgZ (ph n q (p + q)).1 (ph n q (p + q)).2 = _; rw [ih, sgZ_phi]
theorem ph_add (n : Nat) (p q r s : Int) : ph n (p + r) (q + s) = ((ph n p q).1 + (ph n r s).1, (ph n p q).2 + (ph n r s).2) := by
  induction n generalizing p q r s with
  | zero => rfl
  | succ n ih =>
    show ph n (q + s) (p + r + (q + s)) = _
    rw [show p + r + (q + s) = (p + q) + (r + s) by omega, ih]
    rfl
def fb : Nat → Int
  | 0 => 1
  | 1 => 1
  | n + 2 => fb (n + 1) + fb n
theorem fb_pos (n : Nat) : 0 < fb n ∧ 0 < fb (n + 1) := by
  induction n with
  | zero => decide
  | succ n ih => exact ⟨ih.2, by show 0 < fb (n + 1) + fb n; omega⟩
/-- both parts of one sign -/
def Sm (p q : Int) : Prop := (0 ≤ p ∧ 0 ≤ q) ∨ (p ≤ 0 ∧ q ≤ 0)
theorem Sm_phi {p q : Int} (h : Sm p q) : Sm q (p + q) := by unfold Sm at h ⊢; omega
theorem Sm_ph {p q : Int} (n : Nat) (h : Sm p q) : Sm (ph n p q).1 (ph n p q).2 := by
  induction n generalizing p q with
  | zero => exact h
  | succ n ih => exact ih (Sm_phi h)
/-- signs that stay apart for n rounds tell of large parts -/
theorem ph_fb (n : Nat) (p q : Int) (h : ¬ Sm (ph n p q).1 (ph n p q).2) : fb (n + 1) ≤ (p.natAbs : Int) ∧ fb n ≤ (q.natAbs : Int) := by
  induction n generalizing p q with
  | zero =>
    have h : ¬ Sm p q := h
    unfold Sm at h
    show (1 : Int) ≤ p.natAbs ∧ (1 : Int) ≤ q.natAbs
    omega
  | succ n ih =>
    have a := ih q (p + q) h
    have b : ¬ Sm p q := fun w => h (Sm_ph (n + 1) w)
    have c : ¬ Sm q (p + q) := fun w => h (Sm_ph n w)
    unfold Sm at b c
    have f1 : fb (n + 1 + 1) = fb (n + 1) + fb n := rfl
    omega
theorem ph_Sm {n : Nat} {p q : Int} (h : (p.natAbs : Int) < fb (n + 1)) : Sm (ph n p q).1 (ph n p q).2 := by
  rcases Classical.em (Sm (ph n p q).1 (ph n p q).2) with c | c
  · exact c
  · have := (ph_fb n p q c).1; omega
theorem fb_ge (n : Nat) : (n : Int) ≤ fb n := by
  have : ∀ n : Nat, (n : Int) ≤ fb n ∧ ((n + 1 : Nat) : Int) ≤ fb (n + 1) := by
    intro n
    induction n with
    | zero => decide
    | succ n ih =>
      refine ⟨ih.2, ?_⟩
      show ((n + 1 + 1 : Nat) : Int) ≤ fb (n + 1) + fb n
      have := fb_pos n
      omega
  exact (this n).1
theorem ph_two (p q r s : Int) : ∃ n, Sm (ph n p q).1 (ph n p q).2 ∧ Sm (ph n r s).1 (ph n r s).2 := by
  refine ⟨p.natAbs + r.natAbs, ph_Sm ?_, ph_Sm ?_⟩
  · have := fb_ge (p.natAbs + r.natAbs + 1); omega
  · have := fb_ge (p.natAbs + r.natAbs + 1); omega
theorem sgZ_S {p q : Int} (h : Sm p q) : sgZ p q = sgn (p + q) := by
  unfold sgn
  rcases h with ⟨a, b⟩ | ⟨a, b⟩
  · by_cases c : p = 0 ∧ q = 0
    · rw [c.1, c.2]; decide
    · rw [sgZ_1 (Or.inl ⟨a, b, c⟩), if_neg (by omega), if_neg (by omega)]
  · by_cases c : p = 0 ∧ q = 0
    · rw [c.1, c.2]; decide
    · rw [sgZ_m (Or.inl ⟨by omega, by omega, by omega⟩), if_pos (by omega)]
theorem sgn_b (z : Int) : (sgn z = 1 ∧ 0 < z) ∨ (sgn z = -1 ∧ z < 0) ∨ (sgn z = 0 ∧ z = 0) := by unfold sgn; split <;> (try split) <;> omega
/-- sums of what isn't negative -/
theorem sgZ_add {p q r s : Int} (h1 : 0 ≤ sgZ p q) (h2 : 0 ≤ sgZ r s) : 0 ≤ sgZ (p + r) (q + s) ∧ (0 < sgZ p q → 0 < sgZ (p + r) (q + s)) := by
  obtain ⟨n, a, b⟩ := ph_two p q r s
  rw [← sgZ_ph n p q, sgZ_S a] at h1 ⊢
  rw [← sgZ_ph n r s, sgZ_S b] at h2
  rw [← sgZ_ph n (p + r) (q + s), ph_add]
  have e1 := sgn_b ((ph n p q).1 + (ph n p q).2)
  have e2 := sgn_b ((ph n r s).1 + (ph n r s).2)
  unfold Sm at a b
  have c : Sm ((ph n p q).1 + (ph n r s).1) ((ph n p q).2 + (ph n r s).2) := Or.inl ⟨by omega, by omega⟩
  show 0 ≤ sgZ ((ph n p q).1 + (ph n r s).1) ((ph n p q).2 + (ph n r s).2) ∧ _
  rw [sgZ_S c]
  have e3 := sgn_b ((ph n p q).1 + (ph n r s).1 + ((ph n p q).2 + (ph n r s).2))
  omega
theorem sgZ_in' (p q : Int) : sgZ p q = 1 ∨ sgZ p q = -1 ∨ sgZ p q = 0 := by rcases sgZ_cases p q with h | h | h <;> omega
theorem sgZ_z {p q : Int} (h : sgZ p q = 0) : p = 0 ∧ q = 0 := by rcases sgZ_cases p q with a | a | a <;> omega
/-- products: (p + q G)(r + s G) -/
theorem ph_s (n : Nat) (p q : Int) : ph (n + 1) p q = ((ph n p q).2, (ph n p q).1 + (ph n p q).2) := by
  induction n generalizing p q with
  | zero => rfl
  | succ n ih => show ph (n + 1) q (p + q) = _; rw [ih]; rfl
theorem ph_mul (n : Nat) (p q r s : Int) : ph n (p * r + q * s) (p * s + q * r + q * s) = ((ph n p q).1 * r + (ph n p q).2 * s, (ph n p q).1 * s + (ph n p q).2 * r + (ph n p q).2 * s) := by
  induction n with
  | zero => rfl
  | succ n ih =>
    rw [ph_s, ih, ph_s]
    simp only [Prod.mk.injEq]
    constructor <;> grind
theorem ph_mul2 (n : Nat) (p q r s : Int) : ph n (p * r + q * s) (p * s + q * r + q * s) = (p * (ph n r s).1 + q * (ph n r s).2, p * (ph n r s).2 + q * (ph n r s).1 + q * (ph n r s).2) := by
  induction n with
  | zero => rfl
  | succ n ih =>
    rw [ph_s, ih, ph_s]
    simp only [Prod.mk.injEq]
    constructor <;> grind
theorem sgZ_mul {p q r s : Int} (h1 : 0 ≤ sgZ p q) (h2 : 0 ≤ sgZ r s) : 0 ≤ sgZ (p * r + q * s) (p * s + q * r + q * s) := by
  obtain ⟨n, a, b⟩ := ph_two p q r s
  rw [← sgZ_ph n p q, sgZ_S a] at h1
  rw [← sgZ_ph n r s, sgZ_S b] at h2
  rw [← sgZ_ph n, ph_mul, ← sgZ_ph n, ph_mul2]
  have e1 := sgn_b ((ph n p q).1 + (ph n p q).2)
  have e2 := sgn_b ((ph n r s).1 + (ph n r s).2)
  unfold Sm at a b
  have p1 : 0 ≤ (ph n p q).1 := by omega
  have p2 : 0 ≤ (ph n p q).2 := by omega
  have r1 : 0 ≤ (ph n r s).1 := by omega
  have r2 : 0 ≤ (ph n r s).2 := by omega
  have m1 := Int.mul_nonneg p1 r1; have m2 := Int.mul_nonneg p1 r2; have m3 := Int.mul_nonneg p2 r1; have m4 := Int.mul_nonneg p2 r2
  have c : Sm ((ph n p q).1 * (ph n r s).1 + (ph n p q).2 * (ph n r s).2) ((ph n p q).1 * (ph n r s).2 + (ph n p q).2 * (ph n r s).1 + (ph n p q).2 * (ph n r s).2) := Or.inl ⟨by omega, by omega⟩
  show 0 ≤ sgZ ((ph n p q).1 * (ph n r s).1 + (ph n p q).2 * (ph n r s).2) ((ph n p q).1 * (ph n r s).2 + (ph n p q).2 * (ph n r s).1 + (ph n p q).2 * (ph n r s).2)
  rw [sgZ_S c]
  have := sgn_b ((ph n p q).1 * (ph n r s).1 + (ph n p q).2 * (ph n r s).2 + ((ph n p q).1 * (ph n r s).2 + (ph n p q).2 * (ph n r s).1 + (ph n p q).2 * (ph n r s).2))
  omega
/-- the class's rounds -/
theorem gsN_Sm {n : Nat} {p q : Int} (h : Sm p q) : gsN (n + 1) p q = sgZ p q := by
  show (if 0 ≤ sgn p * sgn q then sgn (sgn p + sgn q) else gsN n q (p + q)) = _
  rw [sgZ_S h]
  have a := sgn_b p; have b := sgn_b q; have c := sgn_b (p + q)
  have d := sgn_b (sgn p + sgn q)
  rcases a with a | a | a <;> rcases b with b | b | b <;> rw [a.1, b.1] at d ⊢ <;> unfold Sm at h <;> first | (rw [if_pos (by decide)]; omega) | (exfalso; omega)
theorem gsN_sg (n : Nat) {p q : Int} (h : Sm (ph n p q).1 (ph n p q).2) : gsN (n + 1) p q = sgZ p q := by
  induction n generalizing p q with
  | zero => exact gsN_Sm h
  | succ n ih =>
    rcases Classical.em (Sm p q) with c | c
    · exact gsN_Sm c
    · show (if 0 ≤ sgn p * sgn q then sgn (sgn p + sgn q) else gsN (n + 1) q (p + q)) = _
      have a := sgn_b p; have b := sgn_b q
      unfold Sm at c
      rw [if_neg (by rcases a with a | a | a <;> rcases b with b | b | b <;> rw [a.1, b.1] <;> first | decide | (exfalso; omega))]
      rw [ih h, sgZ_phi]
theorem fb_two (k : Nat) : (2 : Int) ^ k ≤ fb (2 * k) ∧ (2 : Int) ^ k ≤ fb (2 * k + 1) := by
  induction k with
  | zero => decide
  | succ k ih =>
    have h0 : (0 : Int) < 2 ^ k := Int.pow_pos (by decide)
    rw [Int.pow_succ, show 2 * (k + 1) = 2 * k + 2 by omega]
    show _ ≤ fb (2 * k + 1) + fb (2 * k) ∧ _ ≤ (fb (2 * k + 1) + fb (2 * k)) + fb (2 * k + 1)
    omega
theorem gsN_1000 {p q : Int} (h : -1606938044258990275541962092341162602522202993782792835301376 < p ∧ p < 1606938044258990275541962092341162602522202993782792835301376) : gsN 1000 p q = sgZ p q := by
  have a := (fb_two 499).2
  have b : (2 : Int) ^ 499 = 2 ^ 200 * 2 ^ 299 := by rw [← Int.pow_add]
  have c : (2 : Int) ^ 200 = 1606938044258990275541962092341162602522202993782792835301376 := by decide
  have d : (1 : Int) ≤ 2 ^ 299 := Int.pow_pos (by decide)
  have e := Int.mul_le_mul_of_nonneg_left d (show (0 : Int) ≤ 2 ^ 200 by omega)
  exact gsN_sg 999 (ph_Sm (by show _ < fb 1000; have := fb_pos 999; have := (fb_two 500).1; have f : (2 : Int) ^ 500 = 2 ^ 499 * 2 := Int.pow_succ _ _; show _ < fb (2 * 500); omega))
theorem ph_50 (p q : Int) : (ph 50 p q).2 = 12586269025 * p + 20365011074 * q := by
  have h := ph_mul2 50 p q 1 0
  have e : ph 50 1 0 = (7778742049, 12586269025) := by decide
  rw [e] at h
  rw [show p * 1 + q * 0 = p by omega, show p * 0 + q * 1 + q * 0 = q by omega] at h
  rw [h]
  show p * 12586269025 + q * 7778742049 + q * 12586269025 = _
  omega
theorem fib_sg {p q : Int} (h : -9000000 ≤ p ∧ p ≤ 9000000) : sgn (12586269025 * p + 20365011074 * q) = sgZ p q := by
  have a : Sm (ph 33 p q).1 (ph 33 p q).2 := ph_Sm (by show _ < fb 34; have : fb 34 = 9227465 := (by decide); omega)
  have ad : ∀ (m : Nat) (p q : Int), ph (33 + m) p q = ph m (ph 33 p q).1 (ph 33 p q).2 := by
    intro m p q
    induction m with
    | zero => rfl
    | succ m ih => rw [show 33 + (m + 1) = (33 + m) + 1 by omega, ph_s, ih, ← ph_s]
  have b : Sm (ph 49 p q).1 (ph 49 p q).2 := by rw [ad 16]; exact Sm_ph 16 a
  rw [← ph_50, ph_s 49]
  show sgn ((ph 49 p q).1 + (ph 49 p q).2) = _
  rw [← sgZ_S b, sgZ_ph]
