/-! STEPS: the same answers -/
theorem nr_spec {R : Int → Bool} {n : Nat} {a b : Int} (ha : R a = true) (hb : R b = false) (hab : a < b) (hw : b - a ≤ 2 ^ n) : R (nrN R n a b) = true ∧ R (nrN R n a b + 1) = false ∧ a ≤ nrN R n a b ∧ nrN R n a b < b := by
  induction n generalizing a b with
  | zero =>
    have : b = a + 1 := by simp at hw; omega
    subst this
    exact ⟨ha, hb, Int.le_refl _, hab⟩
  | succ n ih =>
    show R (if b - a ≤ 1 then a else if R ((a + b) / 2) = true then nrN R n ((a + b) / 2) b else nrN R n a ((a + b) / 2)) = true ∧ R ((if b - a ≤ 1 then a else if R ((a + b) / 2) = true then nrN R n ((a + b) / 2) b else nrN R n a ((a + b) / 2)) + 1) = false ∧ a ≤ (if b - a ≤ 1 then a else if R ((a + b) / 2) = true then nrN R n ((a + b) / 2) b else nrN R n a ((a + b) / 2)) ∧ (if b - a ≤ 1 then a else if R ((a + b) / 2) = true then nrN R n ((a + b) / 2) b else nrN R n a ((a + b) / 2)) < b
    rw [Int.pow_succ] at hw
    by_cases c : b - a ≤ 1
    · rw [if_pos c]
      have : b = a + 1 := by omega
      subst this
      exact ⟨ha, hb, Int.le_refl _, hab⟩
    · rw [if_neg c]
      by_cases q : R ((a + b) / 2) = true
      · rw [if_pos q]
        have := ih (a := (a + b) / 2) (b := b) q hb (by omega) (by omega)
        exact ⟨this.1, this.2.1, by omega, this.2.2.2⟩
      · rw [if_neg q]
        have := ih (a := a) (b := (a + b) / 2) ha (by simpa using q) (by omega) (by omega)
        exact ⟨this.1, this.2.1, this.2.2.1, by omega⟩
theorem sgZ_nat {k : Int} (h : 0 ≤ k) : 0 ≤ sgZ k 0 ∧ 0 ≤ sgZ 0 k := by
  have a : sgZ k 0 = sgn (k + 0) := sgZ_S (Or.inl ⟨h, Int.le_refl _⟩)
  have b : sgZ 0 k = sgn (0 + k) := sgZ_S (Or.inl ⟨Int.le_refl _, h⟩)
  have c := sgn_b (k + 0); have d := sgn_b (0 + k)
  omega
theorem sgZ_mono {p q p' q' : Int} (h1 : p ≤ p') (h2 : q ≤ q') : (0 ≤ sgZ p q → 0 ≤ sgZ p' q') ∧ (0 < sgZ p q → 0 < sgZ p' q') := by
  have k : ∀ (h : 0 ≤ sgZ p q), 0 ≤ sgZ p' q' ∧ (0 < sgZ p q → 0 < sgZ p' q') := by
    intro h
    have a := sgZ_add h (sgZ_nat (show 0 ≤ p' - p by omega)).1
    have b := sgZ_add a.1 (sgZ_nat (show 0 ≤ q' - q by omega)).2
    rw [show p + (p' - p) + 0 = p' by omega, show q + 0 + (q' - q) = q' by omega] at b
    exact ⟨b.1, fun w => b.2 (a.2 w)⟩
  exact ⟨fun h => (k h).1, fun h => (k (Int.le_of_lt h)).2 h⟩
theorem sgZ_le0 {p q : Int} : sgZ p q ≤ 0 ↔ 0 ≤ sgZ (-p) (-q) := by rw [sgZ_neg]; omega
theorem sgZ_lt0 {p q : Int} : sgZ p q < 0 ↔ 0 < sgZ (-p) (-q) := by rw [sgZ_neg]; omega
/-- whether twice the place to the right is at least an odd number -/
def rR (L w g o : Int) : Bool := decide (0 ≤ sgZ (L * w - o) (L * g))
/-- .. upwards; s is the side -/
def rU (s L w g o : Int) : Bool := if s = 0 then decide (o < 0) else if 0 < s then (decide (o < 0) || decide (0 ≤ sgZ (L * w - o * o) (L * g))) else (decide (o < 0) && decide (sgZ (L * w - o * o) (L * g) ≤ 0))
theorem rR_mono {L w g o o' : Int} (h : o' ≤ o) (r : rR L w g o = true) : rR L w g o' = true := by
  unfold rR at r ⊢
  have r := of_decide_eq_true r
  exact decide_eq_true ((sgZ_mono (by omega) (Int.le_refl _)).1 r)
theorem sq_le {a b : Int} (h0 : 0 ≤ a) (h : a ≤ b) : a * a ≤ b * b := Int.mul_le_mul h h h0 (by omega)
theorem sq_neg {a b : Int} (h0 : b ≤ 0) (h : a ≤ b) : b * b ≤ a * a := by
  have := sq_le (a := -b) (b := -a) (by omega) (by omega)
  rw [Int.neg_mul_neg, Int.neg_mul_neg] at this; exact this
theorem rU_mono {s L w g o o' : Int} (h : o' ≤ o) (ho : o ≠ 0) (ho' : o' ≠ 0) (r : rU s L w g o = true) : rU s L w g o' = true := by
  unfold rU at r ⊢
  by_cases c : s = 0
  · rw [if_pos c] at r ⊢
    have r := of_decide_eq_true r
    exact decide_eq_true (by omega)
  · rw [if_neg c] at r ⊢
    by_cases e : 0 < s
    · rw [if_pos e] at r ⊢
      simp only [Bool.or_eq_true, decide_eq_true_iff] at r ⊢
      rcases (show o' < 0 ∨ 0 < o' by omega) with q | q
      · exact Or.inl q
      · right
        rcases r with r | r
        · omega
        · have := sq_le (a := o') (b := o) (by omega) h
          exact (sgZ_mono (by omega) (Int.le_refl _)).1 r
    · rw [if_neg e] at r ⊢
      simp only [Bool.and_eq_true, decide_eq_true_iff] at r ⊢
      refine ⟨by omega, ?_⟩
      have := sq_neg (a := o') (b := o) (by omega) h
      have r := r.2
      rw [sgZ_le0] at r ⊢
      exact (sgZ_mono (by omega) (Int.le_refl _)).1 r
/-- the greatest one -/
theorem uni {R : Int → Bool} (mono : ∀ s t, s ≤ t → R t = true → R s = true) {a r : Int} (h1 : R a = true) (h2 : R (a + 1) = false) (ha : -40000000000000 ≤ a ∧ a < 40000000000000) (hr : (r = -100000000000000 ∨ R r = true) ∧ (r = 100000000000000 ∨ R (r + 1) = false)) : r = a := by
  rcases (show r < a ∨ r = a ∨ a < r by omega) with c | c | c
  · exfalso
    rcases hr.2 with e | e
    · omega
    · rw [mono (r + 1) a (by omega) h1] at e; cases e
  · exact c
  · exfalso
    rcases hr.1 with e | e
    · omega
    · rw [mono (a + 1) r (by omega) e] at h2; cases h2
theorem near_R {L w g : Int} (hL : 1 ≤ L ∧ L ≤ 10000000) (hw : -3000000 ≤ w ∧ w ≤ 3000000) (hg : -3000000 ≤ g ∧ g ≤ 3000000) : rR L w g (2 * -40000000000000 - 1) = true ∧ rR L w g (2 * 40000000000000 - 1) = false := by
  have a := mul_bd (a := L) (b := w) (A := 10000000) (B := 3000000) (by omega) hw
  have b := mul_bd (a := L) (b := g) (A := 10000000) (B := 3000000) (by omega) hg
  unfold rR
  constructor
  · apply decide_eq_true
    exact (sgZ_mono (p := 50000000000000) (q := -30000000000000) (by omega) (by omega)).1 (by decide)
  · apply decide_eq_false
    have : sgZ (L * w - (2 * 40000000000000 - 1)) (L * g) < 0 := by
      rw [sgZ_lt0]
      exact (sgZ_mono (p := 49999999999999) (q := -30000000000000) (by omega) (by omega)).2 (by decide)
    omega
theorem near_U {s L w g : Int} (hL : 1 ≤ L ∧ L ≤ 100000000000000) (hw : -18000000000000 ≤ w ∧ w ≤ 18000000000000) (hg : -13000000000000 ≤ g ∧ g ≤ 13000000000000) : rU s L w g (2 * -40000000000000 - 1) = true ∧ rU s L w g (2 * 40000000000000 - 1) = false := by
  have a := mul_bd (a := L) (b := w) (A := 100000000000000) (B := 18000000000000) (by omega) hw
  have b := mul_bd (a := L) (b := g) (A := 100000000000000) (B := 13000000000000) (by omega) hg
  have k1 : sgZ (L * w - (2 * -40000000000000 - 1) * (2 * -40000000000000 - 1)) (L * g) < 0 := by
    rw [sgZ_lt0]
    exact (sgZ_mono (p := 4500000000000000000000000000) (q := -1300000000000000000000000000) (by omega) (by omega)).2 (by decide)
  have k2 : sgZ (L * w - (2 * 40000000000000 - 1) * (2 * 40000000000000 - 1)) (L * g) < 0 := by
    rw [sgZ_lt0]
    exact (sgZ_mono (p := 4500000000000000000000000000) (q := -1300000000000000000000000000) (by omega) (by omega)).2 (by decide)
  unfold rU
  constructor
  · by_cases c : s = 0
    · rw [if_pos c]; decide
    · rw [if_neg c]
      by_cases e : 0 < s
      · rw [if_pos e]; simp
      · rw [if_neg e]
        simp only [Bool.and_eq_true, decide_eq_true_iff]
        exact ⟨by decide, by omega⟩
  · by_cases c : s = 0
    · rw [if_pos c]; decide
    · rw [if_neg c]
      by_cases e : 0 < s
      · rw [if_pos e]
        simp only [Bool.or_eq_false_iff, decide_eq_false_iff_not]
        exact ⟨by decide, by omega⟩
      · rw [if_neg e]; simp
theorem tw_R {sd L w g o : Int} (hL : 1 ≤ L ∧ L ≤ 10000000) (hw : -3000000 ≤ w ∧ w ≤ 3000000) (ho : -1000000000000000 ≤ o ∧ o ≤ 1000000000000000) : twZ false sd L w g o = rR L w g o := by
  have a := mul_bd (a := L) (b := w) (A := 10000000) (B := 3000000) (by omega) hw
  unfold twZ rR
  rw [if_pos rfl, gsN_1000 (by omega), Int.one_mul]
theorem tw_U {sd L w g o : Int} (hL : 1 ≤ L ∧ L ≤ 100000000000000) (hw : -18000000000000 ≤ w ∧ w ≤ 18000000000000) (ho : -1000000000000000 ≤ o ∧ o ≤ 1000000000000000) (h0 : o ≠ 0) : twZ true sd L w g o = rU sd L w g o := by
  have a := mul_bd (a := L) (b := w) (A := 100000000000000) (B := 18000000000000) (by omega) hw
  have b := mul_bd (a := o) (b := o) (A := 1000000000000000) (B := 1000000000000000) (by omega) (by omega)
  unfold twZ rU
  rw [if_neg (by decide), gsN_1000 (by omega)]
  rcases (show o < 0 ∨ 0 < o by omega) with c | c
  · rcases (show sd = 0 ∨ 0 < sd ∨ sd < 0 by omega) with e | e | e
    · rw [if_pos ⟨c, by omega⟩, if_pos e, decide_eq_true c]
    · rw [if_pos ⟨c, by omega⟩, if_neg (by omega), if_pos e, decide_eq_true c]; rfl
    · rw [if_neg (by omega), if_neg (by omega), if_neg (by omega), if_neg (by omega), if_neg (by omega), decide_eq_true c, Bool.true_and]
  · rcases (show sd = 0 ∨ 0 < sd ∨ sd < 0 by omega) with e | e | e
    · rw [if_neg (by omega), if_pos ⟨c, by omega⟩, if_pos e, decide_eq_false (by omega)]
    · rw [if_neg (by omega), if_neg (by omega), if_pos c, if_neg (by omega), if_pos e, decide_eq_false (show ¬ o < 0 by omega), Bool.false_or]
    · rw [if_neg (by omega), if_pos ⟨c, by omega⟩, if_neg (by omega), if_neg (by omega), decide_eq_false (show ¬ o < 0 by omega), Bool.false_and]
theorem ib_U {od len m n : Int} (h0 : od ≠ 0) : ibZ od len m n = rU (sgZ m n) (len * len) (3 * (m * m + n * n) - (2 * (m * n) + n * n)) (2 * (2 * (m * n) + n * n) - (m * m + n * n)) od := by
  have e : ssZ od len (3 * (m * m) + 3 * (n * n) - (2 * m * n + n * n)) (2 * (2 * m * n) + 2 * (n * n) - (m * m + n * n)) = sgZ (len * len * (3 * (m * m + n * n) - (2 * (m * n) + n * n)) - od * od) (len * len * (2 * (2 * (m * n) + n * n) - (m * m + n * n))) := by
    unfold ssZ sgZ
    congr 1 <;> grind
  unfold ibZ rU
  rw [e]
  generalize sgZ (len * len * (3 * (m * m + n * n) - (2 * (m * n) + n * n)) - od * od) (len * len * (2 * (2 * (m * n) + n * n) - (m * m + n * n))) = A
  generalize sgZ m n = s
  rcases (show s = 0 ∨ 0 < s ∨ s < 0 by omega) with c | c | c
  · simp [c]
  · have c1 : ¬ s = 0 := by omega
    rcases (show od < 0 ∨ 0 < od by omega) with q | q
    · have q1 : ¬ 0 < od := by omega
      simp [c, c1, q, q1]
    · have q1 : ¬ od < 0 := by omega
      simp [c, c1, q, q1]
  · have c1 : ¬ s = 0 := by omega
    have c2 : ¬ 0 < s := by omega
    rcases (show od < 0 ∨ 0 < od by omega) with q | q
    · have q1 : ¬ 0 < od := by omega
      simp [c1, c2, q, q1]
    · have q1 : ¬ od < 0 := by omega
      simp [c1, c2, q, q1]
theorem pat_nr {T F : Int → Int} {z n c : Int} (hp : pat T F z) (hn : 0 ≤ n ∧ n < z) (hc : 0 ≤ c ∧ c ≤ 2) : nr F (4 * c + 12 * n) := by
  obtain ⟨σ, g⟩ := hp n hn.1 hn.2
  obtain ⟨i, rfl⟩ : ∃ i : Nat, c = i := ⟨c.toNat, by omega⟩
  have := nr3_c g.2.2 (c := i) (by omega)
  rw [show 4 * (i : Int) + 12 * n = 12 * n + 4 * (i : Int) by omega]; exact this
theorem steps_e {T F T' F' : Int → Int} {z n c ax len r : Int} (h : ag T F T' F' z) (hp : pat T F z) (m : mstp F' z n c ax len r) : r = stepsZ F z n c ax len := by
  unfold stepsZ
  rcases m with ⟨a, b⟩ | ⟨⟨a, b1, b2, b3, b4⟩, c1, c2⟩
  · rw [if_neg (by
      intro q
      simp only [Bool.and_eq_true, decide_eq_true_iff] at q
      exact a ⟨q.1, q.2.1, q.2.2.1, q.2.2.2.1, q.2.2.2.2⟩)]
    exact b
  · rw [if_pos (by rw [a, Bool.true_and]; exact decide_eq_true ⟨b1, b2, b3, b4⟩)]
    obtain ⟨hn, hc⟩ := hasZ_b a
    have s := ag_sp (p := 4 * c + 12 * n) h (by omega) (by omega)
    have nn := pat_nr hp hn hc
    obtain ⟨p, ep⟩ : ∃ p, p = 4 * c + 12 * n := ⟨_, rfl⟩
    rw [← ep] at s nn c2 ⊢
    unfold nr at nn
    rcases (show ax = 0 ∨ ax = 1 by omega) with rfl | rfl
    · rw [if_pos rfl]
      have tr : ∀ t, mtR F' p 0 len t = rR len (2 * F p - F (p + 1)) (F (p + 1) - F (p + 2) - F (p + 3)) (2 * t - 1) := by
        intro t
        unfold mtR rR
        rw [if_pos rfl, s.1, s.2.1, s.2.2.1, s.2.2.2, show -F (p + 1) + 2 * F p = 2 * F p - F (p + 1) by omega]
      have nb := near_R (L := len) (w := 2 * F p - F (p + 1)) (g := F (p + 1) - F (p + 2) - F (p + 3)) ⟨b3, b4⟩ (by omega) (by omega)
      have tw : ∀ t : Int, -50000000000000 ≤ t → t ≤ 50000000000000 → twZ false 0 len (2 * F p - F (p + 1)) (F (p + 1) - F (p + 2) - F (p + 3)) (2 * t - 1) = mtR F' p 0 len t := by
        intro t h1 h2
        rw [tr, tw_R ⟨b3, b4⟩ (by omega) (by omega)]
      have sp := nr_spec (R := fun m => twZ false 0 len (2 * F p - F (p + 1)) (F (p + 1) - F (p + 2) - F (p + 3)) (2 * m - 1)) (n := 64) (a := -40000000000000) (b := 40000000000000) (by show twZ _ _ _ _ _ _ = _; rw [tw _ (by decide) (by decide), tr]; exact nb.1) (by show twZ _ _ _ _ _ _ = _; rw [tw _ (by decide) (by decide), tr]; exact nb.2) (by decide) (by decide)
      obtain ⟨p1, p2, p3, p4⟩ := sp
      rw [tw _ (by omega) (by omega)] at p1
      rw [tw _ (by omega) (by omega)] at p2
      refine uni (R := fun t => mtR F' p 0 len t) ?_ p1 p2 ⟨p3, p4⟩ c2
      intro s t h1 h2
      show mtR F' p 0 len s = true
      have h2 : mtR F' p 0 len t = true := h2
      rw [tr] at h2 ⊢
      exact rR_mono (by omega) h2
    · rw [if_neg (by decide)]
      obtain ⟨x, ex⟩ : ∃ x, x = F (p + 2) - F (p + 3) := ⟨_, rfl⟩
      obtain ⟨y, ey⟩ : ∃ y, y = F (p + 1) := ⟨_, rfl⟩
      rw [← ex, ← ey]
      obtain ⟨w, ew⟩ : ∃ w, w = 3 * (x * x + y * y) - (2 * (x * y) + y * y) := ⟨_, rfl⟩
      obtain ⟨g, eg⟩ : ∃ g, g = 2 * (2 * (x * y) + y * y) - (x * x + y * y) := ⟨_, rfl⟩
      rw [← ew, ← eg]
      have bx : -2000000 ≤ x ∧ x ≤ 2000000 := by omega
      have by' : -1000000 ≤ y ∧ y ≤ 1000000 := by omega
      have xx := mul_bd (a := x) (b := x) (A := 2000000) (B := 2000000) (by omega) (by omega)
      have xy := mul_bd (a := x) (b := y) (A := 2000000) (B := 1000000) (by omega) (by omega)
      have yy := mul_bd (a := y) (b := y) (A := 1000000) (B := 1000000) (by omega) (by omega)
      have x0 : 0 ≤ x * x := by rcases (show 0 ≤ x ∨ x ≤ 0 by omega) with q | q; exact Int.mul_nonneg q q; exact Int.mul_nonneg_of_nonpos_of_nonpos q q
      have y0 : 0 ≤ y * y := by rcases (show 0 ≤ y ∨ y ≤ 0 by omega) with q | q; exact Int.mul_nonneg q q; exact Int.mul_nonneg_of_nonpos_of_nonpos q q
      have bw : -18000000000000 ≤ w ∧ w ≤ 18000000000000 := by omega
      have bg : -13000000000000 ≤ g ∧ g ≤ 13000000000000 := by omega
      have bl := sq_le (a := len) (b := 10000000) (by omega) (by omega)
      have bl0 : 1 * 1 ≤ len * len := sq_le (by decide) b3
      have hL : 1 ≤ len * len ∧ len * len ≤ 100000000000000 := by omega
      have sd : sgn (hZ 0 F p) = sgZ x y := by
        have e := hZ_e (d := 0) (by decide) F p
        have e : hZ 0 F p = hI 0 F p := e
        rw [e, ex, ey]
        show sgn (12586269025 * (F (p + 2) - F (p + 3)) + 20365011074 * F (p + 1)) = _
        rw [fib_sg (by omega)]
      rw [sd]
      have tr : ∀ t, mtR F' p 1 len t = rU (sgZ x y) (len * len) w g (2 * t - 1) := by
        intro t
        unfold mtR
        rw [if_neg (by decide), s.2.1, s.2.2.1, s.2.2.2, ← ex, ← ey, ib_U (by omega), ← ew, ← eg]
      have nb := near_U (s := sgZ x y) (L := len * len) (w := w) (g := g) hL bw bg
      have tw : ∀ t : Int, -50000000000000 ≤ t → t ≤ 50000000000000 → twZ true (sgZ x y) (len * len) w g (2 * t - 1) = mtR F' p 1 len t := by
        intro t h1 h2
        rw [tr, tw_U hL bw (by omega) (by omega)]
      have sp := nr_spec (R := fun m => twZ true (sgZ x y) (len * len) w g (2 * m - 1)) (n := 64) (a := -40000000000000) (b := 40000000000000) (by show twZ _ _ _ _ _ _ = _; rw [tw _ (by decide) (by decide), tr]; exact nb.1) (by show twZ _ _ _ _ _ _ = _; rw [tw _ (by decide) (by decide), tr]; exact nb.2) (by decide) (by decide)
      obtain ⟨p1, p2, p3, p4⟩ := sp
      rw [tw _ (by omega) (by omega)] at p1
      rw [tw _ (by omega) (by omega)] at p2
      refine uni (R := fun t => mtR F' p 1 len t) ?_ p1 p2 ⟨p3, p4⟩ c2
      intro s t h1 h2
      show mtR F' p 1 len s = true
      have h2 : mtR F' p 1 len t = true := h2
      rw [tr] at h2 ⊢
      exact rU_mono (by omega) (by omega) (by omega) h2
