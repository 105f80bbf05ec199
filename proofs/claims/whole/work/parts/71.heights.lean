/-! HEIGHTS of points in ten directions -/
def hp (d : Nat) (x0 x1 x2 x3 : Int) : Int := match d with
  | 0 => x2 - x3 | 1 => x1 - x0 | 2 => x3 | 3 => x2 - x1 | 4 => -x0
  | 5 => x3 - x2 | 6 => x0 - x1 | 7 => -x3 | 8 => x1 - x2 | 9 => x0 | _ => 0
def hq (d : Nat) (x0 x1 x2 x3 : Int) : Int := match d with
  | 0 => x1 | 1 => x2 | 2 => x2 - x0 | 3 => x3 - x0 | 4 => x3 - x1
  | 5 => -x1 | 6 => -x2 | 7 => x0 - x2 | 8 => x0 - x3 | 9 => x1 - x3 | _ => 0
def HP (d : Nat) (F : Int → Int) (p : Int) : Int := hp d (F p) (F (p + 1)) (F (p + 2)) (F (p + 3))
def HQ (d : Nat) (F : Int → Int) (p : Int) : Int := hq d (F p) (F (p + 1)) (F (p + 2)) (F (p + 3))
def hI (d : Nat) (F : Int → Int) (p : Int) : Int := 12586269025 * HP d F p + 20365011074 * HQ d F p
theorem ten {d : Nat} (h : d < 10) : d = 0 ∨ d = 1 ∨ d = 2 ∨ d = 3 ∨ d = 4 ∨ d = 5 ∨ d = 6 ∨ d = 7 ∨ d = 8 ∨ d = 9 := by omega
theorem five {d : Nat} (h : d < 5) : d = 0 ∨ d = 1 ∨ d = 2 ∨ d = 3 ∨ d = 4 := by omega
theorem hZ_e {d : Nat} (h : d < 5) (F : Int → Int) (p : Int) : hZ d F p = hI d F p := by
  unfold hZ hI HP HQ
  rcases five h with rfl | rfl | rfl | rfl | rfl <;> simp [hp, hq, z_RISES, l_RISES] <;> omega
theorem hp_sub {d : Nat} (x0 x1 x2 x3 y0 y1 y2 y3 : Int) : hp d (x0 - y0) (x1 - y1) (x2 - y2) (x3 - y3) = hp d x0 x1 x2 x3 - hp d y0 y1 y2 y3 := by
  unfold hp; split <;> omega
theorem hq_sub {d : Nat} (x0 x1 x2 x3 y0 y1 y2 y3 : Int) : hq d (x0 - y0) (x1 - y1) (x2 - y2) (x3 - y3) = hq d x0 x1 x2 x3 - hq d y0 y1 y2 y3 := by
  unfold hq; split <;> omega
theorem hp_add {d : Nat} (x0 x1 x2 x3 y0 y1 y2 y3 : Int) : hp d (x0 + y0) (x1 + y1) (x2 + y2) (x3 + y3) = hp d x0 x1 x2 x3 + hp d y0 y1 y2 y3 := by
  unfold hp; split <;> omega
theorem hq_add {d : Nat} (x0 x1 x2 x3 y0 y1 y2 y3 : Int) : hq d (x0 + y0) (x1 + y1) (x2 + y2) (x3 + y3) = hq d x0 x1 x2 x3 + hq d y0 y1 y2 y3 := by
  unfold hq; split <;> omega
/-- the other way round -/
def op (d : Nat) : Nat := (d + 5) % 10
theorem op_lt (d : Nat) : op d < 10 := Nat.mod_lt _ (by decide)
theorem op_op {d : Nat} (h : d < 10) : op (op d) = d := by unfold op; omega
theorem hp_op {d : Nat} (h : d < 10) (x0 x1 x2 x3 : Int) : hp (op d) x0 x1 x2 x3 = - hp d x0 x1 x2 x3 := by
  rcases ten h with rfl | rfl | rfl | rfl | rfl | rfl | rfl | rfl | rfl | rfl <;> simp [hp, op] <;> omega
theorem hq_op {d : Nat} (h : d < 10) (x0 x1 x2 x3 : Int) : hq (op d) x0 x1 x2 x3 = - hq d x0 x1 x2 x3 := by
  rcases ten h with rfl | rfl | rfl | rfl | rfl | rfl | rfl | rfl | rfl | rfl <;> simp [hq, op] <;> omega
theorem hI_op {d : Nat} (h : d < 10) (F : Int → Int) (p : Int) : hI (op d) F p = - hI d F p := by
  unfold hI HP HQ; rw [hp_op h, hq_op h]; omega
/-- places are near -/
def nr (F : Int → Int) (p : Int) : Prop := (-1000000 ≤ F p ∧ F p ≤ 1000000) ∧ (-1000000 ≤ F (p + 1) ∧ F (p + 1) ≤ 1000000) ∧ (-1000000 ≤ F (p + 2) ∧ F (p + 2) ≤ 1000000) ∧ (-1000000 ≤ F (p + 3) ∧ F (p + 3) ≤ 1000000)
theorem HP_in {F : Int → Int} {p : Int} (h : nr F p) (d : Nat) : -2000000 ≤ HP d F p ∧ HP d F p ≤ 2000000 := by
  unfold nr at h; unfold HP hp; split <;> omega
theorem hI_sg {F : Int → Int} {x z : Int} (hx : nr F x) (hz : nr F z) (d : Nat) : sgZ (HP d F z - HP d F x) (HQ d F z - HQ d F x) = sgn (hI d F z - hI d F x) := by
  have a := HP_in hx d; have b := HP_in hz d
  rw [← fib_sg (by omega)]
  unfold hI; congr 1; omega
/-! unit points, times 1, G, 1 / G -/
def uV (D i : Nat) : Int := match D, i with
  | 0, 0 => 1 | 1, 3 => -1 | 2, 1 => 1 | 3, 0 => 1 | 3, 1 => 1 | 3, 2 => 1 | 3, 3 => 1 | 4, 2 => 1
  | 5, 0 => -1 | 6, 3 => 1 | 7, 1 => -1 | 8, 0 => -1 | 8, 1 => -1 | 8, 2 => -1 | 8, 3 => -1 | 9, 2 => -1 | _, _ => 0
theorem uV_e : ∀ D : Nat, D < 11 → ∀ i : Nat, i < 4 → z_UNITS (4 * (D : Int) + (i : Int)) = uV D i := by decide
def kE (κ D i : Nat) : Int := match κ, i with
  | 0, _ => uV D i
  | 1, 0 => uV D 1 - uV D 3 | 1, 1 => uV D 1 + uV D 2 - uV D 3 | 1, 2 => uV D 1 + uV D 2 - uV D 0 | 1, 3 => uV D 2 - uV D 0
  | 2, 0 => uV D 1 - uV D 3 - uV D 0 | 2, 1 => uV D 2 - uV D 3 | 2, 2 => uV D 1 - uV D 0 | 2, 3 => uV D 2 - uV D 0 - uV D 3
  | _, _ => 0
theorem ev_t {κ D : Nat} (hκ : κ < 3) (hD : D < 10) (y0 y1 y2 y3 : Int) : trZ (kE κ D 0) (kE κ D 1) (kE κ D 2) (kE κ D 3) y0 y1 y2 y3 = sgZ (hp D y0 y1 y2 y3) (hq D y0 y1 y2 y3) := by
  unfold trZ cj1 cj2 cj3
  rcases (show κ = 0 ∨ κ = 1 ∨ κ = 2 by omega) with rfl | rfl | rfl
  · rcases ten hD with rfl | rfl | rfl | rfl | rfl | rfl | rfl | rfl | rfl | rfl <;> simp only [kE, uV, hp, hq] <;> congr 1 <;> omega
  · rw [← sgZ_phi (hp D y0 y1 y2 y3)]
    rcases ten hD with rfl | rfl | rfl | rfl | rfl | rfl | rfl | rfl | rfl | rfl <;> simp only [kE, uV, hp, hq] <;> congr 1 <;> omega
  · rw [← sgZ_phi]
    rcases ten hD with rfl | rfl | rfl | rfl | rfl | rfl | rfl | rfl | rfl | rfl <;> simp only [kE, uV, hp, hq] <;> congr 1 <;> omega
theorem ev_a {κ D : Nat} (hκ : κ < 3) (hD : D < 10) (y0 y1 y2 y3 : Int) : alZ (kE κ D 0) (kE κ D 1) (kE κ D 2) (kE κ D 3) y0 y1 y2 y3 = sgZ (hp ((D + 9) % 10) y0 y1 y2 y3 - hp ((D + 1) % 10) y0 y1 y2 y3) (hq ((D + 9) % 10) y0 y1 y2 y3 - hq ((D + 1) % 10) y0 y1 y2 y3) := by
  unfold alZ cj0 cj1 cj2 cj3
  rcases (show κ = 0 ∨ κ = 1 ∨ κ = 2 by omega) with rfl | rfl | rfl
  · rcases ten hD with rfl | rfl | rfl | rfl | rfl | rfl | rfl | rfl | rfl | rfl <;> simp only [kE, uV, hp, hq, Nat.reduceAdd, Nat.reduceMod] <;> congr 1 <;> omega
  · rw [← sgZ_phi (hp ((D + 9) % 10) y0 y1 y2 y3 - hp ((D + 1) % 10) y0 y1 y2 y3)]
    rcases ten hD with rfl | rfl | rfl | rfl | rfl | rfl | rfl | rfl | rfl | rfl <;> simp only [kE, uV, hp, hq, Nat.reduceAdd, Nat.reduceMod] <;> congr 1 <;> omega
  · rw [← sgZ_phi]
    rcases ten hD with rfl | rfl | rfl | rfl | rfl | rfl | rfl | rfl | rfl | rfl <;> simp only [kE, uV, hp, hq, Nat.reduceAdd, Nat.reduceMod] <;> congr 1 <;> omega
/-- an edge: from place x to place y it goes in direction D -/
def ed (F : Int → Int) (x y : Int) (κ D : Nat) : Prop := κ < 3 ∧ D < 10 ∧ F y - F x = kE κ D 0 ∧ F (y + 1) - F (x + 1) = kE κ D 1 ∧ F (y + 2) - F (x + 2) = kE κ D 2 ∧ F (y + 3) - F (x + 3) = kE κ D 3
theorem ed_si {F : Int → Int} {x y z : Int} {κ D : Nat} (h : ed F x y κ D) (hx : nr F x) (hz : nr F z) : siZ F x y z = sgn (hI D F z - hI D F x) := by
  obtain ⟨a, b, c0, c1, c2, c3⟩ := h
  unfold siZ
  rw [c0, c1, c2, c3, ev_t a b, hp_sub, hq_sub]
  exact hI_sg hx hz D
theorem ed_ag {F : Int → Int} {x y z : Int} {κ D : Nat} (h : ed F x y κ D) (hx : nr F x) (hz : nr F z) : agZ F x y z = sgn ((hI ((D + 9) % 10) F z - hI ((D + 1) % 10) F z) - (hI ((D + 9) % 10) F x - hI ((D + 1) % 10) F x)) := by
  obtain ⟨a, b, c0, c1, c2, c3⟩ := h
  unfold agZ
  rw [c0, c1, c2, c3, ev_a a b, hp_sub, hq_sub, hp_sub, hq_sub]
  have e1 := HP_in hx ((D + 9) % 10); have e2 := HP_in hz ((D + 9) % 10)
  have e3 := HP_in hx ((D + 1) % 10); have e4 := HP_in hz ((D + 1) % 10)
  rw [← fib_sg (by unfold HP at e1 e2 e3 e4; omega)]
  unfold hI HP HQ; congr 1; omega
theorem kE_op {κ D : Nat} (hκ : κ < 3) (hD : D < 10) (i : Nat) (hi : i < 4) : kE κ (op D) i = - kE κ D i := by
  have h : ∀ κ, κ < 3 → ∀ D, D < 10 → ∀ i, i < 4 → kE κ (op D) i = - kE κ D i := by decide +kernel
  exact h κ hκ D hD i hi
theorem ed_rev {F : Int → Int} {x y : Int} {κ D : Nat} (h : ed F x y κ D) : ed F y x κ (op D) := by
  obtain ⟨a, b, c0, c1, c2, c3⟩ := h
  refine ⟨a, op_lt D, ?_, ?_, ?_, ?_⟩ <;> rw [kE_op a b _ (by decide)] <;> omega
/-- how an edge runs in its own and in the next direction -/
theorem kE_h : ∀ κ, κ < 3 → ∀ D, D < 10 → hp D (kE κ D 0) (kE κ D 1) (kE κ D 2) (kE κ D 3) = 0 ∧ hq D (kE κ D 0) (kE κ D 1) (kE κ D 2) (kE κ D 3) = 0 ∧ 12586269025 * hp ((D + 1) % 10) (kE κ D 0) (kE κ D 1) (kE κ D 2) (kE κ D 3) + 20365011074 * hq ((D + 1) % 10) (kE κ D 0) (kE κ D 1) (kE κ D 2) (kE κ D 3) < 0 := by decide +kernel
theorem HP_e {F : Int → Int} {x y : Int} {κ D : Nat} (h : ed F x y κ D) (d : Nat) : HP d F y = HP d F x + hp d (kE κ D 0) (kE κ D 1) (kE κ D 2) (kE κ D 3) ∧ HQ d F y = HQ d F x + hq d (kE κ D 0) (kE κ D 1) (kE κ D 2) (kE κ D 3) := by
  obtain ⟨a, b, c0, c1, c2, c3⟩ := h
  rw [← c0, ← c1, ← c2, ← c3, hp_sub, hq_sub]
  unfold HP HQ; omega
theorem ed_h {F : Int → Int} {x y : Int} {κ D : Nat} (h : ed F x y κ D) : hI D F y = hI D F x ∧ hI ((D + 1) % 10) F y < hI ((D + 1) % 10) F x := by
  have a := HP_e h D; have b := HP_e h ((D + 1) % 10); have c := kE_h κ h.1 D h.2.1
  unfold hI
  rw [a.1, a.2, b.1, b.2]
  omega
/-- on a line, the heights in the next directions are opposite -/
theorem hp_tri {D : Nat} (hD : D < 10) {x0 x1 x2 x3 : Int} (h1 : hp D x0 x1 x2 x3 = 0) (h2 : hq D x0 x1 x2 x3 = 0) : hp ((D + 9) % 10) x0 x1 x2 x3 = - hp ((D + 1) % 10) x0 x1 x2 x3 ∧ hq ((D + 9) % 10) x0 x1 x2 x3 = - hq ((D + 1) % 10) x0 x1 x2 x3 := by
  rcases ten hD with rfl | rfl | rfl | rfl | rfl | rfl | rfl | rfl | rfl | rfl <;> simp only [hp, hq, Nat.reduceAdd, Nat.reduceMod] at h1 h2 ⊢ <;> omega
theorem hI_z {F : Int → Int} {x z : Int} {d : Nat} (hx : nr F x) (hz : nr F z) (h : hI d F z = hI d F x) : hp d (F z - F x) (F (z + 1) - F (x + 1)) (F (z + 2) - F (x + 2)) (F (z + 3) - F (x + 3)) = 0 ∧ hq d (F z - F x) (F (z + 1) - F (x + 1)) (F (z + 2) - F (x + 2)) (F (z + 3) - F (x + 3)) = 0 := by
  have e := hI_sg hx hz d
  rw [show hI d F z - hI d F x = 0 by omega, show sgn 0 = 0 from rfl] at e
  have := sgZ_z e
  rw [hp_sub, hq_sub]; exact this
theorem hI_tri {F : Int → Int} {x z : Int} {D : Nat} (hD : D < 10) (hx : nr F x) (hz : nr F z) (h : hI D F z = hI D F x) : hI ((D + 9) % 10) F z - hI ((D + 9) % 10) F x = - (hI ((D + 1) % 10) F z - hI ((D + 1) % 10) F x) := by
  obtain ⟨a, b⟩ := hI_z hx hz h
  have c := hp_tri hD a b
  rw [hp_sub, hp_sub, hq_sub, hq_sub] at c
  unfold hI HP HQ; omega
theorem pS_h {F : Int → Int} {x z : Int} {D : Nat} (hD : D < 10) (hx : nr F x) (hz : nr F z) : pS F x z = true ↔ (hI D F z = hI D F x ∧ hI ((D + 1) % 10) F z = hI ((D + 1) % 10) F x) := by
  constructor
  · intro h
    unfold pS at h
    have h := of_decide_eq_true h
    unfold hI HP HQ
    rw [h.1, h.2.1, h.2.2.1, h.2.2.2]
    exact ⟨rfl, rfl⟩
  · rintro ⟨h1, h2⟩
    obtain ⟨a, b⟩ := hI_z hx hz h1
    obtain ⟨c, e⟩ := hI_z hx hz h2
    unfold pS
    apply decide_eq_true
    rcases ten hD with rfl | rfl | rfl | rfl | rfl | rfl | rfl | rfl | rfl | rfl <;> simp only [hp, hq, Nat.reduceAdd, Nat.reduceMod] at a b c e ⊢ <;> omega
theorem wi_iff {F : Int → Int} {x y z : Int} {κ D : Nat} (h : ed F x y κ D) (hx : nr F x) (hy : nr F y) (hz : nr F z) : wiZ F x y z = true ↔ (hI D F z = hI D F x ∧ hI ((D + 1) % 10) F z < hI ((D + 1) % 10) F x ∧ hI ((D + 1) % 10) F y < hI ((D + 1) % 10) F z) := by
  have s := ed_si h hx hz
  have g := ed_ag h hx hz
  have g2 := ed_ag (ed_rev h) hy hz
  have eh := ed_h h
  have hD := h.2.1
  unfold wiZ
  rw [s, g, g2]
  have o1 : (op D + 9) % 10 = op ((D + 9) % 10) := by unfold op; omega
  have o2 : (op D + 1) % 10 = op ((D + 1) % 10) := by unfold op; omega
  rw [o1, o2, hI_op (Nat.mod_lt _ (by decide)), hI_op (Nat.mod_lt _ (by decide)), hI_op (Nat.mod_lt _ (by decide)), hI_op (Nat.mod_lt _ (by decide))]
  simp only [Bool.and_eq_true, decide_eq_true_eq]
  have t1 := sgn_b (hI D F z - hI D F x)
  have t2 := sgn_b (hI ((D + 9) % 10) F z - hI ((D + 1) % 10) F z - (hI ((D + 9) % 10) F x - hI ((D + 1) % 10) F x))
  have t3 := sgn_b (-hI ((D + 9) % 10) F z - -hI ((D + 1) % 10) F z - (-hI ((D + 9) % 10) F y - -hI ((D + 1) % 10) F y))
  constructor
  · rintro ⟨a, b, c⟩
    have r1 := hI_tri hD hx hz (by omega)
    have r2 := hI_tri hD hy hz (by omega)
    omega
  · rintro ⟨a, b, c⟩
    have r1 := hI_tri hD hx hz a
    have r2 := hI_tri hD hy hz (by omega)
    omega
