/-! SHAPES of halves: (type, left or right, k); 40 is a point -/
def sK (σ : Nat) : Nat := σ % 10
def sJ (σ : Nat) : Nat := if σ / 20 = 0 then (if σ / 10 % 2 = 0 then (σ % 10 + 1) % 10 else (σ % 10 + 9) % 10) else (if σ / 10 % 2 = 0 then (σ % 10 + 3) % 10 else (σ % 10 + 7) % 10)
def cE (σ c : Nat) : Nat := if σ = 40 then 10 else match c with | 0 => 10 | 1 => sK σ | _ => sJ σ
def eP (σ c d : Nat) : Int := hp d (uV (cE σ c) 0) (uV (cE σ c) 1) (uV (cE σ c) 2) (uV (cE σ c) 3)
def eQ (σ c d : Nat) : Int := hq d (uV (cE σ c) 0) (uV (cE σ c) 1) (uV (cE σ c) 2) (uV (cE σ c) 3)
def zI (σ c d : Nat) : Int := 12586269025 * eP σ c d + 20365011074 * eQ σ c d
/-- the corner that is highest -/
def vx (σ d : Nat) : Nat := if zI σ 1 d ≤ zI σ 0 d ∧ zI σ 2 d ≤ zI σ 0 d then 0 else if zI σ 2 d ≤ zI σ 1 d then 1 else 2
def mP (σ d : Nat) : Int := eP σ (vx σ d) d
def mQ (σ d : Nat) : Int := eQ σ (vx σ d) d
def mI (σ d : Nat) : Int := zI σ (vx σ d) d
theorem vx_lt (σ d : Nat) : vx σ d < 3 := by unfold vx; split <;> (try split) <;> omega
theorem mI_e (σ d : Nat) : mI σ d = 12586269025 * mP σ d + 20365011074 * mQ σ d := rfl
theorem mI_max (σ d : Nat) : zI σ 0 d ≤ mI σ d ∧ zI σ 1 d ≤ mI σ d ∧ zI σ 2 d ≤ mI σ d := by
  unfold mI vx
  split
  · omega
  · split <;> omega
theorem mI_mx (σ d : Nat) : max (zI σ 0 d) (max (zI σ 1 d) (zI σ 2 d)) = mI σ d := by
  unfold mI vx
  split
  · omega
  · split <;> omega
theorem cE_lt : ∀ σ, σ < 41 → ∀ c, c < 3 → cE σ c < 11 := by decide +kernel
theorem uV_in (D i : Nat) : -1 ≤ uV D i ∧ uV D i ≤ 1 := by unfold uV; split <;> omega
theorem eP_in (σ c d : Nat) : -2 ≤ eP σ c d ∧ eP σ c d ≤ 2 := by
  have a := uV_in (cE σ c) 0; have b := uV_in (cE σ c) 1; have e := uV_in (cE σ c) 2; have f := uV_in (cE σ c) 3
  unfold eP hp; split <;> omega
theorem mP_in (σ d : Nat) : -2 ≤ mP σ d ∧ mP σ d ≤ 2 := eP_in _ _ _
theorem e_op : ∀ σ, σ < 41 → ∀ c, c < 3 → ∀ d, d < 10 → zI σ c (op d) = - zI σ c d := by
  intro σ hσ c hc d hd
  unfold zI eP eQ
  rw [hp_op hd, hq_op hd]; omega
/-- three places that show a shape -/
def sh (F : Int → Int) (p : Int) (σ : Nat) : Prop := σ < 40 ∧ (F (p + 4) = F p + uV (sK σ) 0 ∧ F (p + 5) = F (p + 1) + uV (sK σ) 1 ∧ F (p + 6) = F (p + 2) + uV (sK σ) 2 ∧ F (p + 7) = F (p + 3) + uV (sK σ) 3) ∧ (F (p + 8) = F p + uV (sJ σ) 0 ∧ F (p + 9) = F (p + 1) + uV (sJ σ) 1 ∧ F (p + 10) = F (p + 2) + uV (sJ σ) 2 ∧ F (p + 11) = F (p + 3) + uV (sJ σ) 3)
def nr3 (F : Int → Int) (p : Int) : Prop := nr F p ∧ nr F (p + 4) ∧ nr F (p + 8)
theorem nr3_c {F : Int → Int} {p : Int} (h : nr3 F p) {c : Nat} (hc : c < 3) : nr F (p + 4 * (c : Int)) := by
  rcases (show c = 0 ∨ c = 1 ∨ c = 2 by omega) with rfl | rfl | rfl
  · have := h.1; rw [show p + 4 * ((0 : Nat) : Int) = p by omega]; exact this
  · have := h.2.1; rw [show p + 4 * ((1 : Nat) : Int) = p + 4 by omega]; exact this
  · have := h.2.2; rw [show p + 4 * ((2 : Nat) : Int) = p + 8 by omega]; exact this
theorem sh_at {F : Int → Int} {p : Int} {σ : Nat} (h : sh F p σ) {c : Nat} (hc : c < 3) : F (p + 4 * (c : Int)) = F p + uV (cE σ c) 0 ∧ F (p + 4 * (c : Int) + 1) = F (p + 1) + uV (cE σ c) 1 ∧ F (p + 4 * (c : Int) + 2) = F (p + 2) + uV (cE σ c) 2 ∧ F (p + 4 * (c : Int) + 3) = F (p + 3) + uV (cE σ c) 3 := by
  obtain ⟨a, ⟨b0, b1, b2, b3⟩, c0, c1, c2, c3⟩ := h
  have n : ¬ σ = 40 := by omega
  rcases (show c = 0 ∨ c = 1 ∨ c = 2 by omega) with rfl | rfl | rfl
  · have e : cE σ 0 = 10 := (if_neg n)
    rw [e, show p + 4 * ((0 : Nat) : Int) = p by omega]
    simp [uV]
  · have e : cE σ 1 = sK σ := (if_neg n)
    rw [e, show p + 4 * ((1 : Nat) : Int) = p + 4 by omega, show p + 4 + 1 = p + 5 by omega, show p + 4 + 2 = p + 6 by omega, show p + 4 + 3 = p + 7 by omega]
    exact ⟨b0, b1, b2, b3⟩
  · have e : cE σ 2 = sJ σ := (if_neg n)
    rw [e, show p + 4 * ((2 : Nat) : Int) = p + 8 by omega, show p + 8 + 1 = p + 9 by omega, show p + 8 + 2 = p + 10 by omega, show p + 8 + 3 = p + 11 by omega]
    exact ⟨c0, c1, c2, c3⟩
theorem sh_h {F : Int → Int} {p : Int} {σ : Nat} (h : sh F p σ) {c : Nat} (hc : c < 3) (d : Nat) : HP d F (p + 4 * (c : Int)) = HP d F p + eP σ c d ∧ HQ d F (p + 4 * (c : Int)) = HQ d F p + eQ σ c d ∧ hI d F (p + 4 * (c : Int)) = hI d F p + zI σ c d := by
  obtain ⟨a0, a1, a2, a3⟩ := sh_at h hc
  have e1 : HP d F (p + 4 * (c : Int)) = HP d F p + eP σ c d := by
    unfold HP eP; rw [a0, a1, a2, a3, hp_add]
  have e2 : HQ d F (p + 4 * (c : Int)) = HQ d F p + eQ σ c d := by
    unfold HQ eQ; rw [a0, a1, a2, a3, hq_add]
  refine ⟨e1, e2, ?_⟩
  unfold hI zI; rw [e1, e2]; omega
/-! edges: their directions, and where outside is -/
def eD (σ e : Nat) : Nat := match e with
  | 0 => sK σ
  | 1 => if σ / 20 = 0 then (if σ / 10 % 2 = 0 then (σ % 10 + 3) % 10 else (σ % 10 + 7) % 10) else (if σ / 10 % 2 = 0 then (σ % 10 + 4) % 10 else (σ % 10 + 6) % 10)
  | _ => op (sJ σ)
def eK (σ e : Nat) : Nat := match e with | 1 => (if σ / 20 = 0 then 2 else 1) | _ => 0
def oD (σ e : Nat) : Nat := if σ / 10 % 2 = 0 then op (eD σ e) else eD σ e
def sO (σ : Nat) : Int := if σ / 10 % 2 = 0 then 1 else -1
theorem kedge : ∀ σ, σ < 40 → ∀ e, e < 3 → eD σ e < 10 ∧ eK σ e < 3 ∧ (∀ i, i < 4 → uV (cE σ ((e + 1) % 3)) i - uV (cE σ e) i = kE (eK σ e) (eD σ e) i) := by decide +kernel
theorem kown : ∀ σ, σ < 40 → ∀ e, e < 3 → sgn (zI σ ((e + 2) % 3) (eD σ e) - zI σ e (eD σ e)) = sO σ ∧ eP σ e (oD σ e) = mP σ (oD σ e) ∧ eQ σ e (oD σ e) = mQ σ (oD σ e) := by decide +kernel
theorem sh_ed {F : Int → Int} {p : Int} {σ e : Nat} (h : sh F p σ) (he : e < 3) : ed F (p + 4 * (e : Int)) (p + 4 * (((e + 1) % 3 : Nat) : Int)) (eK σ e) (eD σ e) := by
  obtain ⟨a0, a1, a2, a3⟩ := sh_at h he
  obtain ⟨b0, b1, b2, b3⟩ := sh_at h (c := (e + 1) % 3) (by omega)
  obtain ⟨k1, k2, k3⟩ := kedge σ h.1 e he
  have q0 := k3 0 (by decide); have q1 := k3 1 (by decide); have q2 := k3 2 (by decide); have q3 := k3 3 (by decide)
  exact ⟨k2, k1, by omega, by omega, by omega, by omega⟩
/-! what parts two shapes: only the directions of edges count -/
def muP (k : Nat) (p q : Int) : Int := match k with | 1 => p | 2 => q | 3 => q | 4 => p | _ => 0
def muQ (k : Nat) (p q : Int) : Int := match k with | 1 => q | 2 => p + q | 3 => p + q | 4 => q | _ => 0
theorem mu_sg {k : Nat} (h : 1 ≤ k ∧ k ≤ 4) (p q : Int) : sgZ (muP k p q) (muQ k p q) = sgZ p q := by
  rcases (show k = 1 ∨ k = 2 ∨ k = 3 ∨ k = 4 by omega) with rfl | rfl | rfl | rfl
  · rfl
  · exact sgZ_phi p q
  · exact sgZ_phi p q
  · rfl
theorem mu_h {d a b : Nat} (hd : d < 10) (ha : 1 ≤ a) (hb : 1 ≤ b) (hab : a + b ≤ 4) (x0 x1 x2 x3 : Int) :
    muP b (hp ((d + 10 - a) % 10) x0 x1 x2 x3) (hq ((d + 10 - a) % 10) x0 x1 x2 x3) + muP a (hp ((d + b) % 10) x0 x1 x2 x3) (hq ((d + b) % 10) x0 x1 x2 x3) = muP (a + b) (hp d x0 x1 x2 x3) (hq d x0 x1 x2 x3) ∧
    muQ b (hp ((d + 10 - a) % 10) x0 x1 x2 x3) (hq ((d + 10 - a) % 10) x0 x1 x2 x3) + muQ a (hp ((d + b) % 10) x0 x1 x2 x3) (hq ((d + b) % 10) x0 x1 x2 x3) = muQ (a + b) (hp d x0 x1 x2 x3) (hq d x0 x1 x2 x3) := by
  rcases (show (a = 1 ∧ b = 1) ∨ (a = 1 ∧ b = 2) ∨ (a = 1 ∧ b = 3) ∨ (a = 2 ∧ b = 1) ∨ (a = 2 ∧ b = 2) ∨ (a = 3 ∧ b = 1) by omega) with ⟨rfl, rfl⟩ | ⟨rfl, rfl⟩ | ⟨rfl, rfl⟩ | ⟨rfl, rfl⟩ | ⟨rfl, rfl⟩ | ⟨rfl, rfl⟩ <;>
    rcases ten hd with rfl | rfl | rfl | rfl | rfl | rfl | rfl | rfl | rfl | rfl <;> simp only [muP, muQ, hp, hq, Nat.reduceAdd, Nat.reduceSub, Nat.reduceMod] <;> omega
theorem muP_lin (k : Nat) (p q r s : Int) : muP k (p + r) (q + s) = muP k p q + muP k r s ∧ muQ k (p + r) (q + s) = muQ k p q + muQ k r s := by
  unfold muP muQ; split <;> simp <;> omega
def isE (σ d : Nat) : Bool := decide (σ < 40) && (d == oD σ 0 || d == oD σ 1 || d == oD σ 2)
def ga (σ d : Nat) : Nat := if isE σ d then 0 else if isE σ ((d + 10 - 1) % 10) then 1 else if isE σ ((d + 10 - 2) % 10) then 2 else if isE σ ((d + 10 - 3) % 10) then 3 else if isE σ ((d + 10 - 4) % 10) then 4 else 5
def gb (σ d : Nat) : Nat := if isE σ d then 0 else if isE σ ((d + 1) % 10) then 1 else if isE σ ((d + 2) % 10) then 2 else if isE σ ((d + 3) % 10) then 3 else if isE σ ((d + 4) % 10) then 4 else 5
def gapC (σ d a b : Nat) : Bool := !(decide (1 ≤ a) && decide (1 ≤ b) && decide (a + b ≤ 4) && decide (a ≤ ga σ d) && decide (b ≤ gb σ d)) ||
  (decide (muP b (mP σ ((d + 10 - a) % 10)) (mQ σ ((d + 10 - a) % 10)) + muP a (mP σ ((d + b) % 10)) (mQ σ ((d + b) % 10)) = muP (a + b) (mP σ d) (mQ σ d)) &&
    decide (muQ b (mP σ ((d + 10 - a) % 10)) (mQ σ ((d + 10 - a) % 10)) + muQ a (mP σ ((d + b) % 10)) (mQ σ ((d + b) % 10)) = muQ (a + b) (mP σ d) (mQ σ d)))
theorem gap_all : ∀ σ, σ < 41 → ∀ d, d < 10 → ∀ a, a < 4 → ∀ b, b < 4 → gapC σ d a b = true := by decide +kernel
theorem gap (σ : Nat) (hσ : σ < 41) (d : Nat) (hd : d < 10) (a : Nat) (ha : a < 4) (b : Nat) (hb : b < 4) (h : 1 ≤ a ∧ 1 ≤ b ∧ a + b ≤ 4 ∧ a ≤ ga σ d ∧ b ≤ gb σ d) :
    muP b (mP σ ((d + 10 - a) % 10)) (mQ σ ((d + 10 - a) % 10)) + muP a (mP σ ((d + b) % 10)) (mQ σ ((d + b) % 10)) = muP (a + b) (mP σ d) (mQ σ d) ∧
    muQ b (mP σ ((d + 10 - a) % 10)) (mQ σ ((d + 10 - a) % 10)) + muQ a (mP σ ((d + b) % 10)) (mQ σ ((d + b) % 10)) = muQ (a + b) (mP σ d) (mQ σ d) := by
  have q := gap_all σ hσ d hd a ha b hb
  unfold gapC at q
  simp only [h.1, h.2.1, h.2.2.1, h.2.2.2.1, h.2.2.2.2, decide_true, Bool.and_true, Bool.not_true, Bool.false_or, Bool.and_eq_true, decide_eq_true_eq] at q
  exact q
theorem gap4 : ∀ σ, σ < 40 → ∀ d, d < 10 → ga σ d + gb σ d ≤ 4 ∧ (ga σ d = 0 ↔ gb σ d = 0) := by decide +kernel
theorem ga_E {σ d : Nat} (h : ga σ d < 5) (hd : d < 10) : isE σ ((d + 10 - ga σ d) % 10) = true := by
  unfold ga at h ⊢
  split
  · rename_i q; rw [show (d + 10 - 0) % 10 = d by omega]; exact q
  · split
    · assumption
    · split
      · assumption
      · split
        · assumption
        · split
          · assumption
          · simp_all
theorem gb_E {σ d : Nat} (h : gb σ d < 5) (hd : d < 10) : isE σ ((d + gb σ d) % 10) = true := by
  unfold gb at h ⊢
  split
  · rename_i q; rw [show (d + 0) % 10 = d by omega]; exact q
  · split
    · assumption
    · split
      · assumption
      · split
        · assumption
        · split
          · assumption
          · simp_all
/-- how far half (shape σ, at p) reaches beyond half (shape τ, at q) in direction d -/
def sP (σ τ d : Nat) (F : Int → Int) (p q : Int) : Int := HP d F p - HP d F q + (mP σ d + mP τ (op d))
def sQ (σ τ d : Nat) (F : Int → Int) (p q : Int) : Int := HQ d F p - HQ d F q + (mQ σ d + mQ τ (op d))
def sI (σ τ d : Nat) (F : Int → Int) (p q : Int) : Int := hI d F p - hI d F q + (mI σ d + mI τ (op d))
theorem sI_sg {F : Int → Int} {p q : Int} (hp' : nr F p) (hq' : nr F q) (σ τ d : Nat) : sgZ (sP σ τ d F p q) (sQ σ τ d F p q) = sgn (sI σ τ d F p q) := by
  have a := HP_in hp' d; have b := HP_in hq' d; have c := mP_in σ d; have e := mP_in τ (op d)
  rw [← fib_sg (by unfold sP; omega)]
  unfold sP sQ sI; rw [mI_e, mI_e]; unfold hI; congr 1; omega
theorem op_sub {d a : Nat} (hd : d < 10) (ha : a < 5) : op ((d + 10 - a) % 10) = (op d + 10 - a) % 10 := by unfold op; omega
theorem op_add {d b : Nat} : op ((d + b) % 10) = (op d + b) % 10 := by unfold op; omega
theorem sat_c {F : Int → Int} {p q : Int} {σ τ d a b : Nat} (hσ : σ < 40) (hτ : τ < 41) (hd : d < 10) (ha : 1 ≤ a) (hb : 1 ≤ b) (hab : a + b ≤ 4)
    (a1 : a ≤ ga σ d) (a2 : a ≤ ga τ (op d)) (b1 : b ≤ gb σ d) (b2 : b ≤ gb τ (op d)) :
    muP b (sP σ τ ((d + 10 - a) % 10) F p q) (sQ σ τ ((d + 10 - a) % 10) F p q) + muP a (sP σ τ ((d + b) % 10) F p q) (sQ σ τ ((d + b) % 10) F p q) = muP (a + b) (sP σ τ d F p q) (sQ σ τ d F p q) ∧
    muQ b (sP σ τ ((d + 10 - a) % 10) F p q) (sQ σ τ ((d + 10 - a) % 10) F p q) + muQ a (sP σ τ ((d + b) % 10) F p q) (sQ σ τ ((d + b) % 10) F p q) = muQ (a + b) (sP σ τ d F p q) (sQ σ τ d F p q) := by
  have g1 := gap σ (by omega) d hd a (by omega) b (by omega) ⟨ha, hb, hab, a1, b1⟩
  have g2 := gap τ hτ (op d) (op_lt d) a (by omega) b (by omega) ⟨ha, hb, hab, a2, b2⟩
  have g3 := mu_h hd ha hb hab (F p - F q) (F (p + 1) - F (q + 1)) (F (p + 2) - F (q + 2)) (F (p + 3) - F (q + 3))
  simp only [hp_sub, hq_sub] at g3
  unfold sP sQ HP HQ
  rw [op_sub hd (by omega), op_add]
  simp only [fun k p q r s => (muP_lin k p q r s).1, fun k p q r s => (muP_lin k p q r s).2] at g1 g2 g3 ⊢
  omega
theorem sat {F : Int → Int} {p q : Int} {σ τ : Nat} {k0 : Int} (hk : k0 = 0 ∨ k0 = 1) (hσ : σ < 40) (hτ : τ < 41)
    (h1 : ∀ e, e < 3 → k0 ≤ sgZ (sP σ τ (oD σ e) F p q) (sQ σ τ (oD σ e) F p q))
    (h2 : τ < 40 → ∀ e, e < 3 → k0 ≤ sgZ (sP σ τ (op (oD τ e)) F p q) (sQ σ τ (op (oD τ e)) F p q)) :
    ∀ d, d < 10 → k0 ≤ sgZ (sP σ τ d F p q) (sQ σ τ d F p q) := by
  have E1 : ∀ d, isE σ d = true → k0 ≤ sgZ (sP σ τ d F p q) (sQ σ τ d F p q) := by
    intro d h
    unfold isE at h
    simp only [Bool.and_eq_true, Bool.or_eq_true, beq_iff_eq, decide_eq_true_eq] at h
    rcases h.2 with (h | h) | h <;> rw [h]
    · exact h1 0 (by decide)
    · exact h1 1 (by decide)
    · exact h1 2 (by decide)
  have E2 : ∀ d, d < 10 → isE τ (op d) = true → k0 ≤ sgZ (sP σ τ d F p q) (sQ σ τ d F p q) := by
    intro d hd h
    unfold isE at h
    simp only [Bool.and_eq_true, Bool.or_eq_true, beq_iff_eq, decide_eq_true_eq] at h
    rw [← op_op hd]
    rcases h.2 with (g | g) | g <;> rw [g]
    · exact h2 h.1 0 (by decide)
    · exact h2 h.1 1 (by decide)
    · exact h2 h.1 2 (by decide)
  intro d hd
  have g := gap4 σ hσ d hd
  obtain ⟨a, ha⟩ : ∃ a, a = min (ga σ d) (ga τ (op d)) := ⟨_, rfl⟩
  obtain ⟨b, hb⟩ : ∃ b, b = min (gb σ d) (gb τ (op d)) := ⟨_, rfl⟩
  have A : k0 ≤ sgZ (sP σ τ ((d + 10 - a) % 10) F p q) (sQ σ τ ((d + 10 - a) % 10) F p q) := by
    rcases (show a = ga σ d ∨ (a = ga τ (op d) ∧ a < 5) by omega) with e | ⟨e, e2⟩
    · apply E1; rw [e]; exact ga_E (by omega) hd
    · apply E2 _ (Nat.mod_lt _ (by decide))
      rw [op_sub hd e2, e]; exact ga_E (by omega) (op_lt d)
  have B : k0 ≤ sgZ (sP σ τ ((d + b) % 10) F p q) (sQ σ τ ((d + b) % 10) F p q) := by
    rcases (show b = gb σ d ∨ (b = gb τ (op d) ∧ b < 5) by omega) with e | ⟨e, e2⟩
    · apply E1; rw [e]; exact gb_E (by omega) hd
    · apply E2 _ (Nat.mod_lt _ (by decide))
      rw [op_add, e]; exact gb_E (by omega) (op_lt d)
  rcases (show a = 0 ∨ b = 0 ∨ (1 ≤ a ∧ 1 ≤ b) by omega) with e | e | ⟨e1, e2⟩
  · rw [e, show (d + 10 - 0) % 10 = d by omega] at A; exact A
  · rw [e, show (d + 0) % 10 = d by omega] at B; exact B
  · have c := sat_c (F := F) (p := p) (q := q) hσ hτ hd e1 e2 (by omega) (by omega) (by omega) (by omega) (by omega)
    rw [← mu_sg (k := a + b) (by omega), ← c.1, ← c.2]
    rw [← mu_sg (k := b) (by omega)] at A
    rw [← mu_sg (k := a) (by omega)] at B
    have s := sgZ_add (Int.le_trans (show 0 ≤ k0 by omega) A) (Int.le_trans (show 0 ≤ k0 by omega) B)
    omega
