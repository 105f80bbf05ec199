/-! CLASHES: by strips as by sides -/
theorem sI_sym {σ τ d : Nat} (hd : d < 10) (F : Int → Int) (p q : Int) : sI τ σ (op d) F q p = sI σ τ d F p q := by
  unfold sI; rw [op_op hd, hI_op hd, hI_op hd]; omega
theorem any3 (f : Int → Bool) : anyZ 3 f = (f 0 || f 1 || f 2) := by
  show (((false || f 0) || f 1) || f 2) = _
  rw [Bool.false_or]
theorem any5 (f : Int → Bool) : anyZ 5 f = (f 0 || f 1 || f 2 || f 3 || f 4) := by
  show (((((false || f 0) || f 1) || f 2) || f 3) || f 4) = _
  rw [Bool.false_or]
theorem mI_neg {σ d : Nat} (hσ : σ < 41) (hd : d < 10) : min (zI σ 0 d) (min (zI σ 1 d) (zI σ 2 d)) = - mI σ (op d) := by
  rw [← mI_mx, e_op σ hσ 0 (by decide) d hd, e_op σ hσ 1 (by decide) d hd, e_op σ hσ 2 (by decide) d hd]
  omega
theorem oD_lt : ∀ σ, σ < 40 → ∀ e, e < 3 → oD σ e < 10 := by decide +kernel
/-- which half lies beyond an edge -/
theorem paf_iff {F : Int → Int} {n o : Int} {σ τ e : Nat} (hn : sh F (12 * n) σ) (ho : sh F (12 * o) τ) (nn : nr3 F (12 * n)) (no : nr3 F (12 * o)) (he : e < 3) : paf F n o e = true ↔ sI σ τ (oD σ e) F (12 * n) (12 * o) ≤ 0 := by
  have hσ := hn.1
  have hD := (kedge σ hσ e he).1
  have ed1 := sh_ed hn he
  have q1 : (4 * (e : Int) + 12 * n) = 12 * n + 4 * (e : Int) := by omega
  have q2 : (4 * (((e : Int) + 1) % 3) + 12 * n) = 12 * n + 4 * (((e + 1) % 3 : Nat) : Int) := by omega
  have q3 : (4 * (((e : Int) + 2) % 3) + 12 * n) = 12 * n + 4 * (((e + 2) % 3 : Nat) : Int) := by omega
  have ow : owZ F n e = sO σ := by
    unfold owZ
    rw [q1, q2, q3, ed_si ed1 (nr3_c nn he) (nr3_c nn (by omega)), (sh_h hn he _).2.2, (sh_h hn (c := (e + 2) % 3) (by omega) _).2.2, ← (kown σ hσ e he).1]
    congr 1; omega
  have si : ∀ k : Nat, k < 3 → siZ F (4 * (e : Int) + 12 * n) (4 * (((e : Int) + 1) % 3) + 12 * n) (4 * (k : Int) + 12 * o) = sgn (hI (eD σ e) F (12 * o) + zI τ k (eD σ e) - (hI (eD σ e) F (12 * n) + zI σ e (eD σ e))) := by
    intro k hk
    rw [q1, q2, show 4 * (k : Int) + 12 * o = 12 * o + 4 * (k : Int) by omega, ed_si ed1 (nr3_c nn he) (nr3_c no hk), (sh_h hn he _).2.2, (sh_h ho hk _).2.2]
  have s0 := si 0 (by decide); have s1 := si 1 (by decide); have s2 := si 2 (by decide)
  have ko := kown σ hσ e he
  have m1 : zI σ e (oD σ e) = mI σ (oD σ e) := by rw [mI_e, ← ko.2.1, ← ko.2.2]; rfl
  unfold paf
  rw [any3, ow]
  show (!(decide (siZ F (4 * (e : Int) + 12 * n) (4 * (((e : Int) + 1) % 3) + 12 * n) (4 * ((0 : Nat) : Int) + 12 * o) = _) || decide (siZ F (4 * (e : Int) + 12 * n) (4 * (((e : Int) + 1) % 3) + 12 * n) (4 * ((1 : Nat) : Int) + 12 * o) = _) || decide (siZ F (4 * (e : Int) + 12 * n) (4 * (((e : Int) + 1) % 3) + 12 * n) (4 * ((2 : Nat) : Int) + 12 * o) = _))) = true ↔ _
  rw [s0, s1, s2]
  simp only [Bool.not_eq_true', Bool.or_eq_false_iff, decide_eq_false_iff_not]
  have b0 := sgn_b (hI (eD σ e) F (12 * o) + zI τ 0 (eD σ e) - (hI (eD σ e) F (12 * n) + zI σ e (eD σ e)))
  have b1 := sgn_b (hI (eD σ e) F (12 * o) + zI τ 1 (eD σ e) - (hI (eD σ e) F (12 * n) + zI σ e (eD σ e)))
  have b2 := sgn_b (hI (eD σ e) F (12 * o) + zI τ 2 (eD σ e) - (hI (eD σ e) F (12 * n) + zI σ e (eD σ e)))
  unfold oD at m1 ⊢
  unfold sO sI
  by_cases l : σ / 10 % 2 = 0
  · rw [if_pos l] at m1 ⊢
    rw [if_pos l, op_op hD, hI_op hD, hI_op hD, ← m1, e_op σ (by omega) e he _ hD, ← mI_mx τ]
    omega
  · rw [if_neg l] at m1 ⊢
    have mn := mI_neg (σ := τ) (by have := ho.1; omega) hD
    rw [if_neg l, ← m1]
    omega
theorem paZ_iff {F : Int → Int} {n o : Int} {σ τ : Nat} (hn : sh F (12 * n) σ) (ho : sh F (12 * o) τ) (nn : nr3 F (12 * n)) (no : nr3 F (12 * o)) : paZ F n o = false ↔ ∀ e, e < 3 → 0 < sI σ τ (oD σ e) F (12 * n) (12 * o) := by
  have p0 := paf_iff hn ho nn no (e := 0) (by decide)
  have p1 := paf_iff hn ho nn no (e := 1) (by decide)
  have p2 := paf_iff hn ho nn no (e := 2) (by decide)
  unfold paZ
  rw [any3]
  show (paf F n o ((0 : Nat) : Int) || paf F n o ((1 : Nat) : Int) || paf F n o ((2 : Nat) : Int)) = false ↔ _
  rw [Bool.or_eq_false_iff, Bool.or_eq_false_iff, ← Bool.not_eq_true, ← Bool.not_eq_true, ← Bool.not_eq_true, p0, p1, p2]
  constructor
  · rintro ⟨⟨a, b⟩, c⟩ e he
    rcases (show e = 0 ∨ e = 1 ∨ e = 2 by omega) with rfl | rfl | rfl <;> omega
  · intro h
    have h0 := h 0 (by decide); have h1 := h 1 (by decide); have h2 := h 2 (by decide)
    exact ⟨⟨by omega, by omega⟩, by omega⟩
theorem sg_pos {x : Int} : 0 < x ↔ 1 ≤ sgn x := by have := sgn_b x; omega
theorem sg_nn {x : Int} : 0 ≤ x ↔ 0 ≤ sgn x := by have := sgn_b x; omega
theorem no_part {F : Int → Int} {n o : Int} {σ τ : Nat} (hn : sh F (12 * n) σ) (ho : sh F (12 * o) τ) (nn : nr3 F (12 * n)) (no : nr3 F (12 * o)) : (paZ F n o = false ∧ paZ F o n = false) ↔ ∀ d, d < 10 → 0 < sI σ τ d F (12 * n) (12 * o) := by
  rw [paZ_iff hn ho nn no, paZ_iff ho hn no nn]
  constructor
  · rintro ⟨a, b⟩ d hd
    rw [sg_pos, ← sI_sg nn.1 no.1]
    refine sat (k0 := 1) (Or.inr rfl) hn.1 (by have := ho.1; omega) ?_ ?_ d hd
    · intro e he; rw [sI_sg nn.1 no.1, ← sg_pos]; exact a e he
    · intro _ e he
      rw [sI_sg nn.1 no.1, ← sg_pos]
      have q := b e he
      rw [← sI_sym (oD_lt τ ho.1 e he)] at q
      exact q
  · intro h
    exact ⟨fun e he => h _ (oD_lt σ hn.1 e he), fun e he => by
      rw [← sI_sym (oD_lt τ ho.1 e he)]; exact h _ (op_lt _)⟩
/-- strips that have been measured -/
def ms (Lo Hi F : Int → Int) (n : Int) : Prop := ∀ k : Int, 0 ≤ k → k < 5 → Lo (k + 5 * n) = lowZ F n k ∧ Hi (k + 5 * n) = higZ F n k
theorem low_e {F : Int → Int} {n : Int} {σ k : Nat} (hn : sh F (12 * n) σ) (hk : k < 5) : lowZ F n k = hI k F (12 * n) - mI σ (op k) ∧ higZ F n k = hI k F (12 * n) + mI σ k := by
  have m1 := mI_mx σ k
  have m2 := mI_neg (σ := σ) (d := k) (by have := hn.1; omega) (by omega)
  have a := (sh_h hn (c := 0) (by decide) k).2.2; have b := (sh_h hn (c := 1) (by decide) k).2.2; have c := (sh_h hn (c := 2) (by decide) k).2.2
  rw [show 12 * n + 4 * ((0 : Nat) : Int) = 12 * n by omega] at a
  rw [show 12 * n + 4 * ((1 : Nat) : Int) = 12 * n + 4 by omega] at b
  rw [show 12 * n + 4 * ((2 : Nat) : Int) = 12 * n + 8 by omega] at c
  unfold lowZ higZ
  rw [hZ_e hk, hZ_e hk, hZ_e hk]
  omega
theorem sI_5 {σ τ k : Nat} (hk : k < 5) (F : Int → Int) (p q : Int) : sI σ τ (k + 5) F p q = - hI k F p + hI k F q + (mI σ (op k) + mI τ k) := by
  have e : k + 5 = op k := by unfold op; omega
  unfold sI; rw [e, hI_op (by omega), hI_op (by omega), op_op (by omega)]; omega
theorem tens {P : Nat → Prop} : (∀ d, d < 10 → P d) ↔ (∀ k, k < 5 → P k ∧ P (k + 5)) := by
  constructor
  · intro h k hk; exact ⟨h k (by omega), h (k + 5) (by omega)⟩
  · intro h d hd
    rcases (show d < 5 ∨ 5 ≤ d by omega) with c | c
    · exact (h d c).1
    · have := (h (d - 5) (by omega)).2; rw [show d - 5 + 5 = d by omega] at this; exact this
theorem ov_iff {Lo Hi F : Int → Int} {n o : Int} {σ τ : Nat} (hn : sh F (12 * n) σ) (ho : sh F (12 * o) τ) (sn : ms Lo Hi F n) (so : ms Lo Hi F o) : ovZ Lo Hi n o = true ↔ ∀ d, d < 10 → 0 < sI σ τ d F (12 * n) (12 * o) := by
  have key : ∀ k : Nat, k < 5 → (ovf Lo Hi n o k = false ↔ (0 < sI σ τ k F (12 * n) (12 * o) ∧ 0 < sI σ τ (k + 5) F (12 * n) (12 * o))) := by
    intro k hk
    have a := sn k (by omega) (by omega); have b := so k (by omega) (by omega)
    have c := low_e hn hk; have e := low_e ho hk
    unfold ovf
    rw [a.1, a.2, b.1, b.2, c.1, c.2, e.1, e.2, sI_5 hk]
    unfold sI
    simp only [decide_eq_false_iff_not]
    omega
  rw [tens]
  unfold ovZ
  rw [any5, Bool.not_eq_true', Bool.or_eq_false_iff, Bool.or_eq_false_iff, Bool.or_eq_false_iff, Bool.or_eq_false_iff]
  have k0 := key 0 (by decide); have k1 := key 1 (by decide); have k2 := key 2 (by decide); have k3 := key 3 (by decide); have k4 := key 4 (by decide)
  constructor
  · rintro ⟨⟨⟨⟨a, b⟩, c⟩, d⟩, e⟩ k hk
    rcases five hk with rfl | rfl | rfl | rfl | rfl
    · exact k0.mp a
    · exact k1.mp b
    · exact k2.mp c
    · exact k3.mp d
    · exact k4.mp e
  · intro h
    exact ⟨⟨⟨⟨k0.mpr (h 0 (by decide)), k1.mpr (h 1 (by decide))⟩, k2.mpr (h 2 (by decide))⟩, k3.mpr (h 3 (by decide))⟩, k4.mpr (h 4 (by decide))⟩
theorem ap_iff {Lo Hi F : Int → Int} {n o : Int} {σ τ : Nat} (hn : sh F (12 * n) σ) (ho : sh F (12 * o) τ) (sn : ms Lo Hi F n) (so : ms Lo Hi F o) : apZ Lo Hi n o = false ↔ ∀ d, d < 10 → 0 ≤ sI σ τ d F (12 * n) (12 * o) := by
  have key : ∀ k : Nat, k < 5 → (apf Lo Hi n o k = false ↔ (0 ≤ sI σ τ k F (12 * n) (12 * o) ∧ 0 ≤ sI σ τ (k + 5) F (12 * n) (12 * o))) := by
    intro k hk
    have a := sn k (by omega) (by omega); have b := so k (by omega) (by omega)
    have c := low_e hn hk; have e := low_e ho hk
    unfold apf
    rw [a.1, a.2, b.1, b.2, c.1, c.2, e.1, e.2, sI_5 hk]
    unfold sI
    simp only [decide_eq_false_iff_not]
    omega
  rw [tens]
  unfold apZ
  rw [any5, Bool.or_eq_false_iff, Bool.or_eq_false_iff, Bool.or_eq_false_iff, Bool.or_eq_false_iff]
  have k0 := key 0 (by decide); have k1 := key 1 (by decide); have k2 := key 2 (by decide); have k3 := key 3 (by decide); have k4 := key 4 (by decide)
  constructor
  · rintro ⟨⟨⟨⟨a, b⟩, c⟩, d⟩, e⟩ k hk
    rcases five hk with rfl | rfl | rfl | rfl | rfl
    · exact k0.mp a
    · exact k1.mp b
    · exact k2.mp c
    · exact k3.mp d
    · exact k4.mp e
  · intro h
    exact ⟨⟨⟨⟨k0.mpr (h 0 (by decide)), k1.mpr (h 1 (by decide))⟩, k2.mpr (h 2 (by decide))⟩, k3.mpr (h 3 (by decide))⟩, k4.mpr (h 4 (by decide))⟩
/-! halves that aren't apart are near -/
theorem m_phi : ∀ σ, σ < 41 → ∀ d, d < 10 → 0 ≤ sgZ (0 - mP σ d) (1 - mQ σ d) := by decide +kernel
theorem near_t {F : Int → Int} {n o : Int} {σ τ : Nat} (hσ : σ < 41) (hτ : τ < 41) (nn : nr F (12 * n)) (no : nr F (12 * o)) (h : ∀ d, d < 10 → 0 ≤ sI σ τ d F (12 * n) (12 * o)) : neZ F n o = true := by
  have g : ∀ d, d < 10 → 0 ≤ sgZ (HP d F (12 * n) - HP d F (12 * o)) (HQ d F (12 * n) - HQ d F (12 * o) + 2) := by
    intro d hd
    have a := h d hd
    rw [sg_nn, ← sI_sg nn no] at a
    have b := (sgZ_add (m_phi σ hσ d hd) (m_phi τ hτ (op d) (op_lt d))).1
    have c := (sgZ_add a b).1
    unfold sP sQ at c
    rw [show HP d F (12 * n) - HP d F (12 * o) = HP d F (12 * n) - HP d F (12 * o) + (mP σ d + mP τ (op d)) + (0 - mP σ d + (0 - mP τ (op d))) by omega, show HQ d F (12 * n) - HQ d F (12 * o) + 2 = HQ d F (12 * n) - HQ d F (12 * o) + (mQ σ d + mQ τ (op d)) + (1 - mQ σ d + (1 - mQ τ (op d))) by omega]
    exact c
  obtain ⟨w0, e0⟩ : ∃ w, w = F (12 * o) - F (12 * n) := ⟨_, rfl⟩
  obtain ⟨w1, e1⟩ : ∃ w, w = F (12 * o + 1) - F (12 * n + 1) := ⟨_, rfl⟩
  obtain ⟨w2, e2⟩ : ∃ w, w = F (12 * o + 2) - F (12 * n + 2) := ⟨_, rfl⟩
  obtain ⟨w3, e3⟩ : ∃ w, w = F (12 * o + 3) - F (12 * n + 3) := ⟨_, rfl⟩
  have g' : ∀ d, d < 10 → 0 ≤ sgZ (0 - hp d w0 w1 w2 w3) (2 - hq d w0 w1 w2 w3) := by
    intro d hd
    have := g d hd
    unfold HP HQ at this
    rw [e0, e1, e2, e3, hp_sub, hq_sub]
    have q : ∀ a b : Int, 0 - (a - b) = b - a := by intro a b; omega
    have q2 : ∀ a b : Int, 2 - (a - b) = b - a + 2 := by intro a b; omega
    rw [q, q2]; exact this
  unfold neZ nqZ
  rw [← e0, ← e1, ← e2, ← e3]
  apply decide_eq_true
  have h0 := g' 0 (by decide); have h5 := g' 5 (by decide)
  have a1 := (sgZ_add (g' 9 (by decide)) (g' 6 (by decide))).1
  have a2 := (sgZ_add (g' 4 (by decide)) (g' 1 (by decide))).1
  simp only [hp, hq] at h0 h5 a1 a2
  have A := sgZ_mul (show 0 ≤ sgZ 3 (-1) by decide) (sgZ_mul h0 h5)
  have B := sgZ_mul a1 a2
  have C := (sgZ_add A B).1
  have D := (sgZ_add C (show 0 ≤ sgZ 40 (-20) by decide)).1
  rcases Int.lt_or_le 0 (sgZ (2 * cj0 w0 w1 w2 w3 w0 w1 w2 w3 - cj1 w0 w1 w2 w3 w0 w1 w2 w3 - 32) (cj1 w0 w1 w2 w3 w0 w1 w2 w3 - cj2 w0 w1 w2 w3 w0 w1 w2 w3 - cj3 w0 w1 w2 w3 w0 w1 w2 w3)) with c | c
  · exfalso
    have E := (sgZ_add (Int.le_of_lt c) (Int.le_of_lt c)).2 c
    have G := (sgZ_add (Int.le_of_lt E) D).2 E
    unfold cj0 cj1 cj2 cj3 at G
    have z : ∀ p q : Int, p = 0 → q = 0 → 0 < sgZ p q → False := by
      rintro p q rfl rfl h; exact absurd h (by decide)
    refine z _ _ ?_ ?_ G <;> grind
  · exact c
