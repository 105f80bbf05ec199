/-! LINES -/
/-- on a line heights run alike, or the other way -/
theorem line_h {D c : Nat} (hD : D < 10) (hc : 1 ≤ c ∧ c ≤ 4) {x0 x1 x2 x3 : Int} (h1 : hp D x0 x1 x2 x3 = 0) (h2 : hq D x0 x1 x2 x3 = 0) : hp ((D + c) % 10) x0 x1 x2 x3 = muP c (hp ((D + 1) % 10) x0 x1 x2 x3) (hq ((D + 1) % 10) x0 x1 x2 x3) ∧ hq ((D + c) % 10) x0 x1 x2 x3 = muQ c (hp ((D + 1) % 10) x0 x1 x2 x3) (hq ((D + 1) % 10) x0 x1 x2 x3) := by
  rcases (show c = 1 ∨ c = 2 ∨ c = 3 ∨ c = 4 by omega) with rfl | rfl | rfl | rfl <;>
    rcases ten hD with rfl | rfl | rfl | rfl | rfl | rfl | rfl | rfl | rfl | rfl <;> simp only [muP, muQ, hp, hq, Nat.reduceAdd, Nat.reduceMod] at h1 h2 ⊢ <;> first | exact ⟨trivial, trivial⟩ | omega
theorem line_1 {F : Int → Int} {x z : Int} {D c : Nat} (hD : D < 10) (hc : 1 ≤ c ∧ c ≤ 4) (nx : nr F x) (nz : nr F z) (h : hI D F z = hI D F x) : sgn (hI ((D + c) % 10) F z - hI ((D + c) % 10) F x) = sgn (hI ((D + 1) % 10) F z - hI ((D + 1) % 10) F x) := by
  obtain ⟨a, b⟩ := hI_z nx nz h
  have l := line_h hD hc a b
  rw [← hI_sg nx nz, ← hI_sg nx nz]
  rw [hp_sub, hp_sub, hq_sub, hq_sub] at l
  unfold HP HQ
  rw [l.1, l.2, mu_sg hc]
/-- pieces that share a piece: no direction parts their halves -/
theorem line_B {F : Int → Int} {x z : Int} {D d : Nat} (hD : D < 10) (hd : d < 10) (nx : nr F x) (nz : nr F z) (h : hI D F z = hI D F x) (c : ¬ (d = D ∨ d = op D)) (e : (d + 10 - D) % 10 < 5) (w : 0 < hI d F z - hI d F x) : 0 < hI ((D + 1) % 10) F z - hI ((D + 1) % 10) F x := by
  have l := line_1 (c := (d + 10 - D) % 10) hD (by omega) nx nz h
  rw [show (D + (d + 10 - D) % 10) % 10 = d by omega] at l
  rw [sg_pos] at w ⊢
  rw [← l]; exact w
theorem line_C {F : Int → Int} {x z : Int} {D d : Nat} (hD : D < 10) (hd : d < 10) (nx : nr F x) (nz : nr F z) (h : hI D F z = hI D F x) (c : ¬ (d = D ∨ d = op D)) (e : 5 ≤ (d + 10 - D) % 10) (w : 0 < hI d F z - hI d F x) : hI ((D + 1) % 10) F z - hI ((D + 1) % 10) F x < 0 := by
  have l := line_1 (c := (op d + 10 - D) % 10) hD (by unfold op at c ⊢; omega) nx nz h
  rw [show (D + (op d + 10 - D) % 10) % 10 = op d by unfold op; omega, hI_op hd, hI_op hd] at l
  have b1 := sgn_b (-hI d F z - -hI d F x); have b3 := sgn_b (hI ((D + 1) % 10) F z - hI ((D + 1) % 10) F x)
  omega
theorem ol_reach {F : Int → Int} {x y p q : Int} {κ D κ' D' : Nat} (h : ed F x y κ D) (h' : ed F p q κ' D') (nx : nr F x) (ny : nr F y) (np : nr F p) (nq : nr F q) (o : olZ F x y p q = true) {d : Nat} (hd : d < 10) : min (hI d F p) (hI d F q) ≤ max (hI d F x) (hI d F y) := by
  obtain ⟨a, b, c, e⟩ := (ol_iff h h' nx ny np nq).mp o
  have e1 := ed_h h
  have hD := h.2.1
  rcases Int.lt_or_le (max (hI d F x) (hI d F y)) (min (hI d F p) (hI d F q)) with w | w
  · exfalso
    by_cases g : d = D ∨ d = op D
    · rcases g with rfl | rfl
      · omega
      · rw [hI_op hD, hI_op hD, hI_op hD, hI_op hD] at w; omega
    · rcases (show (d + 10 - D) % 10 < 5 ∨ 5 ≤ (d + 10 - D) % 10 by omega) with i | i
      · have v1 := line_B hD hd nx np a g i (by omega)
        have v2 := line_B hD hd nx nq b g i (by omega)
        omega
      · have v1 := line_C hD hd ny np (by omega) g i (by omega)
        have v2 := line_C hD hd ny nq (by omega) g i (by omega)
        omega
  · exact w
