/-! INFLATE: the same answers and states -/
theorem dv_w {W F : Int → Int} {n : Int} (h : dvA W F n) : wt W 0 = pt (wt F (12 * n)) (wt F (12 * n)) ∧ wt W 4 = pt (wt F (12 * n + 4)) (wt F (12 * n + 4)) ∧ wt W 8 = pt (wt F (12 * n + 8)) (wt F (12 * n + 8)) := by
  obtain ⟨a0, a1, a2, a3, b0, b1, b2, b3, c0, c1, c2, c3⟩ := h
  unfold wt pt vA vS
  simp only [Prod.mk.injEq, Int.add_assoc, Int.reduceAdd, Int.zero_add]
  rw [a0, a1, a2, a3, b0, b1, b2, b3, c0, c1, c2, c3]
  refine ⟨⟨?_, ?_, ?_, ?_⟩, ⟨?_, ?_, ?_, ?_⟩, ?_, ?_, ?_, ?_⟩ <;> omega
theorem dv_c {W : Int → Int} {x y r : Int} {X Y : V4} (h : dvC W x y r) (hx : wt W x = pt X X) (hy : wt W y = pt Y Y) : wt W r = pt X Y := by
  obtain ⟨a, b, c, d⟩ := h
  obtain ⟨X0, X1, X2, X3⟩ := X
  obtain ⟨Y0, Y1, Y2, Y3⟩ := Y
  unfold wt pt vA vS at *
  simp only [Prod.mk.injEq] at *
  obtain ⟨x0, x1, x2, x3⟩ := hx
  obtain ⟨y0, y1, y2, y3⟩ := hy
  rw [a, b, c, d, x0, x1, x2, x3, y0, y1, y2, y3]
  refine ⟨?_, ?_, ?_, ?_⟩ <;> omega
/-- a list of halves comes behind the others -/
def app (Tn Fn : Int → Int) (zn : Int) (l : List Hf) (T1 F1 : Int → Int) (z1 : Int) : Prop := z1 = zn + l.length ∧ (∀ j, 0 ≤ j → j < zn → row T1 F1 j = row Tn Fn j) ∧ ∀ (i : Nat) (h : i < l.length), row T1 F1 (zn + i) = l[i]
theorem app_2 {Tn Fn T1 F1 : Int → Int} {zn z1 : Int} {k1 k2 : Hf} (h1 : z1 = zn + 2) (h2 : ∀ j, 0 ≤ j → j < zn → row T1 F1 j = row Tn Fn j) (h3 : row T1 F1 zn = k1) (h4 : row T1 F1 (zn + 1) = k2) : app Tn Fn zn [k1, k2] T1 F1 z1 := by
  refine ⟨h1, h2, fun i hi => ?_⟩
  have hi : i < 2 := hi
  rcases (show i = 0 ∨ i = 1 by omega) with rfl | rfl
  · show row T1 F1 (zn + 0) = k1
    rw [Int.add_zero]; exact h3
  · exact h4
theorem app_3 {Tn Fn T1 F1 : Int → Int} {zn z1 : Int} {k1 k2 k3 : Hf} (h1 : z1 = zn + 3) (h2 : ∀ j, 0 ≤ j → j < zn → row T1 F1 j = row Tn Fn j) (h3 : row T1 F1 zn = k1) (h4 : row T1 F1 (zn + 1) = k2) (h5 : row T1 F1 (zn + 2) = k3) : app Tn Fn zn [k1, k2, k3] T1 F1 z1 := by
  refine ⟨h1, h2, fun i hi => ?_⟩
  have hi : i < 3 := hi
  rcases (show i = 0 ∨ i = 1 ∨ i = 2 by omega) with rfl | rfl | rfl
  · show row T1 F1 (zn + 0) = k1
    rw [Int.add_zero]; exact h3
  · exact h4
  · exact h5
theorem kids_0 {T F : Int → Int} {n : Int} (h : T n = 0) : kids (row T F n) = [(0, pt (wt F (12 * n + 8)) (wt F (12 * n + 8)), pt (wt F (12 * n)) (wt F (12 * n + 4)), pt (wt F (12 * n + 4)) (wt F (12 * n + 4))), (1, pt (wt F (12 * n)) (wt F (12 * n + 4)), pt (wt F (12 * n + 8)) (wt F (12 * n + 8)), pt (wt F (12 * n)) (wt F (12 * n)))] := if_pos h
theorem kids_1 {T F : Int → Int} {n : Int} (h : T n = 1) : kids (row T F n) = [(1, pt (wt F (12 * n + 4)) (wt F (12 * n + 8)), pt (wt F (12 * n + 8)) (wt F (12 * n + 8)), pt (wt F (12 * n)) (wt F (12 * n))), (1, pt (wt F (12 * n + 4)) (wt F (12 * n)), pt (wt F (12 * n + 4)) (wt F (12 * n + 8)), pt (wt F (12 * n + 4)) (wt F (12 * n + 4))), (0, pt (wt F (12 * n + 4)) (wt F (12 * n + 8)), pt (wt F (12 * n + 4)) (wt F (12 * n)), pt (wt F (12 * n)) (wt F (12 * n)))] := if_neg (by show ¬ T n = 0; omega)
theorem dvP_app {T F Tn Fn Tn' Fn' W : Int → Int} {n zn zn' : Int} (h : dvP T F n zn Tn Fn zn' Tn' Fn' W) : app Tn Fn zn (kids (row T F n)) Tn' Fn' zn' := by
  obtain ⟨a, h⟩ := h
  obtain ⟨w0, w4, w8⟩ := dv_w a
  rcases h with ⟨t, c, rfl, rfl, rfl⟩ | ⟨t, c, c', rfl, rfl, rfl⟩
  · have w12 := dv_c c w0 w4
    rw [kids_0 t]
    refine app_2 rfl (fun j h0 h1 => ?_) ?_ ?_
    · rw [row_rF, row_rF, rF_wr_out (by omega), rF_wr_out (by omega), uZ_n (by omega), uZ_n (by omega)]
    · rw [row_rF, rF_wr_out (by omega), rF_wr, uZ_n (by omega), uZ_s, w8, w12, w4]
    · rw [row_rF, rF_wr, uZ_s, w8, w12, w0]
  · have w12 := dv_c c w4 w0
    have w16 := dv_c c' w4 w8
    rw [kids_1 t]
    refine app_3 rfl (fun j h0 h1 => ?_) ?_ ?_ ?_
    · rw [row_rF, row_rF, rF_wr_out (by omega), rF_wr_out (by omega), rF_wr_out (by omega), uZ_n (by omega), uZ_n (by omega), uZ_n (by omega)]
    · rw [row_rF, rF_wr_out (by omega), rF_wr_out (by omega), rF_wr, uZ_n (by omega), uZ_n (by omega), uZ_s, w16, w8, w0]
    · rw [row_rF, rF_wr_out (by omega), rF_wr, uZ_n (by omega), uZ_s, w12, w16, w4]
    · rw [row_rF, rF_wr, uZ_s, w16, w12, w0]
theorem mdP_app {T F Tn Fn Tn' Fn' W : Int → Int} {n zn zn' : Int} (h : mdP T F n zn Tn Fn zn' Tn' Fn' W) : app Tn Fn zn (kids (row T F n)) Tn' Fn' zn' ∧ ∀ k ∈ kids (row T F n), nH k = true := by
  obtain ⟨a, ⟨f0, f4, f8⟩, h⟩ := h
  obtain ⟨w0, w4, w8⟩ := dv_w a
  have g0 : nV (wt W 0) = true := f0
  have g4 : nV (wt W 4) = true := f4
  have g8 : nV (wt W 8) = true := f8
  rcases h with ⟨t, c, f12, rfl, rfl, rfl⟩ | ⟨t, c, c', ⟨f12, f16⟩, rfl, rfl, rfl⟩
  · have w12 := dv_c c w0 w4
    have g12 : nV (wt W 12) = true := f12
    rw [kids_0 t]
    refine ⟨app_2 rfl (fun j h0 h1 => ?_) ?_ ?_, ?_⟩
    · rw [row_rF, row_rF, rF_em_out (by omega), rF_em_out (by omega), uZ_n (by omega), uZ_n (by omega)]
    · rw [row_rF, rF_em_out (by omega), rF_em, uZ_n (by omega), uZ_s, ← w8, ← w12, ← w4]; rfl
    · rw [row_rF, rF_em, uZ_s, ← w8, ← w12, ← w0]; rfl
    · intro k hk
      simp only [List.mem_cons, List.not_mem_nil, or_false] at hk
      rcases hk with rfl | rfl
      · show (nV _ && (nV _ && nV _)) = true
        rw [← w8, ← w12, ← w4, g8, g12, g4]; rfl
      · show (nV _ && (nV _ && nV _)) = true
        rw [← w8, ← w12, ← w0, g8, g12, g0]; rfl
  · have w12 := dv_c c w4 w0
    have w16 := dv_c c' w4 w8
    have g12 : nV (wt W 12) = true := f12
    have g16 : nV (wt W 16) = true := f16
    rw [kids_1 t]
    refine ⟨app_3 rfl (fun j h0 h1 => ?_) ?_ ?_ ?_, ?_⟩
    · rw [row_rF, row_rF, rF_em_out (by omega), rF_em_out (by omega), rF_em_out (by omega), uZ_n (by omega), uZ_n (by omega), uZ_n (by omega)]
    · rw [row_rF, rF_em_out (by omega), rF_em_out (by omega), rF_em, uZ_n (by omega), uZ_n (by omega), uZ_s, ← w16, ← w8, ← w0]; rfl
    · rw [row_rF, rF_em_out (by omega), rF_em, uZ_n (by omega), uZ_s, ← w12, ← w16, ← w4]; rfl
    · rw [row_rF, rF_em, uZ_s, ← w16, ← w12, ← w0]; rfl
    · intro k hk
      simp only [List.mem_cons, List.not_mem_nil, or_false] at hk
      rcases hk with rfl | rfl | rfl
      · show (nV _ && (nV _ && nV _)) = true
        rw [← w16, ← w8, ← w0, g16, g8, g0]; rfl
      · show (nV _ && (nV _ && nV _)) = true
        rw [← w12, ← w16, ← w4, g12, g16, g4]; rfl
      · show (nV _ && (nV _ && nV _)) = true
        rw [← w16, ← w12, ← w0, g16, g12, g0]; rfl
theorem mdX_far {T F W : Int → Int} {n : Int} (h : mdX T F n W) : ¬ ∀ k ∈ kids (row T F n), nH k = true := by
  intro q
  obtain ⟨a, h⟩ := h
  obtain ⟨w0, w4, w8⟩ := dv_w a
  rcases h with ⟨t, c, f⟩ | ⟨t, c, c', f⟩
  · have w12 := dv_c c w0 w4
    rw [kids_0 t] at q
    have q1 := q _ (List.mem_cons_self ..)
    have q2 := q _ (List.mem_cons_of_mem _ (List.mem_cons_self ..))
    have q1 : (nV (pt (wt F (12 * n + 8)) (wt F (12 * n + 8))) && (nV (pt (wt F (12 * n)) (wt F (12 * n + 4))) && nV (pt (wt F (12 * n + 4)) (wt F (12 * n + 4))))) = true := q1
    have q2 : (nV (pt (wt F (12 * n)) (wt F (12 * n + 4))) && (nV (pt (wt F (12 * n + 8)) (wt F (12 * n + 8))) && nV (pt (wt F (12 * n)) (wt F (12 * n))))) = true := q2
    rw [← w8, ← w12, ← w4] at q1
    rw [← w8, ← w12, ← w0] at q2
    simp only [Bool.and_eq_true] at q1 q2
    exact f ⟨q2.2.2, q1.2.2, q1.1, q1.2.1⟩
  · have w12 := dv_c c w4 w0
    have w16 := dv_c c' w4 w8
    rw [kids_1 t] at q
    have q1 := q _ (List.mem_cons_self ..)
    have q2 := q _ (List.mem_cons_of_mem _ (List.mem_cons_self ..))
    have q1 : (nV (pt (wt F (12 * n + 4)) (wt F (12 * n + 8))) && (nV (pt (wt F (12 * n + 8)) (wt F (12 * n + 8))) && nV (pt (wt F (12 * n)) (wt F (12 * n))))) = true := q1
    have q2 : (nV (pt (wt F (12 * n + 4)) (wt F (12 * n))) && (nV (pt (wt F (12 * n + 4)) (wt F (12 * n + 8))) && nV (pt (wt F (12 * n + 4)) (wt F (12 * n + 4))))) = true := q2
    rw [← w16, ← w8, ← w0] at q1
    rw [← w12, ← w16, ← w4] at q2
    simp only [Bool.and_eq_true] at q1 q2
    exact f ⟨q1.2.2, q2.2.2, q1.2.1, q2.1, q1.1⟩
/-! lists behind lists -/
def bld (L : Int → List Hf) : Nat → Int → (Int → Int) → (Int → Int) → Prop
  | 0, zn, _, _ => zn = 0
  | k + 1, z1, T1, F1 => ∃ (zn : Int) (Tn Fn : Int → Int), bld L k zn Tn Fn ∧ app Tn Fn zn (L k) T1 F1 z1
theorem dvR_bld {T F : Int → Int} {k : Nat} {zn : Int} {Tn Fn : Int → Int} (h : dvR T F k zn Tn Fn) : bld (fun n => kids (row T F n)) k zn Tn Fn := by
  induction k generalizing zn Tn Fn with
  | zero => exact h
  | succ k ih =>
    obtain ⟨z0, T0, F0, W, a, b⟩ := h
    exact ⟨z0, T0, F0, ih a, dvP_app b⟩
theorem mdR_bld {T F : Int → Int} {k : Nat} {zn : Int} {Tn Fn : Int → Int} (h : mdR T F k zn Tn Fn) : bld (fun n => kids (row T F n)) k zn Tn Fn ∧ ∀ n : Int, 0 ≤ n → n < k → ∀ h ∈ kids (row T F n), nH h = true := by
  induction k generalizing zn Tn Fn with
  | zero => exact ⟨h, fun n a b => by omega⟩
  | succ k ih =>
    obtain ⟨z0, T0, F0, W, a, b⟩ := h
    have i := ih a
    have m := mdP_app b
    refine ⟨⟨z0, T0, F0, i.1, m.1⟩, fun n h0 h1 => ?_⟩
    rcases (show n = k ∨ n < k by omega) with rfl | q
    · exact m.2
    · exact i.2 n h0 q
theorem bld_pos {L : Int → List Hf} {k : Nat} {zn : Int} {Tn Fn : Int → Int} (h : bld L k zn Tn Fn) : 0 ≤ zn := by
  induction k generalizing zn Tn Fn with
  | zero => exact Int.le_of_eq (Eq.symm h)
  | succ k ih =>
    obtain ⟨z0, T0, F0, a, b⟩ := h
    have := ih a; have := b.1; omega
theorem bld_uni {L L' : Int → List Hf} {k : Nat} {zn zn' : Int} {Tn Fn Tn' Fn' : Int → Int} (e : ∀ n : Int, 0 ≤ n → n < k → L' n = L n) (h : bld L k zn Tn Fn) (h' : bld L' k zn' Tn' Fn') : zn' = zn ∧ ∀ j, 0 ≤ j → j < zn → row Tn' Fn' j = row Tn Fn j := by
  induction k generalizing zn Tn Fn zn' Tn' Fn' with
  | zero =>
    have h : zn = 0 := h
    have h' : zn' = 0 := h'
    exact ⟨by omega, fun j a b => by omega⟩
  | succ k ih =>
    obtain ⟨z0, T0, F0, a, b⟩ := h
    obtain ⟨z0', T0', F0', a', b'⟩ := h'
    obtain ⟨i1, i2⟩ := ih (fun n a b => e n a (by omega)) a a'
    have ek := e k (by omega) (by omega)
    rw [ek] at b'
    obtain ⟨b1, b2, b3⟩ := b
    obtain ⟨c1, c2, c3⟩ := b'
    have p := bld_pos a
    refine ⟨by omega, fun j h0 h1 => ?_⟩
    rcases (show j < z0 ∨ z0 ≤ j by omega) with q | q
    · rw [b2 j h0 q, c2 j h0 (by omega), i2 j h0 q]
    · have x1 := b3 (j - z0).toNat (by omega)
      have x2 := c3 (j - z0).toNat (by omega)
      rw [show z0 + ((j - z0).toNat : Int) = j by omega] at x1
      rw [show z0' + ((j - z0).toNat : Int) = j by omega] at x2
      rw [x1, x2]
theorem bld_mem {L : Int → List Hf} {k : Nat} {zn : Int} {Tn Fn : Int → Int} (h : bld L k zn Tn Fn) : ∀ j, 0 ≤ j → j < zn → ∃ n : Int, 0 ≤ n ∧ n < k ∧ row Tn Fn j ∈ L n := by
  induction k generalizing zn Tn Fn with
  | zero => intro j a b; have h : zn = 0 := h; omega
  | succ k ih =>
    obtain ⟨z0, T0, F0, a, b1, b2, b3⟩ := h
    intro j h0 h1
    rcases (show j < z0 ∨ z0 ≤ j by omega) with q | q
    · obtain ⟨n, x, y, w⟩ := ih a j h0 q
      exact ⟨n, x, by omega, by rw [b2 j h0 q]; exact w⟩
    · have x1 := b3 (j - z0).toNat (by omega)
      rw [show z0 + ((j - z0).toNat : Int) = j by omega] at x1
      exact ⟨k, by omega, by omega, by rw [x1]; exact List.getElem_mem _⟩
theorem bld_has {L : Int → List Hf} {k : Nat} {zn : Int} {Tn Fn : Int → Int} (h : bld L k zn Tn Fn) : ∀ n : Int, 0 ≤ n → n < k → ∀ x ∈ L n, ∃ j, 0 ≤ j ∧ j < zn ∧ row Tn Fn j = x := by
  induction k generalizing zn Tn Fn with
  | zero => intro n a b; omega
  | succ k ih =>
    obtain ⟨z0, T0, F0, a, b1, b2, b3⟩ := h
    have p := bld_pos a
    intro n h0 h1 x hx
    rcases (show n = k ∨ n < k by omega) with rfl | q
    · obtain ⟨i, hi, e⟩ := List.getElem_of_mem hx
      exact ⟨z0 + i, by omega, by omega, by rw [b3 i hi, e]⟩
    · obtain ⟨j, x1, x2, x3⟩ := ih a n h0 q x hx
      exact ⟨j, x1, by omega, by rw [b2 j x1 x2, x3]⟩
theorem bld_Pw {L : Int → List Hf} {k : Nat} {zn : Int} {Tn Fn : Int → Int} (h : bld L k zn Tn Fn)
    (d1 : ∀ m n : Int, 0 ≤ m → m < k → 0 ≤ n → n < k → m ≠ n → ∀ x ∈ L m, ∀ y ∈ L n, Dis x y)
    (d2 : ∀ n : Int, 0 ≤ n → n < k → ∀ (i j : Nat) (hi : i < (L n).length) (hj : j < (L n).length), i ≠ j → Dis (L n)[i] (L n)[j]) : Pw Tn Fn zn := by
  induction k generalizing zn Tn Fn with
  | zero => intro m n a b; have h : zn = 0 := h; omega
  | succ k ih =>
    obtain ⟨z0, T0, F0, a, b1, b2, b3⟩ := h
    have i := ih a (fun m n a b c d => d1 m n a (by omega) c (by omega)) (fun n a b => d2 n a (by omega))
    have mixed : ∀ m n, 0 ≤ m → m < z0 → z0 ≤ n → n < zn → Dis (row Tn Fn m) (row Tn Fn n) := by
      intro m n m0 m1 n0 n1
      obtain ⟨s, x, y, w⟩ := bld_mem a m m0 m1
      have x1 := b3 (n - z0).toNat (by omega)
      rw [show z0 + ((n - z0).toNat : Int) = n by omega] at x1
      rw [b2 m m0 m1, x1]
      exact d1 s k x (by omega) (by omega) (by omega) (by omega) _ w _ (List.getElem_mem _)
    intro m n m0 m1 n0 n1 mn
    rcases (show m < z0 ∨ z0 ≤ m by omega) with q | q
    · rcases (show n < z0 ∨ z0 ≤ n by omega) with r | r
      · rw [b2 m m0 q, b2 n n0 r]; exact i m n m0 q n0 r mn
      · exact mixed m n m0 q r n1
    · rcases (show n < z0 ∨ z0 ≤ n by omega) with r | r
      · exact Dis_sym (mixed n m n0 r q m1)
      · have x1 := b3 (n - z0).toNat (by omega)
        rw [show z0 + ((n - z0).toNat : Int) = n by omega] at x1
        have x2 := b3 (m - z0).toNat (by omega)
        rw [show z0 + ((m - z0).toNat : Int) = m by omega] at x2
        rw [x1, x2]
        exact d2 k (by omega) (by omega) _ _ _ _ (by omega)
theorem awl_iff {T F : Int → Int} {z : Int} (hz : 0 ≤ z) : awlZ F z = true ↔ ∀ j, 0 ≤ j → j < z → nH (row T F j) = true := by
  unfold awlZ
  rw [Bool.not_eq_true', anyZ_f]
  constructor
  · intro h j a b
    have := h j a (by omega)
    rw [any12 (T := T)] at this
    simpa using this
  · intro h j a b
    rw [any12 (T := T), h j a (by omega)]; rfl
theorem ag_sum {T F T' F' : Int → Int} {z : Int} (h : ag T F T' F' z) : sumZ z.toNat (wN T') = sumZ z.toNat (wN T) :=
  sumZ_congr (fun k a b => by unfold wN; rw [h.1 k a (by omega)])
theorem cp_T {Y T : Int → Int} {z j : Int} (h : 0 ≤ j ∧ j < z) : cpN Y T z j = Y j := if_pos h
theorem row_cp {Yr Fr T F : Int → Int} {fm j : Int} (h : 0 ≤ j ∧ j < fm) : row (cpN Yr T fm) (cpN Fr F (12 * fm)) j = row Yr Fr j :=
  row_eq (cp_T h) (fun k a b => cp_T ⟨by omega, by omega⟩)
theorem bT_cp {Yr Fr T : Int → Int} {fm : Int} (h : bT T) (p : pat Yr Fr fm) : bT (cpN Yr T fm) := by
  intro k
  unfold cpN
  split
  · rename_i q
    have := pat_T p q; omega
  · exact h k
theorem bF_cp {Yr Fr F : Int → Int} {fm : Int} (h : bF F) (p : pat Yr Fr fm) : bF (cpN Fr F (12 * fm)) := by
  intro k
  unfold cpN
  split
  · rename_i q
    obtain ⟨σ, g⟩ := p (k / 12) (by omega) (by omega)
    have n3 := g.2.2
    have e : k = 12 * (k / 12) + k % 12 := by omega
    unfold nr3 nr at n3
    rcases (show k % 12 = 0 ∨ k % 12 = 1 ∨ k % 12 = 2 ∨ k % 12 = 3 ∨ k % 12 = 4 ∨ k % 12 = 5 ∨ k % 12 = 6 ∨ k % 12 = 7 ∨ k % 12 = 8 ∨ k % 12 = 9 ∨ k % 12 = 10 ∨ k % 12 = 11 by omega) with r | r | r | r | r | r | r | r | r | r | r | r <;> rw [r] at e <;> rw [e] <;> simp only [Int.add_assoc, Int.reduceAdd] at n3 <;> (try rw [Int.add_zero]) <;> omega
  · exact h k
theorem inf_far {z zn n : Int} {T F Lo Hi T' F' Tn Fn W : Int → Int} (S : St z T F Lo Hi T' F') (d : dvR T F z.toNat zn Tn Fn) (hn : 0 ≤ n ∧ n < z) (x : mdX T' F' n W) : awlZ Fn zn = false := by
  have B := dvR_bld d
  cases q : awlZ Fn zn with
  | false => rfl
  | true =>
    exfalso
    have q := (awl_iff (T := Tn) (bld_pos B)).mp q
    apply mdX_far x
    intro k hk
    rw [ag_rows.mp S.a n hn.1 hn.2] at hk
    obtain ⟨j, a, b, e⟩ := bld_has B n hn.1 (by omega) k hk
    rw [← e]; exact q j a b
theorem inf_ok {z zn fm : Int} {T F Lo Hi T' F' Tn Fn Yr Fr : Int → Int} (S : St z T F Lo Hi T' F') (d : dvR T F z.toNat zn Tn Fn) (hs : zn ≤ 400) (b1 : bT Tn) (b2 : bF Fn) (m : mdR T' F' z.toNat fm Yr Fr) : awlZ Fn zn = true ∧ fm = zn ∧ St zn Tn Fn (mALo Lo Fn zn.toNat) (mAHi Hi Fn zn.toNat) (cpN Yr T' fm) (cpN Fr F' (12 * fm)) := by
  have B := dvR_bld d
  obtain ⟨B', N⟩ := mdR_bld m
  have hz := S.hz
  have rr := ag_rows.mp S.a
  have e : ∀ n : Int, 0 ≤ n → n < z.toNat → (fun n => kids (row T' F' n)) n = (fun n => kids (row T F n)) n := by
    intro n a b; show kids _ = kids _; rw [rr n a (by omega)]
  obtain ⟨u1, u2⟩ := bld_uni e B B'
  have p0 := bld_pos B
  have near : ∀ j, 0 ≤ j → j < zn → nH (row Tn Fn j) = true := by
    intro j a b
    obtain ⟨n, x, y, w⟩ := bld_mem B j a b
    have w : row Tn Fn j ∈ kids (row T F n) := w
    rw [← rr n x (by omega)] at w
    exact N n x y _ w
  have pt : pat Tn Fn zn := by
    refine pat_of (fun j a b => ⟨?_, near j a b⟩)
    obtain ⟨n, x, y, w⟩ := bld_mem B j a b
    obtain ⟨⟨σ, v⟩, -⟩ := pat_v S.p (n := n) ⟨x, by omega⟩
    exact vh_kid v w
  have agr : ag Tn Fn Yr Fr zn := by rw [ag_rows]; exact u2
  have py := pat_ag agr pt
  refine ⟨(awl_iff p0).mpr near, u1, ⟨p0, hs⟩, ?_, pt, ?_, mss_A' p0, b1, b2, bL_mALo S.bl b2 _, bL_mAHi S.bh b2 _, ?_, ?_⟩
  · rw [ag_rows]
    intro j a b
    rw [row_cp ⟨a, by omega⟩]; exact u2 j a b
  · refine bld_Pw B (fun m n m0 m1 n0 n1 mn x hx y hy => ?_) (fun n n0 n1 i j hi hj ij => ?_)
    · exact Dis_kid (S.w m n m0 (by omega) n0 (by omega) mn) hx hy
    · obtain ⟨⟨σ, v⟩, -⟩ := pat_v S.p (n := n) ⟨n0, by omega⟩
      exact sib v ij hi hj
  · rw [u1]; exact bT_cp S.bt' py
  · rw [u1]; exact bF_cp S.bf' py
