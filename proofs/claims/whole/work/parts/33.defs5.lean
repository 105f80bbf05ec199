/-! dividing and putting together, as the class's rows do it -/
/-- A, B, C made larger stand in the row of work -/
def dvA (W F : Int → Int) (n : Int) : Prop :=
  W 0 = F (12 * n + 1) - F (12 * n + 3) ∧ W 1 = F (12 * n + 1) + F (12 * n + 2) - F (12 * n + 3) ∧ W 2 = F (12 * n + 1) + F (12 * n + 2) - F (12 * n) ∧ W 3 = F (12 * n + 2) - F (12 * n) ∧
  W 4 = F (12 * n + 5) - F (12 * n + 7) ∧ W 5 = F (12 * n + 5) + F (12 * n + 6) - F (12 * n + 7) ∧ W 6 = F (12 * n + 5) + F (12 * n + 6) - F (12 * n + 4) ∧ W 7 = F (12 * n + 6) - F (12 * n + 4) ∧
  W 8 = F (12 * n + 9) - F (12 * n + 11) ∧ W 9 = F (12 * n + 9) + F (12 * n + 10) - F (12 * n + 11) ∧ W 10 = F (12 * n + 9) + F (12 * n + 10) - F (12 * n + 8) ∧ W 11 = F (12 * n + 10) - F (12 * n + 8)
/-- a point that cuts the piece from place x to place y of the row stands at place r -/
def dvC (W : Int → Int) (x y r : Int) : Prop :=
  W r = (W (y + 1) - W (x + 1)) - (W (y + 3) - W (x + 3)) - (W y - W x) + W x ∧ W (r + 1) = (W (y + 2) - W (x + 2)) - (W (y + 3) - W (x + 3)) + W (x + 1) ∧
  W (r + 2) = (W (y + 1) - W (x + 1)) - (W y - W x) + W (x + 2) ∧ W (r + 3) = (W (y + 2) - W (x + 2)) - (W y - W x) - (W (y + 3) - W (x + 3)) + W (x + 3)
def dvP (T F : Int → Int) (n zn : Int) (Tn Fn : Int → Int) (zn' : Int) (Tn' Fn' W : Int → Int) : Prop :=
  dvA W F n ∧ ((T n = 0 ∧ dvC W 0 4 12 ∧ zn' = zn + 2 ∧ Tn' = uZ (uZ Tn zn 0) (zn + 1) 1 ∧ Fn' = wrN (wrN Fn zn W 8 12 4) (zn + 1) W 12 8 0) ∨
    (T n = 1 ∧ dvC W 4 0 12 ∧ dvC W 4 8 16 ∧ zn' = zn + 3 ∧ Tn' = uZ (uZ (uZ Tn zn 1) (zn + 1) 1) (zn + 2) 0 ∧ Fn' = wrN (wrN (wrN Fn zn W 16 8 0) (zn + 1) W 12 16 4) (zn + 2) W 16 12 0))
def ptN (T F U : Int → Int) (z y zn : Int) (Tn Fn : Int → Int) : Int × (Int → Int) × (Int → Int) × (Int → Int) :=
  if flbZ T F z y = -1 ∨ flcZ F z y = -1 ∨ ¬ U (flbZ T F z y) = 0 then (zn, Tn, Fn, U)
  else if T (flcZ F z y) = 0 then (zn + 1, uZ Tn zn 0, wrN Fn zn F (12 * flbZ T F z y + 8) (12 * y + 8) (12 * y), uZ (uZ U y 1) (flbZ T F z y) 1)
  else if U (flcZ F z y) = 0 then (zn + 1, uZ Tn zn 1, wrN Fn zn F (12 * y + 8) (12 * flbZ T F z y + 8) (12 * flcZ F z y + 4), uZ (uZ (uZ U (flcZ F z y) 1) y 1) (flbZ T F z y) 1)
  else (zn, Tn, Fn, U)
/-- the first k halves have been looked at -/
def ptA (T F U : Int → Int) (z : Int) (Tn Fn : Int → Int) : Nat → Int × (Int → Int) × (Int → Int) × (Int → Int)
  | 0 => (0, Tn, Fn, U)
  | k + 1 => if T k = 0 then ptN T F (ptA T F U z Tn Fn k).2.2.2 z k (ptA T F U z Tn Fn k).1 (ptA T F U z Tn Fn k).2.1 (ptA T F U z Tn Fn k).2.2.1 else ptA T F U z Tn Fn k
theorem ptA_s {k : Int} (h : 0 ≤ k) (T F U : Int → Int) (z : Int) (Tn Fn : Int → Int) : ptA T F U z Tn Fn (k + 1).toNat = if T k = 0 then ptN T F (ptA T F U z Tn Fn k.toNat).2.2.2 z k (ptA T F U z Tn Fn k.toNat).1 (ptA T F U z Tn Fn k.toNat).2.1 (ptA T F U z Tn Fn k.toNat).2.2.1 else ptA T F U z Tn Fn k.toNat := by
  obtain ⟨n, rfl⟩ : ∃ n : Nat, k = n := ⟨k.toNat, by omega⟩
  rw [show ((n : Int) + 1).toNat = n + 1 by omega, show ((n : Int)).toNat = n by omega]
  rfl
theorem flb_in (T F : Int → Int) (z y : Int) (h : 0 ≤ z) : -1 ≤ flbZ T F z y ∧ flbZ T F z y < z := by
  have q := fstZ_in z.toNat (fun n => decide (T n = 1) && (pS F (12 * n) (12 * y + 4) && pS F (12 * n + 4) (12 * y)))
  unfold flbZ; omega
theorem flc_in (F : Int → Int) (z y : Int) (h : 0 ≤ z) : -1 ≤ flcZ F z y ∧ flcZ F z y < z := by
  have q := fstZ_in z.toNat (fun m => decide (¬ m = y) && (pS F (12 * m) (12 * y) && pS F (12 * m + 8) (12 * y + 8)))
  unfold flcZ; omega
theorem bF_sh4 {F : Int → Int} {p : Int} (h : bF F) (h0 : -1000000 ≤ F p ∧ F p ≤ 1000000) (h1 : -1000000 ≤ F (p + 1) ∧ F (p + 1) ≤ 1000000) (h2 : -1000000 ≤ F (p + 2) ∧ F (p + 2) ≤ 1000000) (h3 : -1000000 ≤ F (p + 3) ∧ F (p + 3) ≤ 1000000) : bF (sh4 F p) :=
  bF_uZ (bF_uZ (bF_uZ (bF_uZ h (by omega)) (by omega)) (by omega)) (by omega)
def wN (T : Int → Int) (n : Int) : Int := if T n = 0 then 2 else 3
theorem wN_T {T : Int → Int} (hT : bT T) (n : Int) : wN T n = 2 + T n := by
  have := hT n; unfold wN; split <;> omega
theorem sumZ_mono {g : Int → Int} (h : ∀ k, 0 ≤ g k) {m n : Nat} (hmn : m ≤ n) : sumZ m g ≤ sumZ n g := by
  induction n with
  | zero => rw [show m = 0 by omega]; exact Int.le_refl _
  | succ n ih =>
    rcases (show m ≤ n ∨ m = n + 1 by omega) with q | q
    · have := ih q; have := h n
      show sumZ m g ≤ sumZ n g + g n
      omega
    · rw [q]; exact Int.le_refl _
theorem wN_in (T : Int → Int) (k : Int) : 2 ≤ wN T k ∧ wN T k ≤ 3 := by unfold wN; split <;> omega
theorem wN_sum (T : Int → Int) (n : Nat) : 0 ≤ sumZ n (wN T) ∧ sumZ n (wN T) ≤ 3 * n := by
  have h := sumZ_in (n := n) (g := wN T) (M := 3) (fun k _ _ => by have := wN_in T k; omega)
  omega
theorem wN_next {T : Int → Int} (hT : bT T) {k z : Int} (h0 : 0 ≤ k) (h : k < z) (hz : sumZ z.toNat (wN T) ≤ 400) : sumZ k.toNat (wN T) + 2 + T k ≤ 400 := by
  have a := sumZ_mono (g := wN T) (fun k => by have := wN_in T k; omega) (show (k + 1).toNat ≤ z.toNat by omega)
  rw [sumZ_s h0, wN_T hT] at a
  omega
def dvR (T F : Int → Int) : Nat → Int → (Int → Int) → (Int → Int) → Prop
  | 0, zn, _, _ => zn = 0
  | k + 1, zn', Tn', Fn' => ∃ (zn : Int) (Tn Fn W : Int → Int), dvR T F k zn Tn Fn ∧ dvP T F k zn Tn Fn zn' Tn' Fn' W
theorem dvR_s {T F : Int → Int} {k zn zn' : Int} {Tn Fn Tn' Fn' W : Int → Int} (h0 : 0 ≤ k) (h : dvR T F k.toNat zn Tn Fn) (hp : dvP T F k zn Tn Fn zn' Tn' Fn' W) : dvR T F (k + 1).toNat zn' Tn' Fn' := by
  obtain ⟨n, rfl⟩ : ∃ n : Nat, k = n := ⟨k.toNat, by omega⟩
  rw [show ((n : Int) + 1).toNat = n + 1 by omega]
  rw [show ((n : Int)).toNat = n by omega] at h
  exact ⟨zn, Tn, Fn, W, h, hp⟩
theorem dvP_z {T F : Int → Int} {k zn zn' : Int} {Tn Fn Tn' Fn' W : Int → Int} (hp : dvP T F k zn Tn Fn zn' Tn' Fn' W) : zn' = zn + wN T k := by
  obtain ⟨-, ⟨a, -, b, -⟩ | ⟨a, -, -, b, -⟩⟩ := hp
  · unfold wN; rw [if_pos a]; exact b
  · unfold wN; rw [if_neg (by omega)]; exact b
def fil (U : Int → Int) (n : Int) : Int → Int := fun k => if 0 ≤ k ∧ k < n then 0 else U k
theorem fil_s {U : Int → Int} {k : Int} (h : 0 ≤ k) : uZ (fil U k) k 0 = fil U (k + 1) := by
  funext j
  unfold uZ fil
  by_cases c : j = k
  · rw [if_pos c, if_pos (by omega)]
  · rw [if_neg c]
    by_cases d : 0 ≤ j ∧ j < k
    · rw [if_pos d, if_pos (by omega)]
    · rw [if_neg d, if_neg (by omega)]
theorem fil_0 (U : Int → Int) : fil U 0 = U := by
  funext j; unfold fil; rw [if_neg (by omega)]
theorem bF_fil {U : Int → Int} (h : bF U) (n : Int) : bF (fil U n) := fun k => by
  unfold fil; split
  · omega
  · exact h k
/-- at most a new half a step -/
theorem ptN_z (T F U : Int → Int) (z y zn : Int) (Tn Fn : Int → Int) : zn ≤ (ptN T F U z y zn Tn Fn).1 ∧ (ptN T F U z y zn Tn Fn).1 ≤ zn + 1 := by
  unfold ptN
  split
  · exact ⟨Int.le_refl _, by show zn ≤ zn + 1; omega⟩
  · split
    · exact ⟨by show zn ≤ zn + 1; omega, Int.le_refl _⟩
    · split
      · exact ⟨by show zn ≤ zn + 1; omega, Int.le_refl _⟩
      · exact ⟨Int.le_refl _, by show zn ≤ zn + 1; omega⟩
theorem sh4_out {F : Int → Int} {p j : Int} (h : j < p ∨ p + 4 ≤ j) : sh4 F p j = F j := by
  unfold sh4 st4
  rw [uZ_n (by omega), uZ_n (by omega), uZ_n (by omega), uZ_n (by omega)]
theorem shN_out {F : Int → Int} {n : Nat} {j : Int} (h : 12 * (n : Int) ≤ j) : shN F n j = F j := by
  induction n with
  | zero => rfl
  | succ n ih =>
    show sh4 (sh4 (sh4 (shN F n) (12 * n)) (12 * n + 4)) (12 * n + 8) j = F j
    rw [sh4_out (by omega), sh4_out (by omega), sh4_out (by omega)]
    exact ih (by omega)
abbrev bM (F : Int → Int) (z : Int) : Prop := ∀ k, 0 ≤ k → k < 12 * z → -1000000 ≤ F k ∧ F k ≤ 1000000
theorem bF_shN {F : Int → Int} {n : Nat} (h : bF F) (hM : bM F n) : bF (shN F n) := by
  induction n with
  | zero => exact h
  | succ n ih =>
    have i := ih (fun k a b => hM k a (by omega))
    have q : ∀ j : Int, 12 * (n : Int) ≤ j → j < 12 * (n : Int) + 12 → -1000000 ≤ shN F n j ∧ shN F n j ≤ 1000000 := fun j a b => by rw [shN_out a]; exact hM j (by omega) (by omega)
    have i1 := bF_sh4 (p := 12 * (n : Int)) i (q _ (by omega) (by omega)) (q _ (by omega) (by omega)) (q _ (by omega) (by omega)) (q _ (by omega) (by omega))
    have q1 : ∀ j : Int, 12 * (n : Int) + 4 ≤ j → j < 12 * (n : Int) + 12 → -1000000 ≤ sh4 (shN F n) (12 * n) j ∧ sh4 (shN F n) (12 * n) j ≤ 1000000 := fun j a b => by rw [sh4_out (by omega)]; exact q j (by omega) (by omega)
    have i2 := bF_sh4 (p := 12 * (n : Int) + 4) i1 (q1 _ (by omega) (by omega)) (q1 _ (by omega) (by omega)) (q1 _ (by omega) (by omega)) (q1 _ (by omega) (by omega))
    have q2 : ∀ j : Int, 12 * (n : Int) + 8 ≤ j → j < 12 * (n : Int) + 12 → -1000000 ≤ sh4 (sh4 (shN F n) (12 * n)) (12 * n + 4) j ∧ sh4 (sh4 (shN F n) (12 * n)) (12 * n + 4) j ≤ 1000000 := fun j a b => by rw [sh4_out (by omega)]; exact q1 j (by omega) (by omega)
    exact bF_sh4 (p := 12 * (n : Int) + 8) i2 (q2 _ (by omega) (by omega)) (q2 _ (by omega) (by omega)) (q2 _ (by omega) (by omega)) (q2 _ (by omega) (by omega))
theorem bM_wrN {F R : Int → Int} {z a b c z0 : Int} (hF : bM F z) (hR : bM R z0) (ha : 0 ≤ a ∧ a + 4 ≤ 12 * z0) (hb : 0 ≤ b ∧ b + 4 ≤ 12 * z0) (hc : 0 ≤ c ∧ c + 4 ≤ 12 * z0) (hz : 0 ≤ z) : bM (wrN F z R a b c) (z + 1) := by
  intro k h1 h2
  unfold wrN cZ
  split
  · exact hR _ (by omega) (by omega)
  · split
    · exact hR _ (by omega) (by omega)
    · split
      · exact hR _ (by omega) (by omega)
      · exact hF k h1 (by omega)
theorem bM_ptN {T F U : Int → Int} {z y zn : Int} {Tn Fn : Int → Int} (hM : bM F z) (hn : bM Fn zn) (hz : 0 ≤ z) (hy : 0 ≤ y ∧ y < z) (hzn : 0 ≤ zn) : bM (ptN T F U z y zn Tn Fn).2.2.1 (ptN T F U z y zn Tn Fn).1 := by
  have f1 := flb_in T F z y hz; have f2 := flc_in F z y hz
  unfold ptN
  split
  · exact hn
  · split
    · exact bM_wrN hn hM (by omega) (by omega) (by omega) hzn
    · split
      · exact bM_wrN hn hM (by omega) (by omega) (by omega) hzn
      · exact hn
