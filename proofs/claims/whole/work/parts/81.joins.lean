/-! PUTTING TOGETHER -/
def eq2 (l : List Hf) (a b : Hf) : Bool := match l with
  | [x, y] => decide (x = a) && decide (y = b)
  | _ => false
def eq3 (l : List Hf) (a b c : Hf) : Bool := match l with
  | [x, y, z] => decide (x = a) && (decide (y = b) && decide (z = c))
  | _ => false
theorem eq2_e {l : List Hf} {a b : Hf} (h : eq2 l a b = true) : l = [a, b] := by
  unfold eq2 at h
  split at h
  · simp only [Bool.and_eq_true, decide_eq_true_iff] at h
    rw [h.1, h.2]
  · cases h
theorem eq3_e {l : List Hf} {a b c : Hf} (h : eq3 l a b c = true) : l = [a, b, c] := by
  unfold eq3 at h
  split at h
  · simp only [Bool.and_eq_true, decide_eq_true_iff] at h
    rw [h.1, h.2.1, h.2.2]
  · cases h
def join2 (X N : Hf) : Hf := (0, vS N.2.2.2, vS X.2.2.2, vS X.2.1)
def join3 (X N M : Hf) : Hf := (1, vS X.2.2.2, vS N.2.2.2, vS M.2.2.1)
theorem vS_vA (P x : V4) : vS (vA P x) = vA (vS P) (vS x) := by
  unfold vA vS; simp only [Prod.mk.injEq]; refine ⟨?_, ?_, ?_, ?_⟩ <;> omega
theorem pt_vS (P : V4) : pt (vS P) (vS P) = P := by
  obtain ⟨a, b, c, d⟩ := P
  unfold pt vA vS; simp only [Prod.mk.injEq]; refine ⟨?_, ?_, ?_, ?_⟩ <;> omega
theorem vA_inj {P x y : V4} (h : vA P x = vA P y) : x = y := by
  obtain ⟨a, b, c, d⟩ := x
  obtain ⟨a', b', c', d'⟩ := y
  unfold vA at h; simp only [Prod.mk.injEq] at h ⊢; omega
theorem vA_0 (P : V4) : vA P (0, 0, 0, 0) = P := by
  obtain ⟨a, b, c, d⟩ := P
  unfold vA; simp only [Prod.mk.injEq]; omega
def shr (h h' : Hf) : Bool := (kids h).any (fun k => (kids h').any (fun k' => decide (k = k')))
theorem shr_tr (P : V4) {h h' : Hf} (s : shr h h' = true) : Sh 1 (tr P h) (tr P h') := by
  unfold shr at s
  rw [List.any_eq_true] at s
  obtain ⟨k, hk, s⟩ := s
  rw [List.any_eq_true] at s
  obtain ⟨k', hk', e⟩ := s
  have e := of_decide_eq_true e
  refine ⟨tr (pt P P) k, by rw [kids_tr]; exact List.mem_map_of_mem hk, tr (pt P P) k', by rw [kids_tr]; exact List.mem_map_of_mem hk', ?_⟩
  show tr (pt P P) k = tr (pt P P) k'
  rw [e]
def vB (h : Hf) : Bool := (List.range 40).any (fun ρ => decide (h = tr h.2.1 (h0 ρ)))
theorem vB_v {P : V4} {h : Hf} (s : vB h = true) : ∃ ρ, vh (tr P h) ρ := by
  unfold vB at s
  rw [List.any_eq_true] at s
  obtain ⟨ρ, m, e⟩ := s
  exact ⟨ρ, vh_tr ⟨List.mem_range.mp m, of_decide_eq_true e⟩⟩
/-- the half of shape τ whose A is the B of the half of shape σ -/
def n0 (σ τ : Nat) : Hf := tr (uT (sK σ)) (h0 τ)
def d3a (σ τ : Nat) : Bool := !decide ((n0 σ τ).2.2.1 = (0, 0, 0, 0)) || (shr (h0 σ) (n0 σ τ) || (vB (join2 (h0 σ) (n0 σ τ)) && eq2 (kids (join2 (h0 σ) (n0 σ τ))) (h0 σ) (n0 σ τ)))
def d3b (σ τ ρ : Nat) : Bool := !decide ((n0 σ τ).2.2.1 = (0, 0, 0, 0)) || (!decide (uT (sJ ρ) = uT (sJ σ)) || (shr (h0 σ) (n0 σ τ) || (shr (h0 σ) (h0 ρ) || (vB (join3 (h0 σ) (n0 σ τ) (h0 ρ)) && eq3 (kids (join3 (h0 σ) (n0 σ τ) (h0 ρ))) (h0 ρ) (n0 σ τ) (h0 σ)))))
theorem d3a_all : ∀ σ, σ < 20 → ∀ τ, τ < 20 → d3a σ (20 + τ) = true := by decide +kernel
theorem d3b_all : ∀ σ, σ < 20 → ∀ τ, τ < 20 → ∀ ρ, ρ < 20 → d3b σ (20 + τ) (20 + ρ) = true := by decide +kernel
theorem vh_t {h : Hf} {σ : Nat} (v : vh h σ) : h.1 = ((σ / 20 : Nat) : Int) := by
  have e := congrArg Prod.fst v.2
  exact e
theorem n_e {X N : Hf} {σ τ : Nat} (vX : vh X σ) (vN : vh N τ) (c1 : N.2.1 = X.2.2.1) (c2 : N.2.2.1 = X.2.1) : N = tr X.2.1 (n0 σ τ) ∧ (n0 σ τ).2.2.1 = (0, 0, 0, 0) := by
  have a : N = tr X.2.1 (n0 σ τ) := by
    have e : X.2.2.1 = vA X.2.1 (uT (sK σ)) := congrArg (fun h : Hf => h.2.2.1) vX.2
    rw [vN.2, c1, e, tr_tr]
    rfl
  refine ⟨a, ?_⟩
  rw [a] at c2
  apply vA_inj (P := X.2.1)
  rw [vA_0]
  exact c2
theorem join_2 {X N : Hf} {σ τ : Nat} (vX : vh X σ) (tX : X.1 = 0) (vN : vh N τ) (tN : N.1 = 1) (c1 : N.2.1 = X.2.2.1) (c2 : N.2.2.1 = X.2.1) (ds : Dis X N) : (∃ ρ, vh (join2 X N) ρ) ∧ kids (join2 X N) = [X, N] := by
  have t1 := vh_t vX; have t2 := vh_t vN
  have l1 := vX.1; have l2 := vN.1
  obtain ⟨eN, z⟩ := n_e vX vN c1 c2
  have eX := vX.2
  have k := d3a_all σ (by omega) (τ - 20) (by omega)
  rw [show 20 + (τ - 20) = τ by omega] at k
  unfold d3a at k
  rw [decide_eq_true z] at k
  simp only [Bool.not_true, Bool.false_or, Bool.or_eq_true, Bool.and_eq_true] at k
  rcases k with k | ⟨k1, k2⟩
  · exfalso
    have := shr_tr X.2.1 k
    rw [← eN, ← eX] at this
    exact ds 1 this
  · obtain ⟨P, hP⟩ : ∃ P, P = X.2.1 := ⟨_, rfl⟩
    rw [← hP] at eN eX
    have e : join2 X N = tr (vS P) (join2 (h0 σ) (n0 σ τ)) := by
      rw [eN, eX]
      unfold join2 tr
      simp only [vS_vA]
    refine ⟨by rw [e]; exact vB_v k1, ?_⟩
    rw [e, kids_tr, eq2_e k2, pt_vS, List.map_cons, List.map_cons, List.map_nil, ← eN, ← eX]
theorem join_3 {X N M : Hf} {σ τ ρ : Nat} (vX : vh X σ) (tX : X.1 = 0) (vN : vh N τ) (tN : N.1 = 1) (c1 : N.2.1 = X.2.2.1) (c2 : N.2.2.1 = X.2.1) (vM : vh M ρ) (tM : M.1 = 1) (c3 : M.2.1 = X.2.1) (c4 : M.2.2.2 = X.2.2.2) (ds : Dis X N) (ds2 : Dis X M) : (∃ ρ, vh (join3 X N M) ρ) ∧ kids (join3 X N M) = [M, N, X] := by
  have t1 := vh_t vX; have t2 := vh_t vN; have t3 := vh_t vM
  have l1 := vX.1; have l2 := vN.1; have l3 := vM.1
  obtain ⟨eN, z⟩ := n_e vX vN c1 c2
  have eX := vX.2
  have eM : M = tr X.2.1 (h0 ρ) := by rw [← c3]; exact vM.2
  have w : uT (sJ ρ) = uT (sJ σ) := by
    apply vA_inj (P := X.2.1)
    have e1 : M.2.2.2 = vA X.2.1 (uT (sJ ρ)) := congrArg (fun h : Hf => h.2.2.2) eM
    have e2 : X.2.2.2 = vA X.2.1 (uT (sJ σ)) := congrArg (fun h : Hf => h.2.2.2) eX
    rw [← e1, ← e2]; exact c4
  have k := d3b_all σ (by omega) (τ - 20) (by omega) (ρ - 20) (by omega)
  rw [show 20 + (τ - 20) = τ by omega, show 20 + (ρ - 20) = ρ by omega] at k
  unfold d3b at k
  rw [decide_eq_true z, decide_eq_true w] at k
  simp only [Bool.not_true, Bool.false_or, Bool.or_eq_true, Bool.and_eq_true] at k
  rcases k with k | k | ⟨k1, k2⟩
  · exfalso
    have := shr_tr X.2.1 k
    rw [← eN, ← eX] at this
    exact ds 1 this
  · exfalso
    have := shr_tr X.2.1 k
    rw [← eM, ← eX] at this
    exact ds2 1 this
  · obtain ⟨P, hP⟩ : ∃ P, P = X.2.1 := ⟨_, rfl⟩
    rw [← hP] at eN eX eM
    have e : join3 X N M = tr (vS P) (join3 (h0 σ) (n0 σ τ) (h0 ρ)) := by
      rw [eN, eM, eX]
      unfold join3 tr
      simp only [vS_vA]
    refine ⟨by rw [e]; exact vB_v k1, ?_⟩
    rw [e, kids_tr, eq3_e k2, pt_vS, List.map_cons, List.map_cons, List.map_cons, List.map_nil, ← eN, ← eX, ← eM]
/-! rows as halves -/
def wt (F : Int → Int) (p : Int) : V4 := (F p, F (p + 1), F (p + 2), F (p + 3))
def row (T F : Int → Int) (n : Int) : Hf := (T n, wt F (12 * n), wt F (12 * n + 4), wt F (12 * n + 8))
theorem vh_row {T F : Int → Int} {n : Int} {σ : Nat} : vh (row T F n) σ ↔ (T n = ((σ / 20 : Nat) : Int) ∧ sh F (12 * n) σ) := by
  unfold vh row sh tr h0 vA wt uT
  simp only [Prod.mk.injEq, Int.add_assoc, Int.reduceAdd, Int.add_zero, true_and]
  constructor
  · rintro ⟨a, b, c, d⟩
    exact ⟨b, a, c, d⟩
  · rintro ⟨b, a, c, d⟩
    exact ⟨a, b, c, d⟩
theorem good_v {T F : Int → Int} {n : Int} {σ : Nat} : good T F n σ ↔ (vh (row T F n) σ ∧ nr3 F (12 * n)) := by
  unfold good; rw [vh_row]
  constructor
  · rintro ⟨a, b, c⟩; exact ⟨⟨a, b⟩, c⟩
  · rintro ⟨⟨a, b⟩, c⟩; exact ⟨a, b, c⟩
theorem wt_eq {F F' : Int → Int} {p q : Int} : wt F p = wt F' q ↔ (F p = F' q ∧ F (p + 1) = F' (q + 1) ∧ F (p + 2) = F' (q + 2) ∧ F (p + 3) = F' (q + 3)) := by
  unfold wt; simp only [Prod.mk.injEq]
theorem pS_wt {F : Int → Int} {p q : Int} : pS F p q = true ↔ wt F p = wt F q := by
  rw [wt_eq]; unfold pS; rw [decide_eq_true_iff]
theorem row_at {T F T' F' : Int → Int} {n : Int} (h : row T' F' n = row T F n) : T' n = T n ∧ ∀ k, 12 * n ≤ k → k < 12 * n + 12 → F' k = F k := by
  unfold row at h
  simp only [Prod.mk.injEq, wt_eq] at h
  refine ⟨h.1, fun k a b => ?_⟩
  obtain ⟨-, ⟨a0, a1, a2, a3⟩, ⟨b0, b1, b2, b3⟩, c0, c1, c2, c3⟩ := h
  rcases (show k = 12 * n ∨ k = 12 * n + 1 ∨ k = 12 * n + 2 ∨ k = 12 * n + 3 ∨ k = 12 * n + 4 ∨ k = 12 * n + 4 + 1 ∨ k = 12 * n + 4 + 2 ∨ k = 12 * n + 4 + 3 ∨ k = 12 * n + 8 ∨ k = 12 * n + 8 + 1 ∨ k = 12 * n + 8 + 2 ∨ k = 12 * n + 8 + 3 by omega) with rfl | rfl | rfl | rfl | rfl | rfl | rfl | rfl | rfl | rfl | rfl | rfl <;> assumption
theorem row_eq {T F T' F' : Int → Int} {n : Int} (h1 : T' n = T n) (h2 : ∀ k, 12 * n ≤ k → k < 12 * n + 12 → F' k = F k) : row T' F' n = row T F n := by
  unfold row
  simp only [Prod.mk.injEq, wt_eq]
  exact ⟨h1, ⟨h2 _ (by omega) (by omega), h2 _ (by omega) (by omega), h2 _ (by omega) (by omega), h2 _ (by omega) (by omega)⟩, ⟨h2 _ (by omega) (by omega), h2 _ (by omega) (by omega), h2 _ (by omega) (by omega), h2 _ (by omega) (by omega)⟩, h2 _ (by omega) (by omega), h2 _ (by omega) (by omega), h2 _ (by omega) (by omega), h2 _ (by omega) (by omega)⟩
theorem ag_rows {T F T' F' : Int → Int} {z : Int} : ag T F T' F' z ↔ ∀ n, 0 ≤ n → n < z → row T' F' n = row T F n := by
  constructor
  · rintro ⟨a, b⟩ n h0 h1
    exact row_eq (a n h0 h1) (fun k c d => b k (by omega) (by omega))
  · intro h
    refine ⟨fun k a b => (row_at (h k a b)).1, fun k a b => ?_⟩
    exact (row_at (h (k / 12) (by omega) (by omega))).2 k (by omega) (by omega)
/-- a patch: every half as it should be, no two with pieces in common -/
def Pw (T F : Int → Int) (z : Int) : Prop := ∀ m n, 0 ≤ m → m < z → 0 ≤ n → n < z → m ≠ n → Dis (row T F m) (row T F n)
theorem Pw_ag {T F T' F' : Int → Int} {z : Int} (h : ag T F T' F' z) (p : Pw T F z) : Pw T' F' z := by
  intro m n a b c d e
  rw [ag_rows] at h
  rw [h m a b, h n c d]; exact p m n a b c d e
theorem nr_ag {F F' : Int → Int} {n : Int} (h2 : ∀ k, 12 * n ≤ k → k < 12 * n + 12 → F' k = F k) (g : nr3 F (12 * n)) : nr3 F' (12 * n) := by
  unfold nr3 nr at g ⊢
  rw [h2 _ (by omega) (by omega), h2 _ (by omega) (by omega), h2 _ (by omega) (by omega), h2 _ (by omega) (by omega), h2 _ (by omega) (by omega), h2 _ (by omega) (by omega), h2 _ (by omega) (by omega), h2 _ (by omega) (by omega), h2 _ (by omega) (by omega), h2 _ (by omega) (by omega), h2 _ (by omega) (by omega), h2 _ (by omega) (by omega)]
  exact g
theorem pat_ag {T F T' F' : Int → Int} {z : Int} (h : ag T F T' F' z) (p : pat T F z) : pat T' F' z := by
  intro n a b
  obtain ⟨σ, g⟩ := p n a b
  refine ⟨σ, ?_⟩
  rw [good_v] at g ⊢
  have r := ag_rows.mp h n a b
  rw [r]
  exact ⟨g.1, nr_ag (row_at r).2 g.2⟩
/-- strips that part two halves part their pieces -/
theorem sI_sep {T F : Int → Int} {m n : Int} {σ τ d : Nat} (hd : d < 10) (gm : good T F m σ) (gn : good T F n τ) (h : sI σ τ d F (12 * m) (12 * n) ≤ 0) : Sep d (row T F m) (row T F n) := by
  have key : ∀ x y : Int, (x = 12 * m ∨ x = 12 * m + 4 ∨ x = 12 * m + 8) → (y = 12 * n ∨ y = 12 * n + 4 ∨ y = 12 * n + 8) → lv d (wt F x) (wt F y) := by
    intro x y hx hy
    have c1 := corner_max gm.2.1 hx hd
    have c2 := corner_max gn.2.1 hy hd
    have nx : nr F x := by rcases hx with rfl | rfl | rfl; exact gm.2.2.1; exact gm.2.2.2.1; exact gm.2.2.2.2
    have ny : nr F y := by rcases hy with rfl | rfl | rfl; exact gn.2.2.1; exact gn.2.2.2.1; exact gn.2.2.2.2
    show 0 ≤ sgZ (HP d F y - HP d F x) (HQ d F y - HQ d F x)
    rw [hI_sg nx ny, ← sg_nn]
    unfold sI at h
    omega
  intro x hx y hy
  unfold cs row at hx hy
  simp only [List.mem_cons, List.not_mem_nil, or_false] at hx hy
  rcases hx with rfl | rfl | rfl <;> rcases hy with rfl | rfl | rfl <;> exact key _ _ (by omega) (by omega)
theorem cl_dis {Lo Hi T F : Int → Int} {m n : Int} {σ τ : Nat} (gm : good T F m σ) (gn : good T F n τ) (sm : ms Lo Hi F m) (sn : ms Lo Hi F n) (h : clZ Lo Hi T F m n = false) : Dis (row T F m) (row T F n) := by
  have ov := ov_iff gm.2.1 gn.2.1 sm sn
  have ap := ap_iff gm.2.1 gn.2.1 sm sn
  have k : ∃ d, d < 10 ∧ sI σ τ d F (12 * m) (12 * n) ≤ 0 := by
    have no : ovZ Lo Hi m n = false := by
      cases q : ovZ Lo Hi m n with
      | false => rfl
      | true =>
        have a := ap.mpr (fun d hd => Int.le_of_lt (ov.mp q d hd))
        unfold clZ at h
        rw [a, q] at h
        cases h
    rcases Classical.em (∃ d, d < 10 ∧ sI σ τ d F (12 * m) (12 * n) ≤ 0) with c | c
    · exact c
    · exfalso
      rw [ov.mpr (fun d hd => by
        rcases Int.lt_or_le 0 (sI σ τ d F (12 * m) (12 * n)) with q | q
        · exact q
        · exact absurd ⟨d, hd, q⟩ c)] at no
      cases no
  obtain ⟨d, hd, s⟩ := k
  exact sep_dis hd (good_v.mp gm).1 (good_v.mp gn).1 (sI_sep hd gm gn s)
