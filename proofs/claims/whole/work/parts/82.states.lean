/-! STATES of the class and of the model, side by side -/
abbrev St (z : Int) (T F Lo Hi T' F' : Int → Int) : Prop := (0 ≤ z ∧ z ≤ 400) ∧ (ag T F T' F' z) ∧ (pat T F z) ∧ (Pw T F z) ∧ (mss Lo Hi F z) ∧ (bT T) ∧ (bF F) ∧ (bL Lo) ∧ (bL Hi) ∧ (bT T') ∧ (bF F')
theorem St.hz {z : Int} {T F Lo Hi T' F' : Int → Int} (S : St z T F Lo Hi T' F') : 0 ≤ z ∧ z ≤ 400 := S.1
theorem St.a {z : Int} {T F Lo Hi T' F' : Int → Int} (S : St z T F Lo Hi T' F') : ag T F T' F' z := S.2.1
theorem St.p {z : Int} {T F Lo Hi T' F' : Int → Int} (S : St z T F Lo Hi T' F') : pat T F z := S.2.2.1
theorem St.w {z : Int} {T F Lo Hi T' F' : Int → Int} (S : St z T F Lo Hi T' F') : Pw T F z := S.2.2.2.1
theorem St.s {z : Int} {T F Lo Hi T' F' : Int → Int} (S : St z T F Lo Hi T' F') : mss Lo Hi F z := S.2.2.2.2.1
theorem St.bt {z : Int} {T F Lo Hi T' F' : Int → Int} (S : St z T F Lo Hi T' F') : bT T := S.2.2.2.2.2.1
theorem St.bf {z : Int} {T F Lo Hi T' F' : Int → Int} (S : St z T F Lo Hi T' F') : bF F := S.2.2.2.2.2.2.1
theorem St.bl {z : Int} {T F Lo Hi T' F' : Int → Int} (S : St z T F Lo Hi T' F') : bL Lo := S.2.2.2.2.2.2.2.1
theorem St.bh {z : Int} {T F Lo Hi T' F' : Int → Int} (S : St z T F Lo Hi T' F') : bL Hi := S.2.2.2.2.2.2.2.2.1
theorem St.bt' {z : Int} {T F Lo Hi T' F' : Int → Int} (S : St z T F Lo Hi T' F') : bT T' := S.2.2.2.2.2.2.2.2.2.1
theorem St.bf' {z : Int} {T F Lo Hi T' F' : Int → Int} (S : St z T F Lo Hi T' F') : bF F' := S.2.2.2.2.2.2.2.2.2.2
def rF (F : Int → Int) (n : Int) : V4 × V4 × V4 := (wt F (12 * n), wt F (12 * n + 4), wt F (12 * n + 8))
theorem row_rF (T F : Int → Int) (n : Int) : row T F n = (T n, rF F n) := rfl
theorem rF_eq {F F' : Int → Int} {n m : Int} (h : ∀ i, 0 ≤ i → i < 12 → F' (12 * n + i) = F (12 * m + i)) : rF F' n = rF F m := by
  have q : ∀ i, 0 ≤ i → i + 3 < 12 → wt F' (12 * n + i) = wt F (12 * m + i) := by
    intro i h0 h1
    rw [wt_eq, Int.add_assoc, Int.add_assoc, Int.add_assoc, Int.add_assoc, Int.add_assoc, Int.add_assoc]
    exact ⟨h i h0 (by omega), h _ (by omega) (by omega), h _ (by omega) (by omega), h _ (by omega) (by omega)⟩
  unfold rF
  have q0 := q 0 (by decide) (by decide)
  rw [Int.add_zero, Int.add_zero] at q0
  rw [q0, q 4 (by decide) (by decide), q 8 (by decide) (by decide)]
theorem rF_wr (F R : Int → Int) (n a b c : Int) : rF (wrN F n R a b c) n = (wt R a, wt R b, wt R c) := by
  have h := wrN_at F R n a b c
  unfold rF wt
  simp only [Int.add_assoc, Int.reduceAdd]
  obtain ⟨a0, a1, a2, a3, b0, b1, b2, b3, c0, c1, c2, c3⟩ := h
  rw [a0, a1, a2, a3, b0, b1, b2, b3, c0, c1, c2, c3]
theorem rF_wr_out {F R : Int → Int} {n m a b c : Int} (h : m ≠ n) : rF (wrN F n R a b c) m = rF F m := rF_eq (fun i h0 h1 => wrN_out (by omega))
theorem rF_pu (F : Int → Int) (n a0 a1 a2 a3 b0 b1 b2 b3 d0 d1 d2 d3 : Int) : rF (pu12 F n a0 a1 a2 a3 b0 b1 b2 b3 d0 d1 d2 d3) n = ((a0, a1, a2, a3), (b0, b1, b2, b3), (d0, d1, d2, d3)) := by
  have h := pu12_at F n a0 a1 a2 a3 b0 b1 b2 b3 d0 d1 d2 d3
  unfold rF wt
  simp only [Int.add_assoc, Int.reduceAdd]
  obtain ⟨a0, a1, a2, a3, b0, b1, b2, b3, c0, c1, c2, c3⟩ := h
  rw [a0, a1, a2, a3, b0, b1, b2, b3, c0, c1, c2, c3]
theorem rF_pu_out {F : Int → Int} {n m a0 a1 a2 a3 b0 b1 b2 b3 d0 d1 d2 d3 : Int} (h : m ≠ n) : rF (pu12 F n a0 a1 a2 a3 b0 b1 b2 b3 d0 d1 d2 d3) m = rF F m := rF_eq (fun i h0 h1 => pu12_out (by omega))
theorem rF_em (F : Int → Int) (n a0 a1 a2 a3 b0 b1 b2 b3 d0 d1 d2 d3 : Int) : rF (em12 F n a0 a1 a2 a3 b0 b1 b2 b3 d0 d1 d2 d3) n = ((a0, a1, a2, a3), (b0, b1, b2, b3), (d0, d1, d2, d3)) := by
  have h := em12_at F n a0 a1 a2 a3 b0 b1 b2 b3 d0 d1 d2 d3
  unfold rF wt
  simp only [Int.add_assoc, Int.reduceAdd]
  obtain ⟨a0, a1, a2, a3, b0, b1, b2, b3, c0, c1, c2, c3⟩ := h
  rw [a0, a1, a2, a3, b0, b1, b2, b3, c0, c1, c2, c3]
theorem rF_em_out {F : Int → Int} {n m a0 a1 a2 a3 b0 b1 b2 b3 d0 d1 d2 d3 : Int} (h : m ≠ n) : rF (em12 F n a0 a1 a2 a3 b0 b1 b2 b3 d0 d1 d2 d3) m = rF F m := rF_eq (fun i h0 h1 => em12_out (by omega))
/-! strips -/
theorem mLo_at {Lo F : Int → Int} {n k : Int} (h : 0 ≤ k ∧ k < 5) : mLo Lo F n (k + 5 * n) = lowZ F n k := by
  unfold mLo
  rcases (show k = 0 ∨ k = 1 ∨ k = 2 ∨ k = 3 ∨ k = 4 by omega) with rfl | rfl | rfl | rfl | rfl
  · rw [uZ_n (by omega), uZ_n (by omega), uZ_n (by omega), uZ_n (by omega), uZ_et (by omega)]
  · rw [uZ_n (by omega), uZ_n (by omega), uZ_n (by omega), uZ_et (by omega)]
  · rw [uZ_n (by omega), uZ_n (by omega), uZ_et (by omega)]
  · rw [uZ_n (by omega), uZ_et (by omega)]
  · rw [uZ_et (by omega)]
theorem mHi_at {Hi F : Int → Int} {n k : Int} (h : 0 ≤ k ∧ k < 5) : mHi Hi F n (k + 5 * n) = higZ F n k := by
  unfold mHi
  rcases (show k = 0 ∨ k = 1 ∨ k = 2 ∨ k = 3 ∨ k = 4 by omega) with rfl | rfl | rfl | rfl | rfl
  · rw [uZ_n (by omega), uZ_n (by omega), uZ_n (by omega), uZ_n (by omega), uZ_et (by omega)]
  · rw [uZ_n (by omega), uZ_n (by omega), uZ_n (by omega), uZ_et (by omega)]
  · rw [uZ_n (by omega), uZ_n (by omega), uZ_et (by omega)]
  · rw [uZ_n (by omega), uZ_et (by omega)]
  · rw [uZ_et (by omega)]
theorem mLo_out {Lo F : Int → Int} {n j : Int} (h : j < 5 * n ∨ 5 * n + 5 ≤ j) : mLo Lo F n j = Lo j := by
  unfold mLo; rw [uZ_n (by omega), uZ_n (by omega), uZ_n (by omega), uZ_n (by omega), uZ_n (by omega)]
theorem mHi_out {Hi F : Int → Int} {n j : Int} (h : j < 5 * n ∨ 5 * n + 5 ≤ j) : mHi Hi F n j = Hi j := by
  unfold mHi; rw [uZ_n (by omega), uZ_n (by omega), uZ_n (by omega), uZ_n (by omega), uZ_n (by omega)]
theorem ms_m (Lo Hi F : Int → Int) (n : Int) : ms (mLo Lo F n) (mHi Hi F n) F n := fun k a b => ⟨mLo_at ⟨a, b⟩, mHi_at ⟨a, b⟩⟩
theorem ms_out {Lo Hi F : Int → Int} {n m : Int} (h : m ≠ n) (s : ms Lo Hi F m) : ms (mLo Lo F n) (mHi Hi F n) F m := fun k a b => by
  rw [mLo_out (by omega), mHi_out (by omega)]; exact s k a b
theorem mss_A (Lo Hi F : Int → Int) (n : Nat) : mss (mALo Lo F n) (mAHi Hi F n) F n := by
  induction n with
  | zero => intro m a b; omega
  | succ n ih =>
    intro m a b
    show ms (mLo (mALo Lo F n) F n) (mHi (mAHi Hi F n) F n) F m
    rcases (show m = n ∨ m < n by omega) with rfl | q
    · exact ms_m _ _ _ _
    · exact ms_out (by omega) (ih m a q)
theorem mss_A' {Lo Hi F : Int → Int} {z : Int} (hz : 0 ≤ z) : mss (mALo Lo F z.toNat) (mAHi Hi F z.toNat) F z := by
  have := mss_A Lo Hi F z.toNat
  rw [show ((z.toNat : Nat) : Int) = z by omega] at this; exact this
theorem low_c {F F' : Int → Int} {n : Int} (h : ∀ k, 12 * n ≤ k → k < 12 * n + 12 → F' k = F k) (k : Int) : lowZ F' n k = lowZ F n k ∧ higZ F' n k = higZ F n k := by
  unfold lowZ higZ hZ
  rw [h _ (by omega) (by omega), h _ (by omega) (by omega), h _ (by omega) (by omega), h _ (by omega) (by omega), h _ (by omega) (by omega), h _ (by omega) (by omega), h _ (by omega) (by omega), h _ (by omega) (by omega), h _ (by omega) (by omega), h _ (by omega) (by omega), h _ (by omega) (by omega), h _ (by omega) (by omega)]
  exact ⟨rfl, rfl⟩
theorem ms_c {Lo Hi F F' : Int → Int} {n : Int} (h : ∀ k, 12 * n ≤ k → k < 12 * n + 12 → F' k = F k) (s : ms Lo Hi F n) : ms Lo Hi F' n := fun k a b => by
  rw [(low_c h k).1, (low_c h k).2]; exact s k a b
/-! near halves -/
def nV (x : V4) : Bool := ftZ x.1 x.2.1 x.2.2.1 x.2.2.2
def nH (h : Hf) : Bool := nV h.2.1 && (nV h.2.2.1 && nV h.2.2.2)
theorem nV_nr {F : Int → Int} {p : Int} : nV (wt F p) = true ↔ nr F p := by
  unfold nV wt ftZ nearZ nr
  simp only [Bool.and_eq_true, decide_eq_true_iff, and_assoc]
theorem nH_nr {T F : Int → Int} {n : Int} : nH (row T F n) = true ↔ nr3 F (12 * n) := by
  unfold nH row nr3
  simp only [Bool.and_eq_true, nV_nr]
theorem pat_of {T F : Int → Int} {z : Int} (h : ∀ n, 0 ≤ n → n < z → (∃ σ, vh (row T F n) σ) ∧ nH (row T F n) = true) : pat T F z := by
  intro n a b
  obtain ⟨⟨σ, v⟩, q⟩ := h n a b
  exact ⟨σ, good_v.mpr ⟨v, nH_nr.mp q⟩⟩
theorem pat_v {T F : Int → Int} {z n : Int} (h : pat T F z) (hn : 0 ≤ n ∧ n < z) : (∃ σ, vh (row T F n) σ) ∧ nH (row T F n) = true := by
  obtain ⟨σ, g⟩ := h n hn.1 hn.2
  rw [good_v] at g
  exact ⟨⟨σ, g.1⟩, nH_nr.mpr g.2⟩
/-! seed -/
def sdL (k : Int) : List Hf :=
  if k = 0 then [(0, (0, 0, 0, 0), uT 0, uT 1), (0, (0, 0, 0, 0), uT 2, uT 1), (0, (0, 0, 0, 0), uT 2, uT 3), (0, (0, 0, 0, 0), uT 4, uT 3), (0, (0, 0, 0, 0), uT 4, uT 5), (0, (0, 0, 0, 0), uT 6, uT 5), (0, (0, 0, 0, 0), uT 6, uT 7), (0, (0, 0, 0, 0), uT 8, uT 7), (0, (0, 0, 0, 0), uT 8, uT 9), (0, (0, 0, 0, 0), uT 0, uT 9)]
  else if k = 1 then [(0, (0, 0, 0, 0), uT 0, uT 1)] else if k = 2 then [(1, (0, 0, 0, 0), uT 0, uT 3)] else []
def sdH (k n : Int) : Hf := (sdL k).getD n.toNat (h0 0)
theorem wt_U (D : Nat) (h : D < 11) : wt z_UNITS (4 * (D : Int)) = uT D := by
  have q := uV_e D h
  have q0 := q 0 (by decide); have q1 := q 1 (by decide); have q2 := q 2 (by decide); have q3 := q 3 (by decide)
  unfold wt uT
  rw [← q0, ← q1, ← q2, ← q3]
  simp
theorem four {k : Int} (h : 0 ≤ k ∧ k ≤ 3) : k = 0 ∨ k = 1 ∨ k = 2 ∨ k = 3 := by omega
theorem tenI {n : Int} (h0 : 0 ≤ n) (h1 : n < 10) : n = 0 ∨ n = 1 ∨ n = 2 ∨ n = 3 ∨ n = 4 ∨ n = 5 ∨ n = 6 ∨ n = 7 ∨ n = 8 ∨ n = 9 := by omega
theorem sd_T {T : Int → Int} {k n : Int} (hk : 0 ≤ k ∧ k ≤ 3) (h0 : 0 ≤ n) (h1 : n < sdZ k) : sdT T k n = (sdH k n).1 := by
  rcases four hk with rfl | rfl | rfl | rfl
  · rw [show sdZ 0 = 10 from rfl] at h1
    show sunT T n = _
    unfold sunT
    rcases tenI h0 h1 with rfl | rfl | rfl | rfl | rfl | rfl | rfl | rfl | rfl | rfl <;> rfl
  · have : n = 0 := by rw [show sdZ 1 = 1 from rfl] at h1; omega
    subst this; rfl
  · have : n = 0 := by rw [show sdZ 2 = 1 from rfl] at h1; omega
    subst this; rfl
  · rw [show sdZ 3 = 0 from rfl] at h1; omega
theorem wU0 : wt z_UNITS 0 = uT 0 := wt_U 0 (by decide)
theorem wU1 : wt z_UNITS 4 = uT 1 := wt_U 1 (by decide)
theorem wU2 : wt z_UNITS 8 = uT 2 := wt_U 2 (by decide)
theorem wU3 : wt z_UNITS 12 = uT 3 := wt_U 3 (by decide)
theorem wU4 : wt z_UNITS 16 = uT 4 := wt_U 4 (by decide)
theorem wU5 : wt z_UNITS 20 = uT 5 := wt_U 5 (by decide)
theorem wU6 : wt z_UNITS 24 = uT 6 := wt_U 6 (by decide)
theorem wU7 : wt z_UNITS 28 = uT 7 := wt_U 7 (by decide)
theorem wU8 : wt z_UNITS 32 = uT 8 := wt_U 8 (by decide)
theorem wU9 : wt z_UNITS 36 = uT 9 := wt_U 9 (by decide)
theorem wUo : wt z_UNITS 40 = (0, 0, 0, 0) := wt_U 10 (by decide)
theorem sd_F {F : Int → Int} {k n : Int} (hk : 0 ≤ k ∧ k ≤ 3) (h0 : 0 ≤ n) (h1 : n < sdZ k) : rF (sdF F k) n = (sdH k n).2 := by
  rcases four hk with rfl | rfl | rfl | rfl
  · rw [show sdZ 0 = 10 from rfl] at h1
    show rF (sunF F) n = _
    unfold sunF
    rcases tenI h0 h1 with rfl | rfl | rfl | rfl | rfl | rfl | rfl | rfl | rfl | rfl <;> (repeat (first | rw [rF_wr] | rw [rF_wr_out (by decide)])) <;> (simp only [wU0, wU1, wU2, wU3, wU4, wU5, wU6, wU7, wU8, wU9, wUo]; rfl)
  · have : n = 0 := by rw [show sdZ 1 = 1 from rfl] at h1; omega
    subst this
    show rF (wrN F 0 z_UNITS 40 0 4) 0 = _
    rw [rF_wr, wUo, wU0, wU1]; rfl
  · have : n = 0 := by rw [show sdZ 2 = 1 from rfl] at h1; omega
    subst this
    show rF (wrN F 0 z_UNITS 40 0 12) 0 = _
    rw [rF_wr, wUo, wU0, wU3]; rfl
  · rw [show sdZ 3 = 0 from rfl] at h1; omega
theorem zU : ∀ D : Nat, D < 40 → z_UNITS (D : Int) = uV (D / 4) (D % 4) := by decide
theorem ms_F {F : Int → Int} {k n : Int} (hk : 0 ≤ k ∧ k ≤ 3) (h0 : 0 ≤ n) (h1 : n < sdZ k) : rF (msF F k) n = (sdH k n).2 := by
  rcases four hk with rfl | rfl | rfl | rfl
  · rw [show sdZ 0 = 10 from rfl] at h1
    unfold msF
    rw [if_pos rfl]
    rcases tenI h0 h1 with rfl | rfl | rfl | rfl | rfl | rfl | rfl | rfl | rfl | rfl <;> (repeat (first | rw [rF_pu] | rw [rF_pu_out (by decide)])) <;> rfl
  · have : n = 0 := by rw [show sdZ 1 = 1 from rfl] at h1; omega
    subst this
    unfold msF
    rw [if_neg (by decide), if_pos rfl, rF_pu]; rfl
  · have : n = 0 := by rw [show sdZ 2 = 1 from rfl] at h1; omega
    subst this
    unfold msF
    rw [if_neg (by decide), if_neg (by decide), if_pos rfl, rF_pu]; rfl
  · rw [show sdZ 3 = 0 from rfl] at h1; omega
theorem sd_ok : ∀ k : Nat, k < 4 → ∀ n : Nat, n < (sdZ k).toNat → vB (sdH k n) = true ∧ nH (sdH k n) = true := by decide +kernel
theorem sd_sep : ∀ k : Nat, k < 4 → ∀ n : Nat, n < (sdZ k).toNat → ∀ m : Nat, m < (sdZ k).toNat → m = n ∨ ∃ d, d < 10 ∧ sepB d (sdH k m) (sdH k n) = true := by decide +kernel
theorem vB_0 {h : Hf} (s : vB h = true) : ∃ ρ, vh h ρ := by
  have := vB_v (P := (0, 0, 0, 0)) s
  have e : tr (0, 0, 0, 0) h = h := by
    obtain ⟨t, ⟨a, b, c, d⟩, ⟨a1, b1, c1, d1⟩, a2, b2, c2, d2⟩ := h
    unfold tr vA; simp
  rw [e] at this; exact this
theorem sdZ_in {k : Int} : 0 ≤ sdZ k ∧ sdZ k ≤ 10 := by unfold sdZ; split <;> (try split) <;> (try split) <;> omega
theorem bT_sd {T : Int → Int} (h : bT T) (k : Int) : bT (sdT T k) := by
  unfold sdT sunT
  split
  · exact bT_uZ (bT_uZ (bT_uZ (bT_uZ (bT_uZ (bT_uZ (bT_uZ (bT_uZ (bT_uZ (bT_uZ h (by decide)) (by decide)) (by decide)) (by decide)) (by decide)) (by decide)) (by decide)) (by decide)) (by decide)) (by decide)
  · split
    · exact bT_uZ h (by decide)
    · split
      · exact bT_uZ h (by decide)
      · exact h
theorem ft_U (D : Nat) (h : D < 10) : ftZ (z_UNITS (4 * (D : Int))) (z_UNITS (4 * (D : Int) + 1)) (z_UNITS (4 * (D : Int) + 2)) (z_UNITS (4 * (D : Int) + 3)) = true := by
  have : ∀ D : Nat, D < 10 → ftZ (z_UNITS (4 * (D : Int))) (z_UNITS (4 * (D : Int) + 1)) (z_UNITS (4 * (D : Int) + 2)) (z_UNITS (4 * (D : Int) + 3)) = true := by decide
  exact this D h
theorem bF_msF {F : Int → Int} (h : bF F) (k : Int) : bF (msF F k) := by
  have o : ftZ 0 0 0 0 = true := by decide
  have u0 := ft_U 0 (by decide); have u1 := ft_U 1 (by decide); have u2 := ft_U 2 (by decide); have u3 := ft_U 3 (by decide); have u4 := ft_U 4 (by decide)
  have u5 := ft_U 5 (by decide); have u6 := ft_U 6 (by decide); have u7 := ft_U 7 (by decide); have u8 := ft_U 8 (by decide); have u9 := ft_U 9 (by decide)
  unfold msF
  split
  · exact bF_pu12 (bF_pu12 (bF_pu12 (bF_pu12 (bF_pu12 (bF_pu12 (bF_pu12 (bF_pu12 (bF_pu12 (bF_pu12 h o u0 u1) o u2 u1) o u2 u3) o u4 u3) o u4 u5) o u6 u5) o u6 u7) o u8 u7) o u8 u9) o u0 u9
  · split
    · exact bF_pu12 h o u0 u1
    · split
      · exact bF_pu12 h o u0 u3
      · exact h
theorem St_seed {z : Int} {T F Lo Hi T' F' : Int → Int} (S : St z T F Lo Hi T' F') {k : Int} (hk : 0 ≤ k ∧ k ≤ 3) (b1 : bT (sdT T k)) (b2 : bF (sdF F k)) : St (sdZ k) (sdT T k) (sdF F k) (mALo Lo (sdF F k) (sdZ k).toNat) (mAHi Hi (sdF F k) (sdZ k).toNat) (sdT T' k) (msF F' k) := by
  have hz := sdZ_in (k := k)
  have r1 : ∀ n, 0 ≤ n → n < sdZ k → row (sdT T k) (sdF F k) n = sdH k n := by
    intro n h0 h1; rw [row_rF, sd_T hk h0 h1, sd_F hk h0 h1]
  have r2 : ∀ n, 0 ≤ n → n < sdZ k → row (sdT T' k) (msF F' k) n = sdH k n := by
    intro n h0 h1; rw [row_rF, sd_T hk h0 h1, ms_F hk h0 h1]
  obtain ⟨i, rfl⟩ : ∃ i : Nat, k = i := ⟨k.toNat, by omega⟩
  have ok : ∀ n : Int, 0 ≤ n → n < sdZ i → vB (sdH i n) = true ∧ nH (sdH i n) = true := by
    intro n h0 h1
    have := sd_ok i (by omega) n.toNat (by omega)
    rw [show ((n.toNat : Nat) : Int) = n by omega] at this; exact this
  refine ⟨by omega, ?_, ?_, ?_, mss_A' hz.1, b1, b2, bL_mALo S.bl b2 _, bL_mAHi S.bh b2 _, bT_sd S.bt' _, bF_msF S.bf' _⟩
  · rw [ag_rows]
    intro n h0 h1
    rw [r1 n h0 h1, r2 n h0 h1]
  · refine pat_of (fun n h0 h1 => ?_)
    rw [r1 n h0 h1]
    exact ⟨vB_0 (ok n h0 h1).1, (ok n h0 h1).2⟩
  · intro m n a b c d e
    rw [r1 m a b, r1 n c d]
    obtain ⟨σ, v1⟩ := vB_0 (ok m a b).1
    obtain ⟨τ, v2⟩ := vB_0 (ok n c d).1
    have q := sd_sep i (by omega) n.toNat (by omega) m.toNat (by omega)
    rw [show ((n.toNat : Nat) : Int) = n by omega, show ((m.toNat : Nat) : Int) = m by omega] at q
    rcases q with q | ⟨d, hd, s⟩
    · omega
    · exact sep_dis hd v1 v2 (sepB_S s)
/-! remove -/
theorem row_rm {T F : Int → Int} {z n m : Int} (hn : 0 ≤ n ∧ n < z) (hm : 0 ≤ m ∧ m < z - 1) : row (cZ T T (n + 1) n (z - n - 1)) (cZ F F (12 * n + 12) (12 * n) (12 * (z - n - 1))) m = row T F (if m < n then m else m + 1) := by
  rw [row_rF, row_rF]
  by_cases c : m < n
  · rw [if_pos c, cZ_out (by omega)]
    rw [rF_eq (fun i h0 h1 => cZ_out (by omega))]
  · rw [if_neg c]
    have e : cZ T T (n + 1) n (z - n - 1) m = T (m + 1) := by unfold cZ; rw [if_pos (by omega)]; congr 1; omega
    rw [e]
    rw [rF_eq (m := m + 1) (F := F) (fun i h0 h1 => by unfold cZ; rw [if_pos (by omega)]; congr 1; omega)]
theorem St_remove {z : Int} {T F Lo Hi T' F' : Int → Int} (S : St z T F Lo Hi T' F') {n : Int} (hn : 0 ≤ n ∧ n < z) : St (z - 1) (cZ T T (n + 1) n (z - n - 1)) (cZ F F (12 * n + 12) (12 * n) (12 * (z - n - 1))) (cZ Lo Lo (5 * n + 5) (5 * n) (5 * (z - n - 1))) (cZ Hi Hi (5 * n + 5) (5 * n) (5 * (z - n - 1))) (cZ T' T' (n + 1) n (z - n - 1)) (cZ F' F' (12 * n + 12) (12 * n) (12 * (z - n - 1))) := by
  have hz := S.hz
  refine ⟨by omega, ?_, ?_, ?_, ?_, bT_cZ S.bt S.bt, bF_cZ S.bf S.bf, bL_cZ S.bl S.bl, bL_cZ S.bh S.bh, bT_cZ S.bt' S.bt', bF_cZ S.bf' S.bf'⟩
  · rw [ag_rows]
    intro m a b
    rw [row_rm hn ⟨a, b⟩, row_rm hn ⟨a, b⟩]
    exact ag_rows.mp S.a _ (by split <;> omega) (by split <;> omega)
  · refine pat_of (fun m a b => ?_)
    rw [row_rm hn ⟨a, b⟩]
    exact pat_v S.p (by split <;> omega)
  · intro m m' a b c d e
    rw [row_rm hn ⟨a, b⟩, row_rm hn ⟨c, d⟩]
    exact S.w _ _ (by split <;> omega) (by split <;> omega) (by split <;> omega) (by split <;> omega) (by split <;> split <;> omega)
  · intro m a b k h0 h1
    have r := row_at (T := T) (F := F) (T' := T) (F' := F) (n := m) rfl
    by_cases c : m < n
    · rw [cZ_out (by omega), cZ_out (by omega)]
      have := S.s m a (by omega) k h0 h1
      rw [this.1, this.2]
      have q := low_c (F := F) (F' := cZ F F (12 * n + 12) (12 * n) (12 * (z - n - 1))) (n := m) (fun j a b => cZ_out (by omega)) k
      rw [q.1, q.2]; exact ⟨rfl, rfl⟩
    · have e1 : cZ Lo Lo (5 * n + 5) (5 * n) (5 * (z - n - 1)) (k + 5 * m) = Lo (k + 5 * (m + 1)) := by unfold cZ; rw [if_pos (by omega)]; congr 1; omega
      have e2 : cZ Hi Hi (5 * n + 5) (5 * n) (5 * (z - n - 1)) (k + 5 * m) = Hi (k + 5 * (m + 1)) := by unfold cZ; rw [if_pos (by omega)]; congr 1; omega
      have := S.s (m + 1) (by omega) (by omega) k h0 h1
      rw [e1, e2, this.1, this.2]
      have g : ∀ i, 0 ≤ i → i < 12 → cZ F F (12 * n + 12) (12 * n) (12 * (z - n - 1)) (12 * m + i) = F (12 * (m + 1) + i) := by
        intro i h0 h1; unfold cZ; rw [if_pos (by omega)]; congr 1; omega
      unfold lowZ higZ hZ
      simp only [Int.add_assoc, Int.reduceAdd]
      have g0 := g 0 (by decide) (by decide)
      rw [Int.add_zero, Int.add_zero] at g0
      rw [g0, g 1 (by decide) (by decide), g 2 (by decide) (by decide), g 3 (by decide) (by decide), g 4 (by decide) (by decide), g 5 (by decide) (by decide), g 6 (by decide) (by decide), g 7 (by decide) (by decide), g 8 (by decide) (by decide), g 9 (by decide) (by decide), g 10 (by decide) (by decide), g 11 (by decide) (by decide)]
      exact ⟨rfl, rfl⟩
