/-! DEFLATE: the same answers and states -/
theorem fstZ_true {n : Nat} {f : Int → Bool} (h : ¬ fstZ n f = -1) : f (fstZ n f) = true := by
  induction n with
  | zero => exact absurd rfl h
  | succ n ih =>
    have e : fstZ (n + 1) f = (if fstZ n f = -1 then (if f n then (n : Int) else -1) else fstZ n f) := rfl
    rw [e] at h ⊢
    by_cases c : fstZ n f = -1
    · rw [if_pos c] at h ⊢
      by_cases d : f n = true
      · rw [if_pos d]; exact d
      · rw [if_neg d] at h; exact absurd rfl h
    · rw [if_neg c] at h ⊢; exact ih c
theorem flb_t {T F : Int → Int} {z y : Int} (h : ¬ flbZ T F z y = -1) (hz : 0 ≤ z) : (0 ≤ flbZ T F z y ∧ flbZ T F z y < z) ∧ T (flbZ T F z y) = 1 ∧ wt F (12 * flbZ T F z y) = wt F (12 * y + 4) ∧ wt F (12 * flbZ T F z y + 4) = wt F (12 * y) := by
  have r := flb_in T F z y hz
  have q := fstZ_true (f := fun n => decide (T n = 1) && (pS F (12 * n) (12 * y + 4) && pS F (12 * n + 4) (12 * y))) h
  have q : (decide (T (flbZ T F z y) = 1) && (pS F (12 * flbZ T F z y) (12 * y + 4) && pS F (12 * flbZ T F z y + 4) (12 * y))) = true := q
  simp only [Bool.and_eq_true, decide_eq_true_iff, pS_wt] at q
  exact ⟨by omega, q.1, q.2.1, q.2.2⟩
theorem flc_t {F : Int → Int} {z y : Int} (h : ¬ flcZ F z y = -1) (hz : 0 ≤ z) : (0 ≤ flcZ F z y ∧ flcZ F z y < z) ∧ flcZ F z y ≠ y ∧ wt F (12 * flcZ F z y) = wt F (12 * y) ∧ wt F (12 * flcZ F z y + 8) = wt F (12 * y + 8) := by
  have r := flc_in F z y hz
  have q := fstZ_true (f := fun m => decide (¬ m = y) && (pS F (12 * m) (12 * y) && pS F (12 * m + 8) (12 * y + 8))) h
  have q : (decide (¬ flcZ F z y = y) && (pS F (12 * flcZ F z y) (12 * y) && pS F (12 * flcZ F z y + 8) (12 * y + 8))) = true := q
  simp only [Bool.and_eq_true, decide_eq_true_iff, pS_wt] at q
  exact ⟨by omega, q.1, q.2.1, q.2.2⟩
theorem flb_c {T F T' F' : Int → Int} {z y : Int} (h : ag T F T' F' z) (hy : 0 ≤ y ∧ y < z) : flbZ T' F' z y = flbZ T F z y := by
  unfold flbZ
  refine fstZ_congr (fun n a b => ?_)
  rw [h.1 n a (by omega), pS_ag h (by omega) (by omega), pS_ag h (by omega) (by omega)]
theorem flc_c {T F T' F' : Int → Int} {z y : Int} (h : ag T F T' F' z) (hy : 0 ≤ y ∧ y < z) : flcZ F' z y = flcZ F z y := by
  unfold flcZ
  refine fstZ_congr (fun n a b => ?_)
  rw [pS_ag h (by omega) (by omega), pS_ag h (by omega) (by omega)]
def shH (h : Hf) : Hf := (h.1, vS h.2.1, vS h.2.2.1, vS h.2.2.2)
/-- what has been put together so far -/
abbrev Pt (T F : Int → Int) (z : Int) (k : Nat) (zn : Int) (Tn Fn U : Int → Int) : Prop := (0 ≤ zn ∧ zn ≤ k) ∧ (∀ j, 0 ≤ j → j < zn → ∃ ρ, vh (shH (row Tn Fn j)) ρ) ∧ (∃ own : Int → Int, ∀ j, 0 ≤ j → j < zn → ∀ h ∈ kids (shH (row Tn Fn j)), ∃ i, 0 ≤ i ∧ i < z ∧ row T F i = h ∧ own i = j ∧ U i ≠ 0) ∧ (∀ i, 0 ≤ i → i < z → T i = 0 → (k : Int) ≤ i → U i = 0)
theorem Pt.i1 {T F : Int → Int} {z : Int} {k : Nat} {zn : Int} {Tn Fn U : Int → Int} (P : Pt T F z k zn Tn Fn U) : 0 ≤ zn ∧ zn ≤ k := P.1
theorem Pt.i2 {T F : Int → Int} {z : Int} {k : Nat} {zn : Int} {Tn Fn U : Int → Int} (P : Pt T F z k zn Tn Fn U) : ∀ j, 0 ≤ j → j < zn → ∃ ρ, vh (shH (row Tn Fn j)) ρ := P.2.1
theorem Pt.i3 {T F : Int → Int} {z : Int} {k : Nat} {zn : Int} {Tn Fn U : Int → Int} (P : Pt T F z k zn Tn Fn U) : ∃ own : Int → Int, ∀ j, 0 ≤ j → j < zn → ∀ h ∈ kids (shH (row Tn Fn j)), ∃ i, 0 ≤ i ∧ i < z ∧ row T F i = h ∧ own i = j ∧ U i ≠ 0 := P.2.2.1
theorem Pt.i4 {T F : Int → Int} {z : Int} {k : Nat} {zn : Int} {Tn Fn U : Int → Int} (P : Pt T F z k zn Tn Fn U) : ∀ i, 0 ≤ i → i < z → T i = 0 → (k : Int) ≤ i → U i = 0 := P.2.2.2
theorem Pt_same {T F : Int → Int} {z : Int} {k : Nat} {zn : Int} {Tn Fn U : Int → Int} (P : Pt T F z k zn Tn Fn U) : Pt T F z (k + 1) zn Tn Fn U :=
  ⟨by have := P.i1; omega, P.i2, P.i3, fun i a b c d => P.i4 i a b c (by omega)⟩
theorem row_new (Tn Fn F : Int → Int) (zn t a b c : Int) : row (uZ Tn zn t) (wrN Fn zn F a b c) zn = (t, wt F a, wt F b, wt F c) := by
  rw [row_rF, rF_wr, uZ_s]
theorem row_old {Tn Fn F : Int → Int} {zn t a b c j : Int} (h : j ≠ zn) : row (uZ Tn zn t) (wrN Fn zn F a b c) j = row Tn Fn j := by
  rw [row_rF, rF_wr_out h, uZ_n h]; rfl
theorem Pt_new {T F : Int → Int} {z : Int} {k : Nat} {zn : Int} {Tn Fn U U1 : Int → Int} {t a b c : Int} (P : Pt T F z k zn Tn Fn U) (I : Int → Prop) [DecidablePred I]
    (v : ∃ ρ, vh (shH (t, wt F a, wt F b, wt F c)) ρ)
    (hk : ∀ h ∈ kids (shH (t, wt F a, wt F b, wt F c)), ∃ i, 0 ≤ i ∧ i < z ∧ row T F i = h ∧ I i)
    (h0 : ∀ i, I i → U i = 0) (h1 : ∀ i, I i → U1 i ≠ 0) (h2 : ∀ i, ¬ I i → U1 i = U i)
    (h4 : ∀ i, 0 ≤ i → i < z → T i = 0 → ((k + 1 : Nat) : Int) ≤ i → ¬ I i) : Pt T F z (k + 1) (zn + 1) (uZ Tn zn t) (wrN Fn zn F a b c) U1 := by
  have hz := P.i1
  refine ⟨by omega, ?_, ?_, ?_⟩
  · intro j j0 j1
    rcases (show j = zn ∨ j < zn by omega) with rfl | q
    · rw [row_new]; exact v
    · rw [row_old (by omega)]; exact P.i2 j j0 q
  · obtain ⟨own, ho⟩ := P.i3
    refine ⟨fun i => if I i then zn else own i, ?_⟩
    intro j j0 j1 h hh
    rcases (show j = zn ∨ j < zn by omega) with rfl | q
    · rw [row_new] at hh
      obtain ⟨i, a0, a1, a2, a3⟩ := hk h hh
      exact ⟨i, a0, a1, a2, if_pos a3, h1 i a3⟩
    · rw [row_old (by omega)] at hh
      obtain ⟨i, a0, a1, a2, a3, a4⟩ := ho j j0 q h hh
      have n : ¬ I i := fun w => a4 (h0 i w)
      exact ⟨i, a0, a1, a2, (if_neg n).trans a3, by rw [h2 i n]; exact a4⟩
  · intro i a0 a1 a2 a3
    have n := h4 i a0 a1 a2 a3
    rw [h2 i n]; exact P.i4 i a0 a1 a2 (by omega)
theorem Pt_step {T F : Int → Int} {z : Int} {k : Nat} {zn : Int} {Tn Fn U : Int → Int} (hz : 0 ≤ z) (hp : pat T F z) (hw : Pw T F z) (hk : (k : Int) < z) (tk : T k = 0) (P : Pt T F z k zn Tn Fn U) :
    Pt T F z (k + 1) (ptN T F U z k zn Tn Fn).1 (ptN T F U z k zn Tn Fn).2.1 (ptN T F U z k zn Tn Fn).2.2.1 (ptN T F U z k zn Tn Fn).2.2.2 := by
  unfold ptN
  by_cases c : flbZ T F z k = -1 ∨ flcZ F z k = -1 ∨ ¬ U (flbZ T F z k) = 0
  · rw [if_pos c]; exact Pt_same P
  · rw [if_neg c]
    have c1 : ¬ flbZ T F z k = -1 := fun w => c (Or.inl w)
    have c2 : ¬ flcZ F z k = -1 := fun w => c (Or.inr (Or.inl w))
    have c3 : U (flbZ T F z k) = 0 := by
      rcases Classical.em (U (flbZ T F z k) = 0) with w | w
      · exact w
      · exact absurd (Or.inr (Or.inr w)) c
    obtain ⟨rn, tn, n1, n2⟩ := flb_t c1 hz
    obtain ⟨rm, nm, m1, m2⟩ := flc_t c2 hz
    obtain ⟨n, en⟩ : ∃ n, n = flbZ T F z k := ⟨_, rfl⟩
    obtain ⟨m, em⟩ : ∃ m, m = flcZ F z k := ⟨_, rfl⟩
    rw [← en] at rn tn n1 n2 c3 ⊢
    rw [← em] at rm nm m1 m2 ⊢
    obtain ⟨⟨σ, vX⟩, -⟩ := pat_v hp (n := k) ⟨by omega, hk⟩
    obtain ⟨⟨τ, vN⟩, -⟩ := pat_v hp rn
    obtain ⟨⟨ρ, vM⟩, -⟩ := pat_v hp rm
    have uk : U k = 0 := P.i4 k (by omega) hk tk (Int.le_refl _)
    have kn : (k : Int) ≠ n := by intro w; rw [← w] at tn; omega
    by_cases t : T m = 0
    · rw [if_pos t]
      have J := join_2 vX tk vN tn n1 n2 (hw k n (by omega) hk rn.1 rn.2 kn)
      have e : shH ((0 : Int), wt F (12 * n + 8), wt F (12 * (k : Int) + 8), wt F (12 * (k : Int))) = join2 (row T F k) (row T F n) := rfl
      refine Pt_new (U1 := uZ (uZ U (k : Int) 1) n 1) (I := fun i => i = k ∨ i = n) P (by rw [e]; exact J.1) ?_ ?_ ?_ ?_ ?_
      · intro h hh
        rw [e, J.2] at hh
        simp only [List.mem_cons, List.not_mem_nil, or_false] at hh
        rcases hh with rfl | rfl
        · exact ⟨k, by omega, hk, rfl, Or.inl rfl⟩
        · exact ⟨n, rn.1, rn.2, rfl, Or.inr rfl⟩
      · rintro i (rfl | rfl)
        · exact uk
        · exact c3
      · rintro i (rfl | rfl)
        · rw [uZ_n kn, uZ_s]; decide
        · rw [uZ_s]; decide
      · intro i w
        rw [uZ_n (fun q => w (Or.inr q)), uZ_n (fun q => w (Or.inl q))]
      · rintro i a0 a1 a2 a3 (w | w)
        · omega
        · rw [w] at a2; omega
    · rw [if_neg t]
      by_cases um : U m = 0
      · rw [if_pos um]
        have t1 : T m = 1 := by have := pat_T hp rm; omega
        have J := join_3 vX tk vN tn n1 n2 vM t1 m1 m2 (hw k n (by omega) hk rn.1 rn.2 kn) (hw k m (by omega) hk rm.1 rm.2 (fun w => nm w.symm))
        have e : shH ((1 : Int), wt F (12 * (k : Int) + 8), wt F (12 * n + 8), wt F (12 * m + 4)) = join3 (row T F k) (row T F n) (row T F m) := rfl
        refine Pt_new (U1 := uZ (uZ (uZ U m 1) (k : Int) 1) n 1) (I := fun i => i = k ∨ i = n ∨ i = m) P (by rw [e]; exact J.1) ?_ ?_ ?_ ?_ ?_
        · intro h hh
          rw [e, J.2] at hh
          simp only [List.mem_cons, List.not_mem_nil, or_false] at hh
          rcases hh with rfl | rfl | rfl
          · exact ⟨m, rm.1, rm.2, rfl, Or.inr (Or.inr rfl)⟩
          · exact ⟨n, rn.1, rn.2, rfl, Or.inr (Or.inl rfl)⟩
          · exact ⟨k, by omega, hk, rfl, Or.inl rfl⟩
        · rintro i (rfl | rfl | rfl)
          · exact uk
          · exact c3
          · exact um
        · intro i w
          by_cases q1 : i = n
          · rw [q1, uZ_s]; decide
          · rw [uZ_n q1]
            by_cases q2 : i = k
            · rw [q2, uZ_s]; decide
            · rw [uZ_n q2]
              have q3 : i = m := by rcases w with w | w | w; exact absurd w q2; exact absurd w q1; exact w
              rw [q3, uZ_s]; decide
        · intro i w
          rw [uZ_n (fun q => w (Or.inr (Or.inl q))), uZ_n (fun q => w (Or.inl q)), uZ_n (fun q => w (Or.inr (Or.inr q)))]
        · rintro i a0 a1 a2 a3 (w | w | w)
          · omega
          · rw [w] at a2; omega
          · rw [w] at a2; omega
      · rw [if_neg um]; exact Pt_same P
theorem Pt_all {T F U Tn Fn : Int → Int} {z : Int} (hz : 0 ≤ z) (hp : pat T F z) (hw : Pw T F z) (h0 : ∀ i, 0 ≤ i → i < z → U i = 0) (k : Nat) (hk : (k : Int) ≤ z) : Pt T F z k (ptA T F U z Tn Fn k).1 (ptA T F U z Tn Fn k).2.1 (ptA T F U z Tn Fn k).2.2.1 (ptA T F U z Tn Fn k).2.2.2 := by
  induction k with
  | zero => exact ⟨⟨Int.le_refl _, Int.le_refl _⟩, fun j a b => absurd (show j < 0 from b) (by omega), ⟨fun _ => 0, fun j a b => absurd (show j < 0 from b) (by omega)⟩, fun i a b _ _ => h0 i a b⟩
  | succ k ih =>
    have P := ih (by omega)
    have e : ptA T F U z Tn Fn (k + 1) = if T k = 0 then ptN T F (ptA T F U z Tn Fn k).2.2.2 z k (ptA T F U z Tn Fn k).1 (ptA T F U z Tn Fn k).2.1 (ptA T F U z Tn Fn k).2.2.1 else ptA T F U z Tn Fn k := rfl
    rw [e]
    by_cases t : T k = 0
    · rw [if_pos t]
      exact Pt_step hz hp hw (by omega) t P
    · rw [if_neg t]; exact Pt_same P
/-- two rows of work agree -/
def pa (z zn : Int) (Tn Fn U : Int → Int) (zn' : Int) (Tn' Fn' U' : Int → Int) : Prop := zn' = zn ∧ ag Tn Fn Tn' Fn' zn ∧ ∀ i, 0 ≤ i → i < z → U' i = U i
theorem pa_new {T F T' F' : Int → Int} {z zn zn' t a b c : Int} {Tn Fn U Tn' Fn' U' U1 U1' : Int → Int} (h : ag T F T' F' z) (p : pa z zn Tn Fn U zn' Tn' Fn' U') (hn : 0 ≤ zn) (ha : 0 ≤ a ∧ a + 4 ≤ 12 * z) (hb : 0 ≤ b ∧ b + 4 ≤ 12 * z) (hc : 0 ≤ c ∧ c + 4 ≤ 12 * z) (hu : ∀ i, 0 ≤ i → i < z → U1' i = U1 i) : pa z (zn + 1) (uZ Tn zn t) (wrN Fn zn F a b c) U1 (zn' + 1) (uZ Tn' zn' t) (wrN Fn' zn' F' a b c) U1' := by
  obtain ⟨rfl, q, -⟩ := p
  refine ⟨rfl, ?_, hu⟩
  rw [ag_rows] at q ⊢
  have w : ∀ p, 0 ≤ p → p + 4 ≤ 12 * z → wt F' p = wt F p := fun p h0 h1 => wt_eq.mpr (ag_sp h h0 h1)
  intro j j0 j1
  rcases (show j = zn' ∨ j < zn' by omega) with rfl | r
  · rw [row_new, row_new, w a ha.1 ha.2, w b hb.1 hb.2, w c hc.1 hc.2]
  · rw [row_old (by omega), row_old (by omega)]; exact q j j0 r
theorem pa_u {z : Int} {U U' : Int → Int} (e v : Int) (h : ∀ i, 0 ≤ i → i < z → U' i = U i) : ∀ i, 0 ≤ i → i < z → uZ U' e v i = uZ U e v i := by
  intro i a b
  unfold uZ; rw [h i a b]
theorem pa_step {T F T' F' : Int → Int} {z zn zn' y : Int} {Tn Fn U Tn' Fn' U' : Int → Int} (h : ag T F T' F' z) (hz : 0 ≤ z) (hy : 0 ≤ y ∧ y < z) (hn : 0 ≤ zn) (p : pa z zn Tn Fn U zn' Tn' Fn' U') :
    pa z (ptN T F U z y zn Tn Fn).1 (ptN T F U z y zn Tn Fn).2.1 (ptN T F U z y zn Tn Fn).2.2.1 (ptN T F U z y zn Tn Fn).2.2.2 (ptN T' F' U' z y zn' Tn' Fn').1 (ptN T' F' U' z y zn' Tn' Fn').2.1 (ptN T' F' U' z y zn' Tn' Fn').2.2.1 (ptN T' F' U' z y zn' Tn' Fn').2.2.2 := by
  unfold ptN
  rw [flb_c h hy, flc_c h hy]
  have rn := flb_in T F z y hz
  have rm := flc_in F z y hz
  obtain ⟨n, en⟩ : ∃ n, n = flbZ T F z y := ⟨_, rfl⟩
  obtain ⟨m, em⟩ : ∃ m, m = flcZ F z y := ⟨_, rfl⟩
  rw [← en] at rn ⊢
  rw [← em] at rm ⊢
  by_cases c1 : n = -1
  · rw [if_pos (Or.inl c1), if_pos (Or.inl c1)]; exact p
  · by_cases c2 : m = -1
    · rw [if_pos (Or.inr (Or.inl c2)), if_pos (Or.inr (Or.inl c2))]; exact p
    · have un : U' n = U n := p.2.2 n (by omega) rn.2
      have um : U' m = U m := p.2.2 m (by omega) rm.2
      have tm : T' m = T m := h.1 m (by omega) rm.2
      rw [un, um, tm]
      by_cases c : n = -1 ∨ m = -1 ∨ ¬ U n = 0
      · rw [if_pos c, if_pos c]; exact p
      · rw [if_neg c, if_neg c]
        by_cases t : T m = 0
        · rw [if_pos t, if_pos t]
          exact pa_new h p hn (by omega) (by omega) (by omega) (pa_u _ _ (pa_u _ _ p.2.2))
        · rw [if_neg t, if_neg t]
          by_cases u : U m = 0
          · rw [if_pos u, if_pos u]
            exact pa_new h p hn (by omega) (by omega) (by omega) (pa_u _ _ (pa_u _ _ (pa_u _ _ p.2.2)))
          · rw [if_neg u, if_neg u]; exact p
theorem ptA_pos (T F U : Int → Int) (z : Int) (Tn Fn : Int → Int) (k : Nat) : 0 ≤ (ptA T F U z Tn Fn k).1 := by
  induction k with
  | zero => exact Int.le_refl _
  | succ k ih =>
    have e : ptA T F U z Tn Fn (k + 1) = if T k = 0 then ptN T F (ptA T F U z Tn Fn k).2.2.2 z k (ptA T F U z Tn Fn k).1 (ptA T F U z Tn Fn k).2.1 (ptA T F U z Tn Fn k).2.2.1 else ptA T F U z Tn Fn k := rfl
    rw [e]
    split
    · have := (ptN_z T F (ptA T F U z Tn Fn k).2.2.2 z k (ptA T F U z Tn Fn k).1 (ptA T F U z Tn Fn k).2.1 (ptA T F U z Tn Fn k).2.2.1).1
      omega
    · exact ih
theorem pa_all {T F T' F' U U' Tn Fn Tn' Fn' : Int → Int} {z : Int} (h : ag T F T' F' z) (hz : 0 ≤ z) (hu : ∀ i, 0 ≤ i → i < z → U' i = U i) (k : Nat) (hk : (k : Int) ≤ z) :
    pa z (ptA T F U z Tn Fn k).1 (ptA T F U z Tn Fn k).2.1 (ptA T F U z Tn Fn k).2.2.1 (ptA T F U z Tn Fn k).2.2.2 (ptA T' F' U' z Tn' Fn' k).1 (ptA T' F' U' z Tn' Fn' k).2.1 (ptA T' F' U' z Tn' Fn' k).2.2.1 (ptA T' F' U' z Tn' Fn' k).2.2.2 := by
  induction k with
  | zero => exact ⟨rfl, ⟨fun j a b => absurd (show j < 0 from b) (by omega), fun j a b => absurd (show j < 12 * 0 from b) (by omega)⟩, hu⟩
  | succ k ih =>
    have P := ih (by omega)
    have e : ptA T F U z Tn Fn (k + 1) = if T k = 0 then ptN T F (ptA T F U z Tn Fn k).2.2.2 z k (ptA T F U z Tn Fn k).1 (ptA T F U z Tn Fn k).2.1 (ptA T F U z Tn Fn k).2.2.1 else ptA T F U z Tn Fn k := rfl
    have e' : ptA T' F' U' z Tn' Fn' (k + 1) = if T' k = 0 then ptN T' F' (ptA T' F' U' z Tn' Fn' k).2.2.2 z k (ptA T' F' U' z Tn' Fn' k).1 (ptA T' F' U' z Tn' Fn' k).2.1 (ptA T' F' U' z Tn' Fn' k).2.2.1 else ptA T' F' U' z Tn' Fn' k := rfl
    rw [e, e', h.1 k (by omega) (by omega)]
    by_cases t : T k = 0
    · rw [if_pos t, if_pos t]
      exact pa_step h hz ⟨by omega, by omega⟩ (ptA_pos _ _ _ _ _ _ _) P
    · rw [if_neg t, if_neg t]; exact P
/-! made smaller -/
theorem shq_row {T Fn Fr : Int → Int} {m j : Int} (h : shq Fn Fr m) (h0 : 0 ≤ j) (h1 : j < m) : row T Fr j = shH (row T Fn j) := by
  have a := h j 0 h0 h1 (by decide) (by decide)
  have b := h j 1 h0 h1 (by decide) (by decide)
  have c := h j 2 h0 h1 (by decide) (by decide)
  rw [show 12 * j + 4 * 0 = 12 * j by omega] at a
  rw [show 12 * j + 4 * 1 = 12 * j + 4 by omega] at b
  rw [show 12 * j + 4 * 2 = 12 * j + 8 by omega] at c
  unfold row shH wt vS
  simp only [Prod.mk.injEq, true_and]
  exact ⟨a, b, c⟩
theorem wt_out {F : Int → Int} {p q : Int} (h : q + 4 ≤ p ∨ p + 4 ≤ q) : wt (sh4 F p) q = wt F q := by
  unfold wt; rw [sh4_out (by omega), sh4_out (by omega), sh4_out (by omega), sh4_out (by omega)]
theorem wt_sh (F : Int → Int) (p : Int) : wt (sh4 F p) p = vS (wt F p) := by
  have e := st4_at F p (F (p + 1) - F (p + 3) - F p) (F (p + 2) - F (p + 3)) (F (p + 1) - F p) (F (p + 2) - F p - F (p + 3))
  unfold wt vS
  show (sh4 F p p, sh4 F p (p + 1), sh4 F p (p + 2), sh4 F p (p + 3)) = _
  unfold sh4
  rw [e.1, e.2.1, e.2.2.1, e.2.2.2]
theorem shN_row (T F : Int → Int) (n : Nat) {j : Int} (h0 : 0 ≤ j) (h1 : j < n) : row T (shN F n) j = shH (row T F j) := by
  induction n with
  | zero => omega
  | succ n ih =>
    have e : shN F (n + 1) = sh4 (sh4 (sh4 (shN F n) (12 * n)) (12 * n + 4)) (12 * n + 8) := rfl
    rcases (show j < n ∨ j = n by omega) with q | rfl
    · rw [← ih q, e]
      unfold row
      rw [wt_out (by omega), wt_out (by omega), wt_out (by omega), wt_out (by omega), wt_out (by omega), wt_out (by omega), wt_out (by omega), wt_out (by omega), wt_out (by omega)]
    · rw [e]
      unfold row shH
      have o : ∀ p, 12 * (n : Int) ≤ p → wt (shN F n) p = wt F p := by
        intro p hp; unfold wt; rw [shN_out (by omega), shN_out (by omega), shN_out (by omega), shN_out (by omega)]
      rw [wt_out (by omega), wt_out (by omega), wt_sh, o _ (by omega), wt_out (by omega), wt_sh, wt_out (by omega), o _ (by omega), wt_sh, wt_out (by omega), wt_out (by omega), o _ (by omega)]
theorem allN_iff {T Fr : Int → Int} {m : Int} : allN Fr m ↔ ∀ j, 0 ≤ j → j < m → nH (row T Fr j) = true := by
  constructor
  · intro h j a b
    rw [← any12]
    unfold wlZ
    rw [anyZ_f.mpr (fun i c d => ?_)]
    · rfl
    · rw [h (i + 12 * j) (by omega) (by omega)]; rfl
  · intro h k a b
    have := h (k / 12) (by omega) (by omega)
    rw [← any12] at this
    unfold wlZ at this
    rw [Bool.not_eq_true', anyZ_f] at this
    have := this (k % 12) (by omega) (by omega)
    rw [show k % 12 + 12 * (k / 12) = k by omega] at this
    simpa using this
theorem fil_0' {U : Int → Int} {z i : Int} (hz : z ≤ 400) (h0 : 0 ≤ i) (h1 : i < z) : fil U 400 i = 0 := by
  unfold fil; rw [if_pos (by omega)]
theorem St_deflate {z : Int} {T F Lo Hi T' F' : Int → Int} (S : St z T F Lo Hi T' F') {U U' T0 F0 Y0 R0 : Int → Int} {zn zn' : Int} {Tn Fp U1 Tn' Fn' U1' : Int → Int}
    (hc : (zn, Tn, Fp, U1) = ptA T F (fil U 400) z T0 F0 z.toNat) (hm : (zn', Tn', Fn', U1') = ptA T' F' (fil U' 400) z Y0 R0 z.toNat) :
    unuZ U1' z = unuZ U1 z ∧ (∀ gd fm Yr Fr, mdf gd zn' Tn' Fn' fm Yr Fr → awlZ (shN Fp zn.toNat) zn = gd) ∧
    (∀ fm Yr Fr, mdf true zn' Tn' Fn' fm Yr Fr → bT Tn → bF (shN Fp zn.toNat) → fm = zn ∧ St zn Tn (shN Fp zn.toNat) (mALo Lo (shN Fp zn.toNat) zn.toNat) (mAHi Hi (shN Fp zn.toNat) zn.toNat) (cpN Yr T' fm) (cpN Fr F' (12 * fm))) := by
  have hz := S.hz
  have P := Pt_all (U := fil U 400) (Tn := T0) (Fn := F0) hz.1 S.p S.w (fun i a b => fil_0' hz.2 a b) z.toNat (by omega)
  have A := pa_all (U := fil U 400) (U' := fil U' 400) (Tn := T0) (Fn := F0) (Tn' := Y0) (Fn' := R0) S.a hz.1 (fun i a b => by rw [fil_0' hz.2 a b, fil_0' hz.2 a b]) z.toNat (by omega)
  rw [← hc] at P A
  rw [← hm] at A
  have A : pa z zn Tn Fp U1 zn' Tn' Fn' U1' := A
  have P : Pt T F z z.toNat zn Tn Fp U1 := P
  obtain ⟨e, A1, A2⟩ := A
  subst e
  have p0 := P.i1
  have A1' := ag_rows.mp A1
  have rc : ∀ j, 0 ≤ j → j < zn' → row Tn (shN Fp zn'.toNat) j = shH (row Tn Fp j) := fun j a b => shN_row Tn Fp _ a (by omega)
  have rm : ∀ Fr, shq Fn' Fr zn' → ∀ j, 0 ≤ j → j < zn' → row Tn' Fr j = row Tn (shN Fp zn'.toNat) j := by
    intro Fr s j a b
    rw [shq_row s a b, rc j a b, A1' j a b]
  have wl : ∀ Fr, shq Fn' Fr zn' → (awlZ (shN Fp zn'.toNat) zn' = true ↔ allN Fr zn') := by
    intro Fr s
    rw [awl_iff (T := Tn) p0.1, allN_iff (T := Tn')]
    constructor
    · intro h j a b; rw [rm Fr s j a b]; exact h j a b
    · intro h j a b; rw [← rm Fr s j a b]; exact h j a b
  refine ⟨cntZ_congr (fun i a b => by rw [A2 i a (by omega)]), ?_, ?_⟩
  · intro gd fm Yr Fr md
    cases gd with
    | true =>
      obtain ⟨-, -, s, q⟩ := md.1 rfl
      exact (wl Fr s).mpr q
    | false =>
      obtain ⟨Fq, s, q⟩ := md.2 rfl
      cases w : awlZ (shN Fp zn'.toNat) zn' with
      | false => rfl
      | true => exact absurd ((wl Fq s).mp w) q
  · intro fm Yr Fr md b1 b2
    obtain ⟨e1, e2, s, q⟩ := md.1 rfl
    subst e1
    subst e2
    have w := (wl Fr s).mpr q
    have near := (awl_iff (T := Tn) p0.1).mp w
    have pn : pat Tn (shN Fp fm.toNat) fm := by
      refine pat_of (fun j a b => ⟨?_, near j a b⟩)
      rw [rc j a b]; exact P.i2 j a b
    have agr : ag Tn (shN Fp fm.toNat) Yr Fr fm := by rw [ag_rows]; exact rm Fr s
    have py := pat_ag agr pn
    refine ⟨rfl, ⟨by omega, ?_, pn, ?_, mss_A' p0.1, b1, b2, bL_mALo S.bl b2 _, bL_mAHi S.bh b2 _, bT_cp S.bt' py, bF_cp S.bf' py⟩⟩
    · rw [ag_rows]
      intro j a b
      rw [row_cp ⟨a, b⟩]; exact rm Fr s j a b
    · obtain ⟨own, ho⟩ := P.i3
      have deep : ∀ m n, 0 ≤ m → m < fm → 0 ≤ n → n < fm → m ≠ n → ∀ x ∈ kids (shH (row Tn Fp m)), ∀ y ∈ kids (shH (row Tn Fp n)), Dis x y := by
        intro m n m0 m1 n0 n1 mn x hx y hy
        obtain ⟨i, a0, a1, a2, a3, -⟩ := ho m m0 m1 x hx
        obtain ⟨j, c0, c1, c2, c3, -⟩ := ho n n0 n1 y hy
        rw [← a2, ← c2]
        refine S.w i j a0 a1 c0 c1 (fun w => mn ?_)
        rw [← a3, ← c3, w]
      intro m n m0 m1 n0 n1 mn
      rw [rc m m0 m1, rc n n0 n1]
      intro l
      cases l with
      | zero =>
        intro e
        have e : shH (row Tn Fp m) = shH (row Tn Fp n) := e
        have len := (kids_len (shH (row Tn Fp m))).2
        have x := List.getElem_mem (l := kids (shH (row Tn Fp m))) (n := 0) (by omega)
        exact deep m n m0 m1 n0 n1 mn _ x _ (by rw [← e]; exact x) 0 rfl
      | succ l =>
        rintro ⟨x, hx, y, hy, s⟩
        exact deep m n m0 m1 n0 n1 mn x hx y hy l s
