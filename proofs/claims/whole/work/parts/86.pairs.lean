/-! A CALL OF THE CLASS AND THE SAME OF THE MODEL: answers alike, states alike -/
theorem St.bm {z : Int} {T F Lo Hi T' F' : Int → Int} (S : St z T F Lo Hi T' F') : bM F z ∧ bM F' z := by
  have q : bM F z := by
    intro k a b
    obtain ⟨σ, g⟩ := S.p (k / 12) (by omega) (by omega)
    have n3 := g.2.2
    have e : k = 12 * (k / 12) + k % 12 := by omega
    unfold nr3 nr at n3
    rcases (show k % 12 = 0 ∨ k % 12 = 1 ∨ k % 12 = 2 ∨ k % 12 = 3 ∨ k % 12 = 4 ∨ k % 12 = 5 ∨ k % 12 = 6 ∨ k % 12 = 7 ∨ k % 12 = 8 ∨ k % 12 = 9 ∨ k % 12 = 10 ∨ k % 12 = 11 by omega) with r | r | r | r | r | r | r | r | r | r | r | r <;> rw [r] at e <;> rw [e] <;> simp only [Int.add_assoc, Int.reduceAdd] at n3 <;> (try rw [Int.add_zero]) <;> omega
  exact ⟨q, fun k a b => by rw [S.a.2 k a b]; exact q k a b⟩
theorem Sd2 {z lv k : Int} {T F Lo Hi T' F' : Int → Int} (S : St z T F Lo Hi T' F') {r1 z1 lv1 r2 z2 lv2 : Int} {T1 F1 Lo1 Hi1 T2 F2 : Int → Int}
    (h1 : (¬ (0 ≤ k ∧ k ≤ 3) ∧ r1 = -1 ∧ z1 = z ∧ lv1 = lv ∧ T1 = T ∧ F1 = F ∧ Lo1 = Lo ∧ Hi1 = Hi) ∨ ((0 ≤ k ∧ k ≤ 3) ∧ r1 = sdZ k ∧ z1 = sdZ k ∧ lv1 = 0 ∧ T1 = sdT T k ∧ F1 = sdF F k ∧ Lo1 = mALo Lo (sdF F k) (sdZ k).toNat ∧ Hi1 = mAHi Hi (sdF F k) (sdZ k).toNat ∧ bT T1 ∧ bF F1))
    (h2 : (¬ (0 ≤ k ∧ k ≤ 3) ∧ r2 = -1 ∧ z2 = z ∧ lv2 = lv ∧ T2 = T' ∧ F2 = F') ∨ ((0 ≤ k ∧ k ≤ 3) ∧ r2 = sdZ k ∧ z2 = sdZ k ∧ lv2 = 0 ∧ T2 = sdT T' k ∧ F2 = msF F' k)) : r1 = r2 ∧ z2 = z1 ∧ lv2 = lv1 ∧ St z1 T1 F1 Lo1 Hi1 T2 F2 := by
  rcases h1 with ⟨n, rfl, rfl, rfl, rfl, rfl, rfl, rfl⟩ | ⟨n, rfl, rfl, rfl, rfl, rfl, rfl, rfl, b1, b2⟩
  · rcases h2 with ⟨-, rfl, rfl, rfl, rfl, rfl⟩ | ⟨m, -⟩
    · exact ⟨rfl, rfl, rfl, S⟩
    · exact absurd m n
  · rcases h2 with ⟨m, -⟩ | ⟨-, rfl, rfl, rfl, rfl, rfl⟩
    · exact absurd n m
    · exact ⟨rfl, rfl, rfl, St_seed S n b1 b2⟩
theorem Rm2 {z n : Int} {T F Lo Hi T' F' : Int → Int} (S : St z T F Lo Hi T' F') {r1 r2 : Bool} {z1 z2 : Int} {T1 F1 Lo1 Hi1 T2 F2 : Int → Int}
    (h1 : (r1 = true ∧ 0 ≤ n ∧ n < z ∧ z1 = z - 1 ∧ T1 = cZ T T (n + 1) n (z - n - 1) ∧ F1 = cZ F F (12 * n + 12) (12 * n) (12 * (z - n - 1)) ∧ Lo1 = cZ Lo Lo (5 * n + 5) (5 * n) (5 * (z - n - 1)) ∧ Hi1 = cZ Hi Hi (5 * n + 5) (5 * n) (5 * (z - n - 1))) ∨ (r1 = false ∧ ¬ (0 ≤ n ∧ n < z) ∧ z1 = z ∧ T1 = T ∧ F1 = F ∧ Lo1 = Lo ∧ Hi1 = Hi))
    (h2 : (r2 = true ∧ (0 ≤ n ∧ n < z) ∧ z2 = z - 1 ∧ T2 = cZ T' T' (n + 1) n (z - n - 1) ∧ F2 = cZ F' F' (12 * n + 12) (12 * n) (12 * (z - n - 1))) ∨ (r2 = false ∧ ¬ (0 ≤ n ∧ n < z) ∧ z2 = z ∧ T2 = T' ∧ F2 = F')) : zB r1 = zB r2 ∧ z2 = z1 ∧ St z1 T1 F1 Lo1 Hi1 T2 F2 := by
  rcases h1 with ⟨rfl, n1, n2, rfl, rfl, rfl, rfl, rfl⟩ | ⟨rfl, n1, rfl, rfl, rfl, rfl, rfl⟩
  · rcases h2 with ⟨rfl, -, rfl, rfl, rfl⟩ | ⟨-, m, -⟩
    · exact ⟨rfl, rfl, St_remove S ⟨n1, n2⟩⟩
    · exact absurd ⟨n1, n2⟩ m
  · rcases h2 with ⟨-, m, -⟩ | ⟨rfl, -, rfl, rfl, rfl⟩
    · exact absurd m n1
    · exact ⟨rfl, rfl, S⟩
/-! inflate -/
abbrev IC (z lv : Int) (T F Lo Hi : Int → Int) (qp : Nat) (r : Int) (a p1 s1 : Nat) (lv1 : Int) (Lo1 Hi1 : Int → Int) (zn : Int) (Tn Fn W1 : Int → Int) : Prop :=
  sumZ z.toNat (wN T) ≤ 400 ∧ zn = sumZ z.toNat (wN T) ∧ dvR T F z.toNat zn Tn Fn ∧ bT Tn ∧ bF Fn ∧ bF W1 ∧ ((awlZ Fn zn = false ∧ r = -1 ∧ p1 = qp ∧ s1 = a ∧ lv1 = lv ∧ Lo1 = Lo ∧ Hi1 = Hi) ∨ (awlZ Fn zn = true ∧ r = zn ∧ p1 = a ∧ s1 = qp ∧ lv1 = lv + 1 ∧ Lo1 = mALo Lo Fn zn.toNat ∧ Hi1 = mAHi Hi Fn zn.toNat))
abbrev IM (z lv : Int) (T F : Int → Int) (r z2 lv2 fm : Int) (T2 F2 Fr Yr : Int → Int) : Prop :=
  (¬ sumZ z.toNat (wN T) ≤ 400 ∧ r = -1 ∧ z2 = z ∧ lv2 = lv ∧ T2 = T ∧ F2 = F) ∨ (sumZ z.toNat (wN T) ≤ 400 ∧ (∃ n W, 0 ≤ n ∧ n < z ∧ mdX T F n W) ∧ r = -1 ∧ z2 = z ∧ lv2 = lv ∧ T2 = T ∧ F2 = F) ∨ (sumZ z.toNat (wN T) ≤ 400 ∧ mdR T F z.toNat fm Yr Fr ∧ fm = sumZ z.toNat (wN T) ∧ r = fm ∧ z2 = fm ∧ lv2 = lv + 1 ∧ T2 = cpN Yr T fm ∧ F2 = cpN Fr F (12 * fm))
/-- what both come to: nothing, or the spare rows become the patch -/
abbrev AB (z lv : Int) (T F Lo Hi T' F' : Int → Int) (qp : Nat) (r : Int) (a p1 s1 : Nat) (lv1 : Int) (Lo1 Hi1 : Int → Int) (zn : Int) (Tn Fn : Int → Int) (r2 z2 lv2 : Int) (T2 F2 : Int → Int) : Prop :=
  r = r2 ∧ lv2 = lv1 ∧ bT Tn ∧ bF Fn ∧ ((p1 = qp ∧ s1 = a ∧ z2 = z ∧ St z T F Lo1 Hi1 T2 F2) ∨ (p1 = a ∧ s1 = qp ∧ z2 = zn ∧ St zn Tn Fn Lo1 Hi1 T2 F2))
theorem If_no {z lv : Int} {T F Lo Hi T' F' : Int → Int} (S : St z T F Lo Hi T' F') (h1 : ¬ sumZ z.toNat (wN T) ≤ 400) {r z2 lv2 fm : Int} {T2 F2 Fr Yr : Int → Int} (h2 : IM z lv T' F' r z2 lv2 fm T2 F2 Fr Yr) : r = -1 ∧ z2 = z ∧ lv2 = lv ∧ St z T F Lo Hi T2 F2 := by
  unfold IM at h2
  rw [ag_sum S.a] at h2
  rcases h2 with ⟨-, rfl, rfl, rfl, rfl, rfl⟩ | ⟨m, -⟩ | ⟨m, -⟩
  · exact ⟨rfl, rfl, rfl, S⟩
  · exact absurd m h1
  · exact absurd m h1
theorem If_go {z lv : Int} {T F Lo Hi T' F' : Int → Int} (S : St z T F Lo Hi T' F') {qp : Nat} {r : Int} {a p1 s1 : Nat} {lv1 : Int} {Lo1 Hi1 : Int → Int} {zn : Int} {Tn Fn W1 : Int → Int} (h1 : IC z lv T F Lo Hi qp r a p1 s1 lv1 Lo1 Hi1 zn Tn Fn W1) {r2 z2 lv2 fm : Int} {T2 F2 Fr Yr : Int → Int} (h2 : IM z lv T' F' r2 z2 lv2 fm T2 F2 Fr Yr) : AB z lv T F Lo Hi T' F' qp r a p1 s1 lv1 Lo1 Hi1 zn Tn Fn r2 z2 lv2 T2 F2 := by
  unfold IM at h2
  rw [ag_sum S.a] at h2
  obtain ⟨k1, k2, k3, k4, k5, -, k6⟩ := h1
  rcases h2 with ⟨m, -⟩ | ⟨-, ⟨n, W, n0, n1, x⟩, m1, m2, m3, m4, m5⟩ | ⟨-, m, m0, m1, m2, m3, m4, m5⟩
  · exact absurd k1 m
  · have f := inf_far S k3 ⟨n0, n1⟩ x
    rcases k6 with ⟨-, e1, e2, e3, e4, e5, e6⟩ | ⟨w, -⟩
    · refine ⟨by rw [e1, m1], by rw [e4, m3], k4, k5, Or.inl ⟨e2, e3, m2, ?_⟩⟩
      rw [e5, e6, m4, m5]; exact S
    · rw [f] at w; cases w
  · obtain ⟨f, f2, f3⟩ := inf_ok S k3 (by omega) k4 k5 m
    rcases k6 with ⟨w, -⟩ | ⟨-, e1, e2, e3, e4, e5, e6⟩
    · rw [f] at w; cases w
    · refine ⟨by rw [e1, m1, f2], by rw [e4, m3], k4, k5, Or.inr ⟨e2, e3, by rw [m2, f2], ?_⟩⟩
      rw [e5, e6, m4, m5]; exact f3
/-! deflate -/
abbrev DC (z lv : Int) (T F Lo Hi U : Int → Int) (qp : Nat) (T0 F0 : Int → Int) (r : Int) (a p1 s1 : Nat) (lv1 : Int) (Lo1 Hi1 : Int → Int) (zn : Int) (Tn Fn U1 : Int → Int) : Prop :=
  ¬ z = 0 ∧ (∃ Fp : Int → Int, (zn, Tn, Fp, U1) = ptA T F (fil U 400) z T0 F0 z.toNat ∧ Fn = shN Fp zn.toNat) ∧ (0 ≤ zn ∧ zn ≤ z) ∧ bT Tn ∧ bF Fn ∧ bF U1 ∧ ((awlZ Fn zn = false ∧ r = -1 ∧ p1 = qp ∧ s1 = a ∧ lv1 = lv ∧ Lo1 = Lo ∧ Hi1 = Hi) ∨ (awlZ Fn zn = true ∧ r = unuZ U1 z ∧ p1 = a ∧ s1 = qp ∧ lv1 = lv - 1 ∧ Lo1 = mALo Lo Fn zn.toNat ∧ Hi1 = mAHi Hi Fn zn.toNat))
abbrev DM (z lv : Int) (T F U Fr0 Yr0 : Int → Int) (r z2 lv2 fm : Int) (T2 F2 Fr Yr U2 : Int → Int) : Prop :=
  bT U2 ∧ ((z = 0 ∧ r = -1 ∧ z2 = z ∧ lv2 = lv ∧ T2 = T ∧ F2 = F) ∨ (¬ z = 0 ∧ ∃ (zn : Int) (Tn Fn : Int → Int), (zn, Tn, Fn, U2) = ptA T F (fil U 400) z Yr0 Fr0 z.toNat ∧ ((mdf false zn Tn Fn fm Yr Fr ∧ r = -1 ∧ z2 = z ∧ lv2 = lv ∧ T2 = T ∧ F2 = F) ∨ (mdf true zn Tn Fn fm Yr Fr ∧ r = unuZ U2 z ∧ z2 = fm ∧ lv2 = lv - 1 ∧ T2 = cpN Yr T fm ∧ F2 = cpN Fr F (12 * fm)))))
theorem Df_no {z lv : Int} {T F Lo Hi T' F' : Int → Int} (S : St z T F Lo Hi T' F') (h1 : z = 0) {U Fr0 Yr0 : Int → Int} {r z2 lv2 fm : Int} {T2 F2 Fr Yr U2 : Int → Int} (h2 : DM z lv T' F' U Fr0 Yr0 r z2 lv2 fm T2 F2 Fr Yr U2) : r = -1 ∧ z2 = z ∧ lv2 = lv ∧ St z T F Lo Hi T2 F2 := by
  rcases h2.2 with ⟨-, m1, m2, m3, m4, m5⟩ | ⟨m, -⟩
  · exact ⟨m1, m2, m3, by rw [m4, m5]; exact S⟩
  · exact absurd h1 m
theorem Df_go {z lv : Int} {T F Lo Hi T' F' : Int → Int} (S : St z T F Lo Hi T' F') {U : Int → Int} {qp : Nat} {T0 F0 : Int → Int} {r : Int} {a p1 s1 : Nat} {lv1 : Int} {Lo1 Hi1 : Int → Int} {zn : Int} {Tn Fn U1 : Int → Int} (h1 : DC z lv T F Lo Hi U qp T0 F0 r a p1 s1 lv1 Lo1 Hi1 zn Tn Fn U1) {U' Fr0 Yr0 : Int → Int} {r2 z2 lv2 fm : Int} {T2 F2 Fr Yr U2 : Int → Int} (h2 : DM z lv T' F' U' Fr0 Yr0 r2 z2 lv2 fm T2 F2 Fr Yr U2) : AB z lv T F Lo Hi T' F' qp r a p1 s1 lv1 Lo1 Hi1 zn Tn Fn r2 z2 lv2 T2 F2 := by
  obtain ⟨k1, ⟨Fp, k2, k3⟩, -, k4, k5, -, k6⟩ := h1
  rcases h2.2 with ⟨m, -⟩ | ⟨-, zn', Tn', Fn', m0, m⟩
  · exact absurd m k1
  · obtain ⟨q1, q2, q3⟩ := St_deflate S k2 m0
    rcases m with ⟨md, m1, m2, m3, m4, m5⟩ | ⟨md, m1, m2, m3, m4, m5⟩
    · have f := q2 _ _ _ _ md
      rcases k6 with ⟨-, e1, e2, e3, e4, e5, e6⟩ | ⟨w, -⟩
      · refine ⟨by rw [e1, m1], by rw [e4, m3], k4, k5, Or.inl ⟨e2, e3, m2, ?_⟩⟩
        rw [e5, e6, m4, m5]; exact S
      · rw [k3, f] at w; cases w
    · have f := q2 _ _ _ _ md
      rcases k6 with ⟨w, -⟩ | ⟨-, e1, e2, e3, e4, e5, e6⟩
      · rw [k3, f] at w; cases w
      · rw [k3] at k5
        obtain ⟨f2, f3⟩ := q3 _ _ _ md k4 k5
        rw [← k3] at k5 f3
        refine ⟨by rw [e1, m1, q1], by rw [e4, m3], k4, k5, Or.inr ⟨e2, e3, by rw [m2, f2], ?_⟩⟩
        rw [e5, e6, m4, m5]; exact f3
