/-! PLACE: the same answers and states -/
def newH (y a b c d k j : Int) : Hf := (y, (a, b, c, d), (a + z_UNITS (4 * k), b + z_UNITS (4 * k + 1), c + z_UNITS (4 * k + 2), d + z_UNITS (4 * k + 3)), (a + z_UNITS (4 * j), b + z_UNITS (4 * j + 1), c + z_UNITS (4 * j + 2), d + z_UNITS (4 * j + 3)))
theorem newH_c (T F Wk : Int → Int) (z y a b c d k j : Int) : row (uZ T z y) (wrN F z (plW Wk a b c d k j) 0 4 8) z = newH y a b c d k j := by
  rw [row_rF, rF_wr, uZ_s]
  unfold plW newH wt
  have e8 := st4_at (st4 (st4 Wk 0 a b c d) 4 (a + z_UNITS (4 * k)) (b + z_UNITS (4 * k + 1)) (c + z_UNITS (4 * k + 2)) (d + z_UNITS (4 * k + 3))) 8 (a + z_UNITS (4 * j)) (b + z_UNITS (4 * j + 1)) (c + z_UNITS (4 * j + 2)) (d + z_UNITS (4 * j + 3))
  have e4 := st4_at (st4 Wk 0 a b c d) 4 (a + z_UNITS (4 * k)) (b + z_UNITS (4 * k + 1)) (c + z_UNITS (4 * k + 2)) (d + z_UNITS (4 * k + 3))
  have e0 := st4_at Wk 0 a b c d
  rw [e8.1, e8.2.1, e8.2.2.1, e8.2.2.2]
  rw [st4_out (p := 8) (by decide), st4_out (p := 8) (by decide), st4_out (p := 8) (by decide), st4_out (p := 8) (by decide), st4_out (p := 8) (by decide), st4_out (p := 8) (by decide), st4_out (p := 8) (by decide), st4_out (p := 8) (by decide)]
  rw [e4.1, e4.2.1, e4.2.2.1, e4.2.2.2]
  rw [st4_out (p := 4) (by decide), st4_out (p := 4) (by decide), st4_out (p := 4) (by decide), st4_out (p := 4) (by decide)]
  rw [e0.1, e0.2.1, e0.2.2.1, e0.2.2.2]
theorem newH_m (T F : Int → Int) (z y a b c d k j : Int) : row (uZ T z y) (plM F z a b c d k j) z = newH y a b c d k j := by
  rw [row_rF, uZ_s]
  unfold plM
  rw [rF_pu]; rfl
theorem newH_n (y a b c d k j : Int) : nH (newH y a b c d k j) = plFt a b c d k j := rfl
theorem pl_sh : ∀ y : Nat, y < 2 → ∀ k : Nat, k < 10 → ∀ l : Bool, (((20 * y + (if l then 0 else 10) + k) / 20 : Nat) : Int) = (y : Int) ∧ sK (20 * y + (if l then 0 else 10) + k) = k ∧ ((sJ (20 * y + (if l then 0 else 10) + k) : Nat) : Int) = plJ y k l ∧ 20 * y + (if l then 0 else 10) + k < 40 := by decide +kernel
theorem sJ_lt (σ : Nat) : sJ σ < 10 := by unfold sJ; split <;> split <;> omega
theorem newH_v {y a b c d k : Int} (lf : Bool) (hy : 0 ≤ y ∧ y ≤ 1) (hk : 0 ≤ k ∧ k < 10) : ∃ σ, vh (newH y a b c d k (plJ y k lf)) σ := by
  obtain ⟨i, rfl⟩ : ∃ i : Nat, y = i := ⟨y.toNat, by omega⟩
  obtain ⟨j, rfl⟩ : ∃ j : Nat, k = j := ⟨k.toNat, by omega⟩
  obtain ⟨s1, s2, s3, s4⟩ := pl_sh i (by omega) j (by omega) lf
  refine ⟨20 * i + (if lf then 0 else 10) + j, s4, ?_⟩
  rw [← s3]
  have q : ∀ D : Nat, D < 10 → z_UNITS (4 * (D : Int)) = uV D 0 ∧ z_UNITS (4 * (D : Int) + 1) = uV D 1 ∧ z_UNITS (4 * (D : Int) + 2) = uV D 2 ∧ z_UNITS (4 * (D : Int) + 3) = uV D 3 := by decide
  have q1 := q j (by omega)
  have q2 := q (sJ (20 * i + (if lf then 0 else 10) + j)) (sJ_lt _)
  unfold newH tr h0 vA uT
  rw [s1, s2, q1.1, q1.2.1, q1.2.2.1, q1.2.2.2, q2.1, q2.2.1, q2.2.2.1, q2.2.2.2]
  simp
theorem any12 {F : Int → Int} {T : Int → Int} {n : Int} : wlZ F n = nH (row T F n) := by
  unfold wlZ
  have e : anyZ 12 (fun i => !nearZ (F (i + 12 * n))) = (!nearZ (F (0 + 12 * n)) || !nearZ (F (1 + 12 * n)) || !nearZ (F (2 + 12 * n)) || !nearZ (F (3 + 12 * n)) || !nearZ (F (4 + 12 * n)) || !nearZ (F (5 + 12 * n)) || !nearZ (F (6 + 12 * n)) || !nearZ (F (7 + 12 * n)) || !nearZ (F (8 + 12 * n)) || !nearZ (F (9 + 12 * n)) || !nearZ (F (10 + 12 * n)) || !nearZ (F (11 + 12 * n))) := by
    show ((((((((((((false || _) || _) || _) || _) || _) || _) || _) || _) || _) || _) || _) || _) = _
    rw [Bool.false_or]; rfl
  rw [e]
  unfold nH nV row wt ftZ
  simp only [Int.add_assoc, Int.reduceAdd]
  rw [show 0 + 12 * n = 12 * n by omega, show 1 + 12 * n = 12 * n + 1 by omega, show 2 + 12 * n = 12 * n + 2 by omega, show 3 + 12 * n = 12 * n + 3 by omega, show 4 + 12 * n = 12 * n + 4 by omega, show 5 + 12 * n = 12 * n + 5 by omega, show 6 + 12 * n = 12 * n + 6 by omega, show 7 + 12 * n = 12 * n + 7 by omega, show 8 + 12 * n = 12 * n + 8 by omega, show 9 + 12 * n = 12 * n + 9 by omega, show 10 + 12 * n = 12 * n + 10 by omega, show 11 + 12 * n = 12 * n + 11 by omega]
  generalize nearZ (F (12 * n)) = x0
  generalize nearZ (F (12 * n + 1)) = x1
  generalize nearZ (F (12 * n + 2)) = x2
  generalize nearZ (F (12 * n + 3)) = x3
  generalize nearZ (F (12 * n + 4)) = x4
  generalize nearZ (F (12 * n + 5)) = x5
  generalize nearZ (F (12 * n + 6)) = x6
  generalize nearZ (F (12 * n + 7)) = x7
  generalize nearZ (F (12 * n + 8)) = x8
  generalize nearZ (F (12 * n + 9)) = x9
  generalize nearZ (F (12 * n + 10)) = xa
  generalize nearZ (F (12 * n + 11)) = xb
  simp only [Bool.not_or, Bool.not_not, Bool.and_assoc]
theorem plOk_iff {z y a b c d k : Int} : plOk z y a b c d k = true ↔ ((0 ≤ y ∧ y ≤ 1 ∧ 0 ≤ k ∧ k ≤ 9 ∧ z < 400) ∧ ftZ a b c d = true) := by
  unfold plOk
  show (_ && ftZ a b c d) = true ↔ _
  rw [Bool.and_eq_true, decide_eq_true_iff]
  constructor
  · rintro ⟨h, g⟩; exact ⟨⟨h.1, h.2.1, h.2.2.1, by omega, h.2.2.2.2⟩, g⟩
  · rintro ⟨h, g⟩; exact ⟨⟨h.1, h.2.1, h.2.2.1, by omega, h.2.2.2.2⟩, g⟩
theorem plFt_ft {a b c d k j : Int} (h : plFt a b c d k j = true) : ftZ a b c d = true := by
  unfold plFt at h; rw [Bool.and_eq_true] at h; exact h.1
theorem St_mono {z : Int} {T F Lo Hi T' F' T1 F1 Lo1 Hi1 T1' F1' : Int → Int} (S : St z T F Lo Hi T' F') (h1 : ag T F T1 F1 z) (h2 : ag T' F' T1' F1' z) (h3 : ∀ j, 0 ≤ j → j < 5 * z → Lo1 j = Lo j ∧ Hi1 j = Hi j) (b1 : bT T1) (b2 : bF F1) (b3 : bL Lo1) (b4 : bL Hi1) (b5 : bT T1') (b6 : bF F1') : St z T1 F1 Lo1 Hi1 T1' F1' := by
  refine ⟨S.hz, ?_, pat_ag h1 S.p, Pw_ag h1 S.w, ?_, b1, b2, b3, b4, b5, b6⟩
  · rw [ag_rows] at h1 h2 ⊢
    intro n a b
    rw [h2 n a b, ag_rows.mp S.a n a b, h1 n a b]
  · intro n a b
    have r := row_at (ag_rows.mp h1 n a b)
    refine ms_c r.2 (fun k c d => ?_)
    have := h3 (k + 5 * n) (by omega) (by omega)
    rw [this.1, this.2]
    exact S.s n a b k c d
theorem ag_uw {T F W : Int → Int} {z y a b c : Int} : ag T F (uZ T z y) (wrN F z W a b c) z := ⟨fun k h0 h1 => uZ_n (by omega), fun k h0 h1 => wrN_out (by omega)⟩
theorem ag_um {T F : Int → Int} {z y a b c d k j : Int} : ag T F (uZ T z y) (plM F z a b c d k j) z := ⟨fun k h0 h1 => uZ_n (by omega), fun k h0 h1 => pu12_out (by omega)⟩
theorem ag_self (T F : Int → Int) (z : Int) : ag T F T F z := ⟨fun _ _ _ => rfl, fun _ _ _ => rfl⟩
theorem bF_plW {Wk : Int → Int} {a b c d k j : Int} (h : bF Wk) (f : ftZ a b c d = true) : bF (plW Wk a b c d k j) := by
  have g := ftZ_b f
  have u := fun i => UNITS_in i
  unfold plW
  have u1 := u (4 * k); have u2 := u (4 * k + 1); have u3 := u (4 * k + 2); have u4 := u (4 * k + 3)
  have u5 := u (4 * j); have u6 := u (4 * j + 1); have u7 := u (4 * j + 2); have u8 := u (4 * j + 3)
  exact bF_st4 (bF_st4 (bF_st4 h (by omega) (by omega) (by omega) (by omega)) (by omega) (by omega) (by omega) (by omega)) (by omega) (by omega) (by omega) (by omega)
theorem bF_plM {F : Int → Int} {z a b c d k j : Int} (h : bF F) (f : plFt a b c d k j = true) : bF (plM F z a b c d k j) := by
  unfold plFt at f
  simp only [Bool.and_eq_true] at f
  exact bF_pu12 h f.1 f.2.1 f.2.2
theorem St_place {z : Int} {T F Lo Hi T' F' Wk : Int → Int} (S : St z T F Lo Hi T' F') (hW : bF Wk) {y a b c d k : Int} {lf : Bool} {r z1 r' z1' : Int} {T1 F1 Lo1 Hi1 W1 T1' F1' : Int → Int}
    (hc : (plOk z y a b c d k = false ∧ r = -1 ∧ z1 = z ∧ T1 = T ∧ F1 = F ∧ Lo1 = Lo ∧ Hi1 = Hi ∧ W1 = Wk) ∨ (plOk z y a b c d k = true ∧ W1 = plW Wk a b c d k (plJ y k lf) ∧ T1 = uZ T z y ∧ F1 = wrN F z W1 0 4 8 ∧ ((wlZ F1 z = false ∧ r = -1 ∧ z1 = z ∧ Lo1 = Lo ∧ Hi1 = Hi) ∨ (wlZ F1 z = true ∧ Lo1 = mLo Lo F1 z ∧ Hi1 = mHi Hi F1 z ∧ ((eaZ (mLo Lo F1 z) (mHi Hi F1 z) T1 F1 z = true ∧ r = -1 ∧ z1 = z) ∨ (eaZ (mLo Lo F1 z) (mHi Hi F1 z) T1 F1 z = false ∧ r = z ∧ z1 = z + 1))))))
    (hm : ((¬ (0 ≤ y ∧ y ≤ 1 ∧ 0 ≤ k ∧ k ≤ 9 ∧ z < 400) ∨ plFt a b c d k (plJ y k lf) = false) ∧ r' = -1 ∧ z1' = z ∧ T1' = T' ∧ F1' = F') ∨ ((0 ≤ y ∧ y ≤ 1 ∧ 0 ≤ k ∧ k ≤ 9 ∧ z < 400) ∧ plFt a b c d k (plJ y k lf) = true ∧ T1' = uZ T' z y ∧ F1' = plM F' z a b c d k (plJ y k lf) ∧ ((anyZ z.toNat (fun n => agnZ T1' F1' n z) = true ∧ r' = -1 ∧ z1' = z) ∨ (anyZ z.toNat (fun n => agnZ T1' F1' n z) = false ∧ r' = z ∧ z1' = z + 1)))) :
    r = r' ∧ z1 = z1' ∧ St z1 T1 F1 Lo1 Hi1 T1' F1' ∧ bF W1 := by
  have hz := S.hz
  rcases hc with ⟨o, rfl, rfl, rfl, rfl, rfl, rfl, rfl⟩ | ⟨o, rfl, rfl, rfl, hc⟩
  · rcases hm with ⟨-, rfl, rfl, rfl, rfl⟩ | ⟨m1, m2, -⟩
    · exact ⟨rfl, rfl, S, hW⟩
    · exfalso
      rw [plOk_iff.mpr ⟨m1, plFt_ft m2⟩] at o; cases o
  · obtain ⟨o1, o2⟩ := plOk_iff.mp o
    have bw := bF_plW (k := k) (j := plJ y k lf) hW o2
    have w1 : wlZ (wrN F z (plW Wk a b c d k (plJ y k lf)) 0 4 8) z = plFt a b c d k (plJ y k lf) := by
      rw [any12 (T := uZ T z y), newH_c, newH_n]
    have b1 : bT (uZ T z y) := bT_uZ S.bt ⟨o1.1, o1.2.1⟩
    have b2 := bF_wrN (n := z) (a := 0) (b := 4) (c := 8) S.bf bw
    rw [w1] at hc
    rcases hc with ⟨c1, rfl, rfl, rfl, rfl⟩ | ⟨c1, rfl, rfl, hc⟩
    · rcases hm with ⟨-, rfl, rfl, rfl, rfl⟩ | ⟨m1, m2, -⟩
      · exact ⟨rfl, rfl, St_mono S ag_uw (ag_self _ _ _) (fun _ _ _ => ⟨rfl, rfl⟩) b1 b2 S.bl S.bh S.bt' S.bf', bw⟩
      · rw [m2] at c1; cases c1
    · rcases hm with ⟨m1, -⟩ | ⟨m1, m2, rfl, rfl, hm⟩
      · exfalso
        rcases m1 with m1 | m1
        · exact m1 o1
        · rw [m1] at c1; cases c1
      · have b3 := bL_mLo S.bl b2 z
        have b4 := bL_mHi S.bh b2 z
        have b5 : bT (uZ T' z y) := bT_uZ S.bt' ⟨o1.1, o1.2.1⟩
        have b6 := bF_plM (z := z) S.bf' m2
        have S1 : St z (uZ T z y) (wrN F z (plW Wk a b c d k (plJ y k lf)) 0 4 8) (mLo Lo (wrN F z (plW Wk a b c d k (plJ y k lf)) 0 4 8) z) (mHi Hi (wrN F z (plW Wk a b c d k (plJ y k lf)) 0 4 8) z) (uZ T' z y) (plM F' z a b c d k (plJ y k lf)) :=
          St_mono S ag_uw ag_um (fun j h0 h1 => ⟨mLo_out (by omega), mHi_out (by omega)⟩) b1 b2 b3 b4 b5 b6
        have rc := newH_c T F Wk z y a b c d k (plJ y k lf)
        have rm := newH_m T' F' z y a b c d k (plJ y k lf)
        have a1 : ag (uZ T z y) (wrN F z (plW Wk a b c d k (plJ y k lf)) 0 4 8) (uZ T' z y) (plM F' z a b c d k (plJ y k lf)) (z + 1) := by
          rw [ag_rows]
          intro n h0 h1
          rcases (show n = z ∨ n < z by omega) with rfl | q
          · rw [rc, rm]
          · exact ag_rows.mp S1.a n h0 q
        have p1 : pat (uZ T z y) (wrN F z (plW Wk a b c d k (plJ y k lf)) 0 4 8) (z + 1) := by
          refine pat_of (fun n h0 h1 => ?_)
          rcases (show n = z ∨ n < z by omega) with rfl | q
          · rw [rc]
            exact ⟨newH_v lf ⟨o1.1, o1.2.1⟩ ⟨o1.2.2.1, by omega⟩, by rw [newH_n]; exact m2⟩
          · exact pat_v S1.p ⟨h0, q⟩
        have s1 : mss (mLo Lo (wrN F z (plW Wk a b c d k (plJ y k lf)) 0 4 8) z) (mHi Hi (wrN F z (plW Wk a b c d k (plJ y k lf)) 0 4 8) z) (wrN F z (plW Wk a b c d k (plJ y k lf)) 0 4 8) (z + 1) := by
          intro n h0 h1
          rcases (show n = z ∨ n < z by omega) with rfl | q
          · exact ms_m _ _ _ _
          · exact S1.s n h0 q
        have ea : eaZ (mLo Lo (wrN F z (plW Wk a b c d k (plJ y k lf)) 0 4 8) z) (mHi Hi (wrN F z (plW Wk a b c d k (plJ y k lf)) 0 4 8) z) (uZ T z y) (wrN F z (plW Wk a b c d k (plJ y k lf)) 0 4 8) z = anyZ z.toNat (fun n => agnZ (uZ T' z y) (plM F' z a b c d k (plJ y k lf)) n z) := by
          unfold eaZ
          exact anyZ_congr (fun n h0 h1 => cl_c a1 p1 s1 (by omega) (by omega))
        rw [ea] at hc
        rcases hc with ⟨c2, rfl, rfl⟩ | ⟨c2, q1, q2⟩
        · rcases hm with ⟨-, rfl, rfl⟩ | ⟨m3, -, -⟩
          · exact ⟨rfl, rfl, S1, bw⟩
          · rw [m3] at c2; cases c2
        · rcases hm with ⟨m3, -, -⟩ | ⟨-, q3, q4⟩
          · rw [m3] at c2; cases c2
          · refine ⟨by rw [q1, q3], by rw [q2, q4], ?_, bw⟩
            rw [q2]
            refine ⟨by omega, a1, p1, ?_, s1, b1, b2, b3, b4, b5, b6⟩
            have nw : ∀ n, 0 ≤ n → n < z → Dis (row (uZ T z y) (wrN F z (plW Wk a b c d k (plJ y k lf)) 0 4 8) n) (row (uZ T z y) (wrN F z (plW Wk a b c d k (plJ y k lf)) 0 4 8) z) := by
              intro n h0 h1
              obtain ⟨σ, g1⟩ := p1 n h0 (by omega)
              obtain ⟨τ, g2⟩ := p1 z (by omega) (by omega)
              refine cl_dis g1 g2 (s1 n h0 (by omega)) (s1 z (by omega) (by omega)) ?_
              rw [← ea] at c2
              exact anyZ_f.mp c2 n h0 (by omega)
            intro m n e0 e1 e2 e3 e4
            rcases (show m = z ∨ m < z by omega) with rfl | q
            · exact Dis_sym (nw n e2 (by omega))
            · rcases (show n = z ∨ n < z by omega) with rfl | q'
              · exact nw m e0 q
              · exact S1.w m n e0 q e2 q' e4
