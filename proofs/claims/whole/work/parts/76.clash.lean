/-! a half's edges, as they are told -/
theorem fr_cls (t e : Int) (ht : 0 ≤ t ∧ t ≤ 1) (he : 0 ≤ e ∧ e ≤ 2) : 4 * z_EDGE_BEGINS (3 * t + e) = (if e = 2 then 4 else if e = 0 ∧ t = 1 then 4 else 0) ∧ 4 * z_EDGE_ENDS (3 * t + e) = (if e = 0 then (if t = 1 then 0 else 4) else 8) ∧ z_EDGE_MARKS (3 * t + e) = (if e = 2 then 2 + t else e) := by
  rcases (show t = 0 ∨ t = 1 by omega) with rfl | rfl <;> rcases (show e = 0 ∨ e = 1 ∨ e = 2 by omega) with rfl | rfl | rfl <;> decide
theorem fr_ed {T F : Int → Int} {n : Int} {σ : Nat} (hT : T n = ((σ / 20 : Nat) : Int)) (hn : sh F (12 * n) σ) {e : Int} (he : 0 ≤ e ∧ e ≤ 2) : ∃ κ D, ed F (frZ T n e) (toZ T n e) κ D := by
  have e0 := sh_ed hn (e := 0) (by decide)
  have e1 := sh_ed hn (e := 1) (by decide)
  have e2 := ed_rev (sh_ed hn (e := 2) (by decide))
  have q0 : 12 * n + 4 * ((0 : Nat) : Int) = 12 * n := by omega
  have q1 : 12 * n + 4 * ((1 : Nat) : Int) = 12 * n + 4 := by omega
  have q2 : 12 * n + 4 * ((2 : Nat) : Int) = 12 * n + 8 := by omega
  rw [show (0 + 1) % 3 = 1 from rfl, q0, q1] at e0
  rw [show (1 + 1) % 3 = 2 from rfl, q1, q2] at e1
  rw [show (2 + 1) % 3 = 0 from rfl, q0, q2] at e2
  have hs := hn.1
  unfold frZ toZ
  rcases (show e = 0 ∨ e = 1 ∨ e = 2 by omega) with rfl | rfl | rfl
  · rcases (show T n = 0 ∨ T n = 1 by omega) with t | t
    · rw [t, if_neg (by decide), if_neg (by decide), if_pos rfl, if_neg (by decide), Int.add_zero]; exact ⟨_, _, e0⟩
    · rw [t, if_neg (by decide), if_pos (by decide), if_pos rfl, if_pos rfl, Int.add_zero]; exact ⟨_, _, ed_rev e0⟩
  · rw [if_neg (by decide), if_neg (by intro h; exact absurd h.1 (by decide)), if_neg (by decide), Int.add_zero]; exact ⟨_, _, e2⟩
  · rw [if_pos rfl, if_neg (by decide)]; exact ⟨_, _, e1⟩
theorem fr_nr {T F : Int → Int} {n e : Int} (h : nr3 F (12 * n)) : nr F (frZ T n e) ∧ nr F (toZ T n e) := by
  unfold frZ toZ
  constructor
  · split
    · exact h.2.1
    · split
      · exact h.2.1
      · rw [Int.add_zero]; exact h.1
  · split
    · split
      · rw [Int.add_zero]; exact h.1
      · exact h.2.1
    · exact h.2.2
theorem corner_max {F : Int → Int} {n x : Int} {σ : Nat} (hn : sh F (12 * n) σ) (hx : x = 12 * n ∨ x = 12 * n + 4 ∨ x = 12 * n + 8) {d : Nat} (hd : d < 10) : hI d F x ≤ hI d F (12 * n) + mI σ d ∧ hI d F (12 * n) - mI σ (op d) ≤ hI d F x := by
  have m := mI_max σ d
  have m' := mI_neg (σ := σ) (by have := hn.1; omega) hd
  have a := (sh_h hn (c := 0) (by decide) d).2.2; have b := (sh_h hn (c := 1) (by decide) d).2.2; have c := (sh_h hn (c := 2) (by decide) d).2.2
  rw [show 12 * n + 4 * ((0 : Nat) : Int) = 12 * n by omega] at a
  rw [show 12 * n + 4 * ((1 : Nat) : Int) = 12 * n + 4 by omega] at b
  rw [show 12 * n + 4 * ((2 : Nat) : Int) = 12 * n + 8 by omega] at c
  rcases hx with rfl | rfl | rfl <;> omega
theorem fr_c (T : Int → Int) (n e : Int) : (frZ T n e = 12 * n ∨ frZ T n e = 12 * n + 4 ∨ frZ T n e = 12 * n + 8) ∧ (toZ T n e = 12 * n ∨ toZ T n e = 12 * n + 4 ∨ toZ T n e = 12 * n + 8) := by
  unfold frZ toZ
  constructor
  · split
    · omega
    · split <;> omega
  · split
    · split <;> omega
    · omega
/-- a half that is as it should be -/
def good (T F : Int → Int) (n : Int) (σ : Nat) : Prop := T n = ((σ / 20 : Nat) : Int) ∧ sh F (12 * n) σ ∧ nr3 F (12 * n)
theorem am_dis {T F : Int → Int} {m n : Int} {σ τ : Nat} (gm : good T F m σ) (gn : good T F n τ) {e f : Int} (he : 0 ≤ e ∧ e ≤ 2) (hf : 0 ≤ f ∧ f ≤ 2) : amf T F m n e f = disZ F m (3 * T m + e) n (3 * T n + f) := by
  have s1 := gm.2.1.1; have s2 := gn.2.1.1
  have t1 : 0 ≤ T m ∧ T m ≤ 1 := by have := gm.1; omega
  have t2 : 0 ≤ T n ∧ T n ≤ 1 := by have := gn.1; omega
  obtain ⟨b1, b2, b3⟩ := fr_cls (T m) e t1 he
  obtain ⟨c1, c2, c3⟩ := fr_cls (T n) f t2 hf
  obtain ⟨κ, D, e1⟩ := fr_ed gm.1 gm.2.1 he
  obtain ⟨κ', D', e2⟩ := fr_ed gn.1 gn.2.1 hf
  have n1 := fr_nr (T := T) (e := e) gm.2.2
  have n2 := fr_nr (T := T) (e := f) gn.2.2
  have o := ol_psh e1 e2 n1.1 n1.2 n2.1 n2.2
  unfold disZ
  rw [b1, b2, b3, c1, c2, c3]
  show _ = if mkZ T m e = mkZ T n f ∧ pS F (frZ T m e) (frZ T n f) = true ∧ pS F (toZ T m e) (toZ T n f) = true then false else pshZ F (frZ T m e) (toZ T m e) (frZ T n f) (toZ T n f)
  unfold amf
  rw [o]
  by_cases c : mkZ T m e = mkZ T n f ∧ pS F (frZ T m e) (frZ T n f) = true ∧ pS F (toZ T m e) (toZ T n f) = true
  · rw [if_pos c, c.2.1, c.2.2]; simp [c.1]
  · rw [if_neg c]
    have : (decide (mkZ T m e = mkZ T n f) && (pS F (frZ T m e) (frZ T n f) && pS F (toZ T m e) (toZ T n f))) = false := by
      cases q : (decide (mkZ T m e = mkZ T n f) && (pS F (frZ T m e) (frZ T n f) && pS F (toZ T m e) (toZ T n f))) with
      | false => rfl
      | true => exfalso; apply c; simpa using q
    rw [this]; simp
theorem am_reach {T F : Int → Int} {m n : Int} {σ τ : Nat} (gm : good T F m σ) (gn : good T F n τ) {e f : Int} (he : 0 ≤ e ∧ e ≤ 2) (hf : 0 ≤ f ∧ f ≤ 2) (h : amf T F m n e f = true) {d : Nat} (hd : d < 10) : 0 ≤ sI σ τ d F (12 * m) (12 * n) := by
  obtain ⟨κ, D, e1⟩ := fr_ed gm.1 gm.2.1 he
  obtain ⟨κ', D', e2⟩ := fr_ed gn.1 gn.2.1 hf
  have n1 := fr_nr (T := T) (e := e) gm.2.2
  have n2 := fr_nr (T := T) (e := f) gn.2.2
  unfold amf at h
  simp only [Bool.and_eq_true] at h
  have r := ol_reach e1 e2 n1.1 n1.2 n2.1 n2.2 h.1 hd
  have a1 := corner_max gm.2.1 (fr_c T m e).1 hd; have a2 := corner_max gm.2.1 (fr_c T m e).2 hd
  have a3 := corner_max gn.2.1 (fr_c T n f).1 hd; have a4 := corner_max gn.2.1 (fr_c T n f).2 hd
  unfold sI
  omega
theorem anyZ_congr {n : Nat} {f g : Int → Bool} (h : ∀ k : Int, 0 ≤ k → k < n → f k = g k) : anyZ n f = anyZ n g := by
  induction n with
  | zero => rfl
  | succ n ih =>
    show (anyZ n f || f n) = (anyZ n g || g n)
    rw [ih (fun k a b => h k a (by omega)), h n (by omega) (by omega)]
/-- two halves clash for the class as they do for the model -/
theorem cl_agn {Lo Hi T F : Int → Int} {m n : Int} {σ τ : Nat} (gm : good T F m σ) (gn : good T F n τ) (sm : ms Lo Hi F m) (sn : ms Lo Hi F n) : clZ Lo Hi T F m n = agnZ T F m n := by
  have np := no_part gm.2.1 gn.2.1 gm.2.2 gn.2.2
  have ov := ov_iff gm.2.1 gn.2.1 sm sn
  have ap := ap_iff gm.2.1 gn.2.1 sm sn
  have ee : edZ T F m n = anyZ 3 (fun e => anyZ 3 (fun f => amf T F m n e f)) := by
    unfold edZ
    refine anyZ_congr (fun e a b => anyZ_congr (fun f a' b' => ?_))
    exact (am_dis gm gn ⟨a, by omega⟩ ⟨a', by omega⟩).symm
  unfold clZ agnZ
  cases c : apZ Lo Hi m n with
  | true =>
    rw [if_pos rfl]
    have na : ¬ ∀ d, d < 10 → 0 ≤ sI σ τ d F (12 * m) (12 * n) := by rw [← ap, c]; decide
    by_cases q : neZ F m n = false
    · rw [if_pos q]
    · rw [if_neg q, if_neg (fun w => na (fun d hd => Int.le_of_lt (np.mp w d hd)))]
      symm
      rw [anyZ_f]
      intro e a b
      rw [anyZ_f]
      intro f a' b'
      cases w : amf T F m n e f with
      | false => rfl
      | true => exact absurd (fun d hd => am_reach gm gn ⟨a, by omega⟩ ⟨a', by omega⟩ w hd) na
  | false =>
    have na := ap.mp c
    rw [if_neg (by decide)]
    rw [near_t (by have := gm.2.1.1; omega) (by have := gn.2.1.1; omega) gm.2.2.1 gn.2.2.1 na, if_neg (by decide)]
    by_cases w : paZ F m n = false ∧ paZ F n m = false
    · rw [if_pos w, ov.mpr (np.mp w)]; rfl
    · rw [if_neg w]
      have o : ovZ Lo Hi m n = false := by
        cases q : ovZ Lo Hi m n with
        | false => rfl
        | true => exact absurd (np.mpr (ov.mp q)) w
      rw [o, ee]; rfl
