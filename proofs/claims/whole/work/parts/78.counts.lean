/-! COUNT: the same answers -/
theorem kdist : ∀ σ, σ < 40 → ∀ i, i < 3 → ∀ j, j < 3 → ((uV (cE σ i) 0 = uV (cE σ j) 0 ∧ uV (cE σ i) 1 = uV (cE σ j) 1 ∧ uV (cE σ i) 2 = uV (cE σ j) 2 ∧ uV (cE σ i) 3 = uV (cE σ j) 3) ↔ i = j) := by decide +kernel
theorem dist {T F : Int → Int} {n : Int} {σ : Nat} (g : good T F n σ) {i j : Int} (hi : 0 ≤ i ∧ i ≤ 2) (hj : 0 ≤ j ∧ j ≤ 2) : pS F (4 * i + 12 * n) (4 * j + 12 * n) = true ↔ i = j := by
  obtain ⟨a, rfl⟩ : ∃ a : Nat, i = a := ⟨i.toNat, by omega⟩
  obtain ⟨b, rfl⟩ : ∃ b : Nat, j = b := ⟨j.toNat, by omega⟩
  have s1 := sh_at g.2.1 (c := a) (by omega)
  have s2 := sh_at g.2.1 (c := b) (by omega)
  have k := kdist σ g.2.1.1 a (by omega) b (by omega)
  rw [show 4 * (a : Int) + 12 * n = 12 * n + 4 * (a : Int) by omega, show 4 * (b : Int) + 12 * n = 12 * n + 4 * (b : Int) by omega]
  unfold pS
  rw [decide_eq_true_iff, s1.1, s1.2.1, s1.2.2.1, s1.2.2.2, s2.1, s2.2.1, s2.2.2.1, s2.2.2.2]
  rw [show ((a : Int) = (b : Int)) ↔ a = b by omega, ← k]
  omega
theorem pS_sym {F : Int → Int} {p q : Int} : pS F p q = pS F q p := by
  unfold pS; congr 1; simp only [eq_comm]
theorem pS_tr {F : Int → Int} {p q r : Int} (h : pS F p q = true) (h2 : pS F p r = true) : pS F q r = true := by
  unfold pS at *
  have h := of_decide_eq_true h; have h2 := of_decide_eq_true h2
  apply decide_eq_true; omega
theorem crn_e (F : Int → Int) (m n c : Int) : crn F m n c = (pS F (12 * m) (4 * c + 12 * n) || pS F (12 * m + 4) (4 * c + 12 * n) || pS F (12 * m + 8) (4 * c + 12 * n)) := by
  unfold crn cAt
  cases pS F (12 * m) (4 * c + 12 * n) <;> cases pS F (12 * m + 4) (4 * c + 12 * n) <;> cases pS F (12 * m + 8) (4 * c + 12 * n) <;> decide
theorem crn_x {F : Int → Int} {m n c : Int} (h : crn F m n c = true) : ∃ i : Int, (0 ≤ i ∧ i ≤ 2) ∧ pS F (4 * i + 12 * m) (4 * c + 12 * n) = true := by
  rw [crn_e] at h
  simp only [Bool.or_eq_true] at h
  rcases h with (h | h) | h
  · exact ⟨0, by decide, by rw [show 4 * 0 + 12 * m = 12 * m by omega]; exact h⟩
  · exact ⟨1, by decide, by rw [show 4 * 1 + 12 * m = 12 * m + 4 by omega]; exact h⟩
  · exact ⟨2, by decide, by rw [show 4 * 2 + 12 * m = 12 * m + 8 by omega]; exact h⟩
theorem crn_i {F : Int → Int} {m n c i : Int} (hi : 0 ≤ i ∧ i ≤ 2) (h : pS F (4 * i + 12 * m) (4 * c + 12 * n) = true) : crn F m n c = true := by
  rw [crn_e]
  simp only [Bool.or_eq_true]
  rcases (show i = 0 ∨ i = 1 ∨ i = 2 by omega) with rfl | rfl | rfl
  · rw [show 4 * 0 + 12 * m = 12 * m by omega] at h; exact Or.inl (Or.inl h)
  · rw [show 4 * 1 + 12 * m = 12 * m + 4 by omega] at h; exact Or.inl (Or.inr h)
  · rw [show 4 * 2 + 12 * m = 12 * m + 8 by omega] at h; exact Or.inr h
/-- an edge is had where both ends are corners -/
theorem he_e {T F : Int → Int} {n o c c' : Int} {σ : Nat} (g : good T F n σ) (hc : 0 ≤ c ∧ c ≤ 2) (hc' : 0 ≤ c' ∧ c' ≤ 2) (hne : c ≠ c') : heZ F o (4 * c + 12 * n) (4 * c' + 12 * n) = (crn F o n c && crn F o n c') := by
  have go : ∀ f : Int, 0 ≤ f ∧ f ≤ 2 → hef F o (4 * c + 12 * n) (4 * c' + 12 * n) f = true → (crn F o n c && crn F o n c') = true := by
    intro f hf h
    unfold hef at h
    have i0 := enZ_in (e := f) (w := 0) (by decide); have i1 := enZ_in (e := f) (w := 1) (by decide)
    simp only [Bool.or_eq_true, Bool.and_eq_true] at h ⊢
    rcases h with ⟨a, b⟩ | ⟨a, b⟩
    · exact ⟨crn_i i0 a, crn_i i1 b⟩
    · exact ⟨crn_i i1 b, crn_i i0 a⟩
  cases q : crn F o n c && crn F o n c' with
  | false =>
    unfold heZ
    rw [anyZ_f]
    intro f a b
    cases r : hef F o (4 * c + 12 * n) (4 * c' + 12 * n) f with
    | false => rfl
    | true => rw [go f ⟨a, by omega⟩ r] at q; cases q
  | true =>
    rw [Bool.and_eq_true] at q
    obtain ⟨i, hi, a⟩ := crn_x q.1
    obtain ⟨j, hj, b⟩ := crn_x q.2
    have ij : i ≠ j := by
      rintro rfl
      exact hne ((dist g hc hc').mp (pS_tr a b))
    unfold heZ
    have fin : ∀ f : Int, 0 ≤ f → f < 3 → ((enZ f 0 = i ∧ enZ f 1 = j) ∨ (enZ f 0 = j ∧ enZ f 1 = i)) → anyZ 3 (fun f => hef F o (4 * c + 12 * n) (4 * c' + 12 * n) f) = true := by
      intro f h0 h1 h
      refine anyZ_t (k := f) h0 (by omega) ?_
      show hef F o (4 * c + 12 * n) (4 * c' + 12 * n) f = true
      unfold hef
      simp only [Bool.or_eq_true, Bool.and_eq_true]
      rcases h with ⟨e1, e2⟩ | ⟨e1, e2⟩
      · rw [e1, e2]; exact Or.inl ⟨a, b⟩
      · rw [e1, e2]; exact Or.inr ⟨b, a⟩
    rcases (show i = 0 ∨ i = 1 ∨ i = 2 by omega) with rfl | rfl | rfl <;> rcases (show j = 0 ∨ j = 1 ∨ j = 2 by omega) with rfl | rfl | rfl
    · exact absurd rfl ij
    · exact fin 0 (by decide) (by decide) (by decide)
    · exact fin 1 (by decide) (by decide) (by decide)
    · exact fin 0 (by decide) (by decide) (by decide)
    · exact absurd rfl ij
    · exact fin 2 (by decide) (by decide) (by decide)
    · exact fin 1 (by decide) (by decide) (by decide)
    · exact fin 2 (by decide) (by decide) (by decide)
    · exact absurd rfl ij
theorem pS_hI {F : Int → Int} {p q : Int} (h : pS F p q = true) (d : Nat) : hI d F p = hI d F q := by
  unfold pS at h
  have h := of_decide_eq_true h
  unfold hI HP HQ
  rw [h.1, h.2.1, h.2.2.1, h.2.2.2]
/-- halves with a corner in common aren't apart -/
theorem crn_ap {Lo Hi T F : Int → Int} {m n c : Int} {σ τ : Nat} (gm : good T F m σ) (gn : good T F n τ) (sm : ms Lo Hi F m) (sn : ms Lo Hi F n) (hc : 0 ≤ c ∧ c ≤ 2) (h : crn F m n c = true) : apZ Lo Hi m n = false := by
  rw [ap_iff gm.2.1 gn.2.1 sm sn]
  intro d hd
  obtain ⟨i, hi, a⟩ := crn_x h
  have e := pS_hI a d
  have c1 := corner_max gm.2.1 (x := 4 * i + 12 * m) (by omega) hd
  have c2 := corner_max gn.2.1 (x := 4 * c + 12 * n) (by omega) hd
  unfold sI; omega
theorem al_e {Lo Hi T F : Int → Int} {z n c c' e : Int} (hp : pat T F z) (hs : mss Lo Hi F z) (hn : 0 ≤ n ∧ n < z) (e0 : enZ e 0 = c) (e1 : enZ e 1 = c') (hc : 0 ≤ c ∧ c ≤ 2) (hc' : 0 ≤ c' ∧ c' ≤ 2) (hne : c ≠ c') :
    anyZ z.toNat (fun m => leq Lo Hi n m && (crn F m n c && crn F m n c')) = anyZ z.toNat (fun o => alq F n e o) := by
  refine anyZ_congr (fun m a b => ?_)
  obtain ⟨σ, gn⟩ := hp n hn.1 hn.2
  obtain ⟨τ, gm⟩ := hp m a (by omega)
  unfold alq leq
  rw [e0, e1, he_e gn hc hc' hne]
  cases q : crn F m n c with
  | false => simp
  | true => rw [crn_ap gm gn (hs m a (by omega)) (hs n hn.1 hn.2) hc q]; simp
theorem zB_n (b : Bool) : (if (!b) = true then (1 : Int) else 0) = 1 - zB b := by cases b <;> rfl
theorem cnt3 (f : Int → Bool) : cntZ 3 f = (if f 0 = true then 1 else 0) + (if f 1 = true then 1 else 0) + (if f 2 = true then 1 else 0) := by
  show (((0 : Int) + (if f 0 = true then 1 else 0)) + (if f 1 = true then 1 else 0)) + (if f 2 = true then 1 else 0) = _
  omega
theorem le1_e {Lo Hi T F : Int → Int} {z n : Int} (hp : pat T F z) (hs : mss Lo Hi F z) (hn : 0 ≤ n ∧ n < z) : le1 Lo Hi F z n = cntZ 3 (fun e => alf F z n e) := by
  unfold le1 shA shB shC
  rw [al_e (e := 0) (c := 0) (c' := 1) hp hs hn rfl rfl (by decide) (by decide) (by decide), al_e (e := 1) (c := 0) (c' := 2) hp hs hn rfl rfl (by decide) (by decide) (by decide), al_e (e := 2) (c := 1) (c' := 2) hp hs hn rfl rfl (by decide) (by decide) (by decide)]
  rw [cnt3]
  unfold alf
  rw [zB_n, zB_n, zB_n]
  omega
theorem cle_e {Lo Hi T F : Int → Int} {z : Int} (hp : pat T F z) (hs : mss Lo Hi F z) : cleZ Lo Hi F z = moE F z :=
  sumZ_congr (fun n a b => le1_e hp hs ⟨a, by omega⟩)
/-! different points -/
theorem sum_3 (g : Int → Int) (n : Nat) : sumZ (3 * n) g = sumZ n (fun k => g (3 * k) + g (3 * k + 1) + g (3 * k + 2)) := by
  induction n with
  | zero => rfl
  | succ n ih =>
    rw [show 3 * (n + 1) = 3 * n + 1 + 1 + 1 by omega]
    show sumZ (3 * n) g + g ((3 * n : Nat) : Int) + g ((3 * n + 1 : Nat) : Int) + g ((3 * n + 1 + 1 : Nat) : Int) = sumZ n _ + (g (3 * (n : Int)) + g (3 * (n : Int) + 1) + g (3 * (n : Int) + 2))
    rw [ih, show ((3 * n : Nat) : Int) = 3 * (n : Int) by omega, show ((3 * n + 1 : Nat) : Int) = 3 * (n : Int) + 1 by omega, show ((3 * n + 1 + 1 : Nat) : Int) = 3 * (n : Int) + 2 by omega]
    omega
theorem fsf_e {T F : Int → Int} {z n c : Int} (hp : pat T F z) (hn : 0 ≤ n ∧ n < z) (hc : 0 ≤ c ∧ c ≤ 2) : fsf F (3 * n + c) = ifaZ F n c := by
  obtain ⟨σ, g⟩ := hp n hn.1 hn.2
  unfold fsf ifaZ
  congr 1
  cases q : anyZ n.toNat (fun m => decide (¬ cAt F m n c = -1)) with
  | true =>
    obtain ⟨m, a, b, e⟩ := anyZ_e q
    obtain ⟨i, hi, w⟩ := crn_x (show crn F m n c = true from e)
    refine anyZ_t (k := 3 * m + i) (by omega) (by omega) ?_
    show pS F (4 * (3 * m + i)) (4 * (3 * n + c)) = true
    rw [show 4 * (3 * m + i) = 4 * i + 12 * m by omega, show 4 * (3 * n + c) = 4 * c + 12 * n by omega]
    exact w
  | false =>
    rw [anyZ_f] at q ⊢
    intro j h0 h1
    rcases Bool.eq_false_or_eq_true (pS F (4 * j) (4 * (3 * n + c))) with w | w
    · exfalso
      rw [show 4 * j = 4 * (j % 3) + 12 * (j / 3) by omega, show 4 * (3 * n + c) = 4 * c + 12 * n by omega] at w
      rcases (show j / 3 < n ∨ j / 3 = n by omega) with r | r
      · have := q (j / 3) (by omega) (by omega)
        have c1 := crn_i (by omega) w
        have c1 : decide (¬ cAt F (j / 3) n c = -1) = true := c1
        rw [c1] at this; cases this
      · rw [r] at w
        have := (dist g (by omega) hc).mp w
        omega
    · exact w
theorem mp_e {T F : Int → Int} {z : Int} (hp : pat T F z) (hz : 0 ≤ z) : cpZ F z = moP F z := by
  unfold cpZ moP cntZ
  rw [show (3 * z).toNat = 3 * z.toNat by omega, sum_3]
  refine sumZ_congr (fun n a b => ?_)
  show cntZ 3 (fun c => ifaZ F n c) = _
  rw [cnt3]
  have h0 := fsf_e (c := 0) hp ⟨a, by omega⟩ (by decide)
  have h1 := fsf_e (c := 1) hp ⟨a, by omega⟩ (by decide)
  have h2 := fsf_e (c := 2) hp ⟨a, by omega⟩ (by decide)
  rw [← h0, ← h1, ← h2, Int.add_zero]
/-! rows that agree -/
theorem moE_c {T F T' F' : Int → Int} {z : Int} (h : ag T F T' F' z) : moE F' z = moE F z := by
  refine sumZ_congr (fun n a b => cntZ_congr (fun e a' b' => ?_))
  unfold alf
  congr 1
  refine anyZ_congr (fun o a2 b2 => ?_)
  unfold alq
  congr 1
  refine anyZ_congr (fun f a3 b3 => ?_)
  have i0 := enZ_in (e := e) (w := 0) (by decide); have i1 := enZ_in (e := e) (w := 1) (by decide)
  have j0 := enZ_in (e := f) (w := 0) (by decide); have j1 := enZ_in (e := f) (w := 1) (by decide)
  show hef F' _ _ _ _ = hef F _ _ _ _
  unfold hef
  rw [pS_ag h (by omega) (by omega), pS_ag h (by omega) (by omega), pS_ag h (by omega) (by omega), pS_ag h (by omega) (by omega)]
theorem moP_c {T F T' F' : Int → Int} {z : Int} (h : ag T F T' F' z) : moP F' z = moP F z := by
  refine cntZ_congr (fun k a b => ?_)
  show fsf F' k = fsf F k
  unfold fsf
  congr 1
  refine anyZ_congr (fun j a' b' => ?_)
  exact pS_ag h (by omega) (by omega)
theorem cpr_c {T F T' F' : Int → Int} {z : Int} (h : ag T F T' F' z) : cprZ T' F' z = cprZ T F z := by
  refine cntZ_congr (fun n a b => ?_)
  show ipZ T' F' z n = ipZ T F z n
  unfold ipZ
  refine anyZ_congr (fun m a' b' => ?_)
  rw [h.1 m a' (by omega), h.1 n a (by omega), pS_ag h (by omega) (by omega), pS_ag h (by omega) (by omega)]
theorem ct_c {T F T' F' : Int → Int} {z y : Int} (h : ag T F T' F' z) : ctZ T' z y = ctZ T z y := by
  refine cntZ_congr (fun n a b => ?_)
  rw [h.1 n a (by omega)]
theorem ct_2 {T F : Int → Int} {z : Int} (hp : pat T F z) (hz : 0 ≤ z) : ctZ T z 1 = z - ctZ T z 0 := by
  have : ∀ n : Nat, (n : Int) ≤ z → ctZ T n 1 + ctZ T n 0 = n := by
    intro n
    induction n with
    | zero => intro _; rfl
    | succ n ih =>
      intro hn
      have i := ih (by omega)
      have t := pat_T hp (n := n) (by omega)
      have e1 : ctZ T ((n + 1 : Nat) : Int) 1 = ctZ T n 1 + (if decide (T n = 1) = true then 1 else 0) := rfl
      have e0 : ctZ T ((n + 1 : Nat) : Int) 0 = ctZ T n 0 + (if decide (T n = 0) = true then 1 else 0) := rfl
      rw [e1, e0]
      rcases t with t | t
      · rw [if_neg (by simp; omega), if_pos (by simp; omega)]; omega
      · rw [if_pos (by simp; omega), if_neg (by simp; omega)]; omega
  have q := this z.toNat (by omega)
  rw [show ((z.toNat : Nat) : Int) = z by omega] at q
  omega
theorem count_e {Lo Hi T F T' F' : Int → Int} {z lv w : Int} (h : ag T F T' F' z) (hp : pat T F z) (hs : mss Lo Hi F z) (hz : 0 ≤ z) : couZ Lo Hi T F z lv w = mcouZ T' F' z lv w := by
  unfold couZ mcouZ
  rw [ct_c h, moE_c h, moP_c h, cpr_c h, cle_e hp hs, mp_e hp hz, ct_2 hp hz]
theorem cor_c {T F T' F' : Int → Int} {z n c i : Int} (h : ag T F T' F' z) : corZ T F z n c i = corZ T' F' z n c i := by
  unfold corZ
  by_cases q : (hasZ z n c && decide (0 ≤ i ∧ i ≤ 4)) = true
  · rw [if_pos q, if_pos q]
    rw [Bool.and_eq_true] at q
    obtain ⟨hn, hc⟩ := hasZ_b q.1
    have hi := of_decide_eq_true q.2
    by_cases e : i = 4
    · rw [if_pos e, if_pos e, h.1 n hn.1 hn.2]
    · rw [if_neg e, if_neg e, h.2 _ (by omega) (by omega)]
  · rw [if_neg q, if_neg q]
