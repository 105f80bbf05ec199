/-! THE SAME ANSWERS out of rows that agree -/
def sp (F G : Int → Int) (p : Int) : Prop := G p = F p ∧ G (p + 1) = F (p + 1) ∧ G (p + 2) = F (p + 2) ∧ G (p + 3) = F (p + 3)
theorem pS_c {F G : Int → Int} {p q : Int} (hp : sp F G p) (hq : sp F G q) : pS G p q = pS F p q := by
  obtain ⟨a0, a1, a2, a3⟩ := hp; obtain ⟨b0, b1, b2, b3⟩ := hq
  unfold pS; rw [a0, a1, a2, a3, b0, b1, b2, b3]
theorem siZ_c {F G : Int → Int} {x y z : Int} (hx : sp F G x) (hy : sp F G y) (hz : sp F G z) : siZ G x y z = siZ F x y z := by
  obtain ⟨a0, a1, a2, a3⟩ := hx; obtain ⟨b0, b1, b2, b3⟩ := hy; obtain ⟨c0, c1, c2, c3⟩ := hz
  unfold siZ; rw [a0, a1, a2, a3, b0, b1, b2, b3, c0, c1, c2, c3]
theorem agZ_c {F G : Int → Int} {x y z : Int} (hx : sp F G x) (hy : sp F G y) (hz : sp F G z) : agZ G x y z = agZ F x y z := by
  obtain ⟨a0, a1, a2, a3⟩ := hx; obtain ⟨b0, b1, b2, b3⟩ := hy; obtain ⟨c0, c1, c2, c3⟩ := hz
  unfold agZ; rw [a0, a1, a2, a3, b0, b1, b2, b3, c0, c1, c2, c3]
theorem wiZ_c {F G : Int → Int} {x y z : Int} (hx : sp F G x) (hy : sp F G y) (hz : sp F G z) : wiZ G x y z = wiZ F x y z := by
  unfold wiZ; rw [siZ_c hx hy hz, agZ_c hx hy hz, agZ_c hy hx hz]
theorem olZ_c {F G : Int → Int} {x y p q : Int} (hx : sp F G x) (hy : sp F G y) (hp : sp F G p) (hq : sp F G q) : olZ G x y p q = olZ F x y p q := by
  unfold olZ
  rw [pS_c hx hp, pS_c hy hq, pS_c hx hq, pS_c hy hp, siZ_c hx hy hp, siZ_c hx hy hq, wiZ_c hx hy hp, wiZ_c hx hy hq, wiZ_c hp hq hx, wiZ_c hp hq hy]
/-- rows of so many halves agree -/
def ag (T F T' F' : Int → Int) (z : Int) : Prop := (∀ k, 0 ≤ k → k < z → T' k = T k) ∧ (∀ k, 0 ≤ k → k < 12 * z → F' k = F k)
theorem ag_sp {T F T' F' : Int → Int} {z p : Int} (h : ag T F T' F' z) (h0 : 0 ≤ p) (h1 : p + 4 ≤ 12 * z) : sp F F' p := ⟨h.2 _ (by omega) (by omega), h.2 _ (by omega) (by omega), h.2 _ (by omega) (by omega), h.2 _ (by omega) (by omega)⟩
theorem pS_ag {T F T' F' : Int → Int} {z p q : Int} (h : ag T F T' F' z) (h0 : 0 ≤ p ∧ p + 4 ≤ 12 * z) (h1 : 0 ≤ q ∧ q + 4 ≤ 12 * z) : pS F' p q = pS F p q := pS_c (ag_sp h h0.1 h0.2) (ag_sp h h1.1 h1.2)
theorem owZ_c {T F T' F' : Int → Int} {z n e : Int} (h : ag T F T' F' z) (hn : 0 ≤ n ∧ n < z) (he : 0 ≤ e ∧ e ≤ 2) : owZ F' n e = owZ F n e := by
  unfold owZ
  exact siZ_c (ag_sp h (by omega) (by omega)) (ag_sp h (by omega) (by omega)) (ag_sp h (by omega) (by omega))
theorem paZ_c {T F T' F' : Int → Int} {z n o : Int} (h : ag T F T' F' z) (hn : 0 ≤ n ∧ n < z) (ho : 0 ≤ o ∧ o < z) : paZ F' n o = paZ F n o := by
  unfold paZ
  refine anyZ_congr (fun e a b => ?_)
  unfold paf
  rw [owZ_c h hn ⟨a, by omega⟩]
  congr 1
  refine anyZ_congr (fun k a' b' => ?_)
  show decide (siZ F' _ _ _ = _) = decide (siZ F _ _ _ = _)
  rw [siZ_c (ag_sp h (by omega) (by omega)) (ag_sp h (by omega) (by omega)) (ag_sp h (by omega) (by omega))]
theorem amf_c {T F T' F' : Int → Int} {z n o e f : Int} (h : ag T F T' F' z) (hn : 0 ≤ n ∧ n < z) (ho : 0 ≤ o ∧ o < z) : amf T' F' n o e f = amf T F n o e f := by
  have t1 := h.1 n hn.1 hn.2; have t2 := h.1 o ho.1 ho.2
  have e1 : frZ T' n e = frZ T n e := by unfold frZ; rw [t1]
  have e2 : toZ T' n e = toZ T n e := by unfold toZ; rw [t1]
  have e3 : frZ T' o f = frZ T o f := by unfold frZ; rw [t2]
  have e4 : toZ T' o f = toZ T o f := by unfold toZ; rw [t2]
  have e5 : mkZ T' n e = mkZ T n e := by unfold mkZ; rw [t1]
  have e6 : mkZ T' o f = mkZ T o f := by unfold mkZ; rw [t2]
  have b1 := frZ_in T n e; have b2 := toZ_in T n e; have b3 := frZ_in T o f; have b4 := toZ_in T o f
  unfold amf
  rw [e1, e2, e3, e4, e5, e6]
  have s1 : sp F F' (frZ T n e) := ag_sp h (by omega) (by omega)
  have s2 : sp F F' (toZ T n e) := ag_sp h (by omega) (by omega)
  have s3 : sp F F' (frZ T o f) := ag_sp h (by omega) (by omega)
  have s4 : sp F F' (toZ T o f) := ag_sp h (by omega) (by omega)
  rw [olZ_c s1 s2 s3 s4, pS_c s1 s3, pS_c s2 s4]
theorem agn_c {T F T' F' : Int → Int} {z n o : Int} (h : ag T F T' F' z) (hn : 0 ≤ n ∧ n < z) (ho : 0 ≤ o ∧ o < z) : agnZ T' F' n o = agnZ T F n o := by
  have s1 := ag_sp (p := 12 * n) h (by omega) (by omega)
  have s2 := ag_sp (p := 12 * o) h (by omega) (by omega)
  have e : neZ F' n o = neZ F n o := by
    unfold neZ; rw [s1.1, s1.2.1, s1.2.2.1, s1.2.2.2, s2.1, s2.2.1, s2.2.2.1, s2.2.2.2]
  unfold agnZ
  rw [e, paZ_c h hn ho, paZ_c h ho hn]
  congr 2
  exact anyZ_congr (fun e a b => anyZ_congr (fun f a' b' => amf_c h hn ho))
/-- a patch that is as it should be, with its strips -/
def pat (T F : Int → Int) (z : Int) : Prop := ∀ n, 0 ≤ n → n < z → ∃ σ, good T F n σ
def mss (Lo Hi F : Int → Int) (z : Int) : Prop := ∀ n, 0 ≤ n → n < z → ms Lo Hi F n
theorem cl_c {Lo Hi T F T' F' : Int → Int} {z m n : Int} (h : ag T F T' F' z) (hp : pat T F z) (hs : mss Lo Hi F z) (hm : 0 ≤ m ∧ m < z) (hn : 0 ≤ n ∧ n < z) : clZ Lo Hi T F m n = agnZ T' F' m n := by
  obtain ⟨σ, g1⟩ := hp m hm.1 hm.2
  obtain ⟨τ, g2⟩ := hp n hn.1 hn.2
  rw [cl_agn g1 g2 (hs m hm.1 hm.2) (hs n hn.1 hn.2), agn_c h hm hn]
theorem fstZ_congr {n : Nat} {f g : Int → Bool} (h : ∀ k : Int, 0 ≤ k → k < n → f k = g k) : fstZ n f = fstZ n g := by
  induction n with
  | zero => rfl
  | succ n ih =>
    show (if fstZ n f = -1 then (if f n then (n : Int) else -1) else fstZ n f) = (if fstZ n g = -1 then (if g n then (n : Int) else -1) else fstZ n g)
    rw [ih (fun k a b => h k a (by omega)), h n (by omega) (by omega)]
theorem sumZ_congr {n : Nat} {f g : Int → Int} (h : ∀ k : Int, 0 ≤ k → k < n → f k = g k) : sumZ n f = sumZ n g := by
  induction n with
  | zero => rfl
  | succ n ih =>
    show sumZ n f + f n = sumZ n g + g n
    rw [ih (fun k a b => h k a (by omega)), h n (by omega) (by omega)]
theorem cntZ_congr {n : Nat} {f g : Int → Bool} (h : ∀ k : Int, 0 ≤ k → k < n → f k = g k) : cntZ n f = cntZ n g :=
  sumZ_congr (fun k a b => by rw [h k a b])
theorem clash_e {Lo Hi T F T' F' : Int → Int} {z : Int} (h : ag T F T' F' z) (hp : pat T F z) (hs : mss Lo Hi F z) : clashZ Lo Hi T F z = mclZ T' F' z := by
  unfold clashZ mclZ
  congr 1
  refine fstZ_congr (fun n a b => ?_)
  unfold eaZ
  rcases (show n = 0 ∨ 1 ≤ n by omega) with rfl | c
  · rfl
  · rw [decide_eq_true c, Bool.true_and]
    exact anyZ_congr (fun m a' b' => cl_c h hp hs (by omega) (by omega))
/-! star -/
theorem AN_e (t c : Int) (ht : t = 0 ∨ t = 1) (hc : c = 0 ∨ c = 1 ∨ c = 2) : z_ANGLES (3 * t + c) = if c = 0 then 1 + 2 * t else 2 - t := by
  rcases ht with rfl | rfl <;> rcases hc with rfl | rfl | rfl <;> decide
theorem pat_T {T F : Int → Int} {z n : Int} (hp : pat T F z) (h : 0 ≤ n ∧ n < z) : T n = 0 ∨ T n = 1 := by
  obtain ⟨σ, g⟩ := hp n h.1 h.2
  have := g.1; have := g.2.1.1; omega
theorem an_e {T F T' F' : Int → Int} {z m n c : Int} (h : ag T F T' F' z) (hp : pat T F z) (hm : 0 ≤ m ∧ m < z) (hn : 0 ≤ n ∧ n < z) (hc : 0 ≤ c ∧ c ≤ 2) : anZ T' F' m (4 * c + 12 * n) = stG T F n c m ∧ decide (¬ anZ T' F' m (4 * c + 12 * n) = 0) = crn F m n c := by
  have t := pat_T hp hm
  unfold anZ stG crn cAt
  rw [h.1 m hm.1 hm.2, pS_ag h (by omega) (by omega), pS_ag h (by omega) (by omega), pS_ag h (by omega) (by omega)]
  by_cases c0 : pS F (12 * m) (4 * c + 12 * n) = true
  · rw [if_pos c0, if_pos c0, AN_e _ _ t (Or.inl rfl)]; simp; omega
  · rw [if_neg c0, if_neg c0]
    by_cases c1 : pS F (12 * m + 4) (4 * c + 12 * n) = true
    · rw [if_pos c1, if_pos c1, AN_e _ _ t (Or.inr (Or.inl rfl))]; simp; omega
    · rw [if_neg c1, if_neg c1]
      by_cases c2 : pS F (12 * m + 8) (4 * c + 12 * n) = true
      · rw [if_pos c2, if_pos c2, AN_e _ _ t (Or.inr (Or.inr rfl))]; simp; omega
      · rw [if_neg c2, if_neg c2]; simp
theorem hasZ_b {z n c : Int} (h : hasZ z n c = true) : (0 ≤ n ∧ n < z) ∧ 0 ≤ c ∧ c ≤ 2 := by
  unfold hasZ at h
  have := of_decide_eq_true h; omega
theorem star_e {Lo Hi T F T' F' : Int → Int} {z n c w : Int} (h : ag T F T' F' z) (hp : pat T F z) (hs : mss Lo Hi F z) : starZ Lo Hi T F z n c w = mstZ T' F' z n c w := by
  unfold starZ mstZ
  by_cases q : (hasZ z n c && decide (0 ≤ w ∧ w ≤ 2)) = true
  · rw [if_pos q, if_pos q]
    rw [Bool.and_eq_true] at q
    obtain ⟨hn, hc⟩ := hasZ_b q.1
    have e1 : stH F z n c = cntZ z.toNat (fun k => decide (¬ anZ T' F' k (4 * c + 12 * n) = 0)) := cntZ_congr (fun k a b => ((an_e h hp ⟨a, by omega⟩ hn hc).2).symm)
    have e2 : stA T F z n c = sumZ z.toNat (fun k => anZ T' F' k (4 * c + 12 * n)) := sumZ_congr (fun k a b => ((an_e h hp ⟨a, by omega⟩ hn hc).1).symm)
    have e3 : stcZ Lo Hi T F z n c = anyZ z.toNat (fun k => mgk T' F' (4 * c + 12 * n) k) := by
      refine anyZ_congr (fun k a b => ?_)
      unfold mgk
      rw [(an_e h hp ⟨a, by omega⟩ hn hc).2]
      rcases (show k = 0 ∨ 1 ≤ k by omega) with rfl | g
      · show (false && _) = (_ && false)
        simp
      · rw [decide_eq_true g, Bool.true_and]
        show (crn F k n c && _) = (crn F k n c && _)
        congr 1
        refine anyZ_congr (fun o a' b' => ?_)
        unfold mgo
        rw [(an_e h hp ⟨a', by omega⟩ hn hc).2]
        show (crn F o n c && _) = _
        congr 1
        exact cl_c h hp hs (by omega) (by omega)
    rw [e1, e2, e3]
  · rw [if_neg q, if_neg q]
/-! inside -/
theorem st4_at (F : Int → Int) (p a b c d : Int) : st4 F p a b c d p = a ∧ st4 F p a b c d (p + 1) = b ∧ st4 F p a b c d (p + 2) = c ∧ st4 F p a b c d (p + 3) = d := by
  unfold st4
  refine ⟨?_, ?_, ?_, ?_⟩
  · rw [uZ_n (by omega), uZ_n (by omega), uZ_n (by omega), uZ_s]
  · rw [uZ_n (by omega), uZ_n (by omega), uZ_s]
  · rw [uZ_n (by omega), uZ_s]
  · rw [uZ_s]
theorem st4_out {F : Int → Int} {p a b c d j : Int} (h : j < p ∨ p + 4 ≤ j) : st4 F p a b c d j = F j := by
  unfold st4
  rw [uZ_n (by omega), uZ_n (by omega), uZ_n (by omega), uZ_n (by omega)]
theorem m40 : ∀ d, d < 10 → mI 40 d = 0 ∧ mP 40 d = 0 ∧ mQ 40 d = 0 := by decide +kernel
/-- a point in a half: where its strips hold it -/
theorem cv_iff {F : Int → Int} {n p : Int} {σ : Nat} (hn : sh F (12 * n) σ) (nn : nr3 F (12 * n)) (np : nr F p) : cvZ F n p = true ↔ ∀ e, e < 3 → 0 ≤ sI σ 40 (oD σ e) F (12 * n) p := by
  have hσ := hn.1
  have key : ∀ e : Nat, e < 3 → (cvf F n p e = false ↔ 0 ≤ sI σ 40 (oD σ e) F (12 * n) p) := by
    intro e he
    have hD := (kedge σ hσ e he).1
    have ed1 := sh_ed hn he
    have q1 : (4 * (e : Int) + 12 * n) = 12 * n + 4 * (e : Int) := by omega
    have q2 : (4 * (((e : Int) + 1) % 3) + 12 * n) = 12 * n + 4 * (((e + 1) % 3 : Nat) : Int) := by omega
    have q3 : (4 * (((e : Int) + 2) % 3) + 12 * n) = 12 * n + 4 * (((e + 2) % 3 : Nat) : Int) := by omega
    have ow : owZ F n e = sO σ := by
      unfold owZ
      rw [q1, q2, q3, ed_si ed1 (nr3_c nn he) (nr3_c nn (by omega)), (sh_h hn he _).2.2, (sh_h hn (c := (e + 2) % 3) (by omega) _).2.2, ← (kown σ hσ e he).1]
      congr 1; omega
    have si : siZ F (4 * (e : Int) + 12 * n) (4 * (((e : Int) + 1) % 3) + 12 * n) p = sgn (hI (eD σ e) F p - (hI (eD σ e) F (12 * n) + zI σ e (eD σ e))) := by
      rw [q1, q2, ed_si ed1 (nr3_c nn he) np, (sh_h hn he _).2.2]
    have ko := kown σ hσ e he
    have m1 : zI σ e (oD σ e) = mI σ (oD σ e) := by rw [mI_e, ← ko.2.1, ← ko.2.2]; rfl
    unfold cvf
    rw [ow, si]
    have b0 := sgn_b (hI (eD σ e) F p - (hI (eD σ e) F (12 * n) + zI σ e (eD σ e)))
    simp only [Bool.and_eq_false_iff, decide_eq_false_iff_not, Decidable.not_not]
    unfold oD at m1 ⊢
    unfold sO sI
    by_cases l : σ / 10 % 2 = 0
    · rw [if_pos l] at m1 ⊢
      rw [if_pos l, (m40 _ (op_lt _)).1, hI_op hD, hI_op hD, ← m1, e_op σ (by omega) e he _ hD]
      omega
    · rw [if_neg l] at m1 ⊢
      rw [if_neg l, (m40 _ (op_lt _)).1, ← m1]
      omega
  have k0 := key 0 (by decide); have k1 := key 1 (by decide); have k2 := key 2 (by decide)
  unfold cvZ
  rw [any3, Bool.not_eq_true', Bool.or_eq_false_iff, Bool.or_eq_false_iff]
  constructor
  · rintro ⟨⟨a, b⟩, c⟩ e he
    rcases (show e = 0 ∨ e = 1 ∨ e = 2 by omega) with rfl | rfl | rfl
    · exact k0.mp a
    · exact k1.mp b
    · exact k2.mp c
  · intro h
    exact ⟨⟨k0.mpr (h 0 (by decide)), k1.mpr (h 1 (by decide))⟩, k2.mpr (h 2 (by decide))⟩
theorem ho_iff {Lo Hi F hs : Int → Int} {n p : Int} {σ : Nat} (hn : sh F (12 * n) σ) (sn : ms Lo Hi F n) (hh : ∀ k : Nat, k < 5 → hs k = hI k F p) : hoZ Lo Hi hs n = true ↔ ∀ d, d < 10 → 0 ≤ sI σ 40 d F (12 * n) p := by
  have key : ∀ k : Nat, k < 5 → (hof Lo Hi hs n k = false ↔ (0 ≤ sI σ 40 k F (12 * n) p ∧ 0 ≤ sI σ 40 (k + 5) F (12 * n) p)) := by
    intro k hk
    have a := sn k (by omega) (by omega)
    have c := low_e hn hk
    have m4 := (m40 _ (op_lt k)).1; have m5 := (m40 k (by omega)).1
    unfold hof
    rw [a.1, a.2, c.1, c.2, sI_5 hk, hh k hk]
    unfold sI
    simp only [decide_eq_false_iff_not]
    omega
  rw [tens]
  unfold hoZ
  rw [any5, Bool.not_eq_true', Bool.or_eq_false_iff, Bool.or_eq_false_iff, Bool.or_eq_false_iff, Bool.or_eq_false_iff]
  have k0 := key 0 (by decide); have k1 := key 1 (by decide); have k2 := key 2 (by decide); have k3 := key 3 (by decide); have k4 := key 4 (by decide)
  constructor
  · rintro ⟨⟨⟨⟨a, b⟩, c⟩, d⟩, e⟩ k hk
    rcases five hk with rfl | rfl | rfl | rfl | rfl
    · exact k0.mp a
    · exact k1.mp b
    · exact k2.mp c
    · exact k3.mp d
    · exact k4.mp e
  · intro h
    exact ⟨⟨⟨⟨k0.mpr (h 0 (by decide)), k1.mpr (h 1 (by decide))⟩, k2.mpr (h 2 (by decide))⟩, k3.mpr (h 3 (by decide))⟩, k4.mpr (h 4 (by decide))⟩
theorem ho_cv {Lo Hi F hs : Int → Int} {n p : Int} {σ : Nat} (hn : sh F (12 * n) σ) (nn : nr3 F (12 * n)) (np : nr F p) (sn : ms Lo Hi F n) (hh : ∀ k : Nat, k < 5 → hs k = hI k F p) : hoZ Lo Hi hs n = cvZ F n p := by
  have a := ho_iff hn sn hh
  have b := cv_iff hn nn np
  have c : (∀ d, d < 10 → 0 ≤ sI σ 40 d F (12 * n) p) ↔ ∀ e, e < 3 → 0 ≤ sI σ 40 (oD σ e) F (12 * n) p := by
    constructor
    · intro h e he; exact h _ (oD_lt σ hn.1 e he)
    · intro h d hd
      rw [sg_nn, ← sI_sg nn.1 np]
      refine sat (k0 := 0) (Or.inl rfl) hn.1 (by decide) ?_ (fun h => absurd h (by decide)) d hd
      intro e he; rw [sI_sg nn.1 np, ← sg_nn]; exact h e he
  rw [c, ← b] at a
  cases q : hoZ Lo Hi hs n <;> cases r : cvZ F n p <;> simp_all
theorem ins_e {Lo Hi T F T' F' : Int → Int} {z a b c d : Int} (h : ag T F T' F' z) (hp : pat T F z) (hs : mss Lo Hi F z) (hz : z ≤ 400) : insZ Lo Hi z a b c d = minZ F' z a b c d := by
  unfold insZ minZ
  show (if ftZ a b c d = true then _ else _) = _
  by_cases q : ftZ a b c d = true
  · rw [if_pos q, if_pos q]
    refine fstZ_congr (fun n a' b' => ?_)
    obtain ⟨σ, g⟩ := hp n a' (by omega)
    have hs' := hs n a' (by omega)
    have fb := ftZ_b q
    obtain ⟨s0, s1, s2, s3⟩ := st4_at F' 4800 a b c d
    have out : ∀ j, 12 * n ≤ j → j < 12 * n + 12 → st4 F' 4800 a b c d j = F j := by
      intro j h1 h2
      rw [st4_out (by omega)]
      exact h.2 j (by omega) (by omega)
    have eq1 : sh (st4 F' 4800 a b c d) (12 * n) σ := by
      have w := g.2.1
      unfold sh at w ⊢
      rw [out _ (by omega) (by omega), out _ (by omega) (by omega), out _ (by omega) (by omega), out _ (by omega) (by omega), out _ (by omega) (by omega), out _ (by omega) (by omega), out _ (by omega) (by omega), out _ (by omega) (by omega), out _ (by omega) (by omega), out _ (by omega) (by omega), out _ (by omega) (by omega), out _ (by omega) (by omega)]
      exact w
    have eq2 : nr3 (st4 F' 4800 a b c d) (12 * n) := by
      have w := g.2.2
      unfold nr3 nr at w ⊢
      rw [out _ (by omega) (by omega), out _ (by omega) (by omega), out _ (by omega) (by omega), out _ (by omega) (by omega), out _ (by omega) (by omega), out _ (by omega) (by omega), out _ (by omega) (by omega), out _ (by omega) (by omega), out _ (by omega) (by omega), out _ (by omega) (by omega), out _ (by omega) (by omega), out _ (by omega) (by omega)]
      exact w
    have eq3 : ms Lo Hi (st4 F' 4800 a b c d) n := by
      intro k h1 h2
      obtain ⟨i, rfl⟩ : ∃ i : Nat, k = i := ⟨k.toNat, by omega⟩
      have w := hs' i h1 h2
      rw [w.1, w.2]
      unfold lowZ higZ hZ
      rw [out _ (by omega) (by omega), out _ (by omega) (by omega), out _ (by omega) (by omega), out _ (by omega) (by omega), out _ (by omega) (by omega), out _ (by omega) (by omega), out _ (by omega) (by omega), out _ (by omega) (by omega), out _ (by omega) (by omega), out _ (by omega) (by omega), out _ (by omega) (by omega), out _ (by omega) (by omega)]
      exact ⟨rfl, rfl⟩
    refine ho_cv eq1 eq2 ?_ eq3 ?_
    · unfold nr; rw [s0, s1, s2, s3]; exact fb
    · intro k hk
      rw [← hZ_e hk]
      show hPt k a b c d = _
      unfold hPt hZ; rw [s0, s1, s2, s3]
  · rw [if_neg q, if_neg q]
