/-! EDGES: what they share, by lines as by places -/
def kI (κ D d : Nat) : Int := 12586269025 * hp d (kE κ D 0) (kE κ D 1) (kE κ D 2) (kE κ D 3) + 20365011074 * hq d (kE κ D 0) (kE κ D 1) (kE κ D 2) (kE κ D 3)
theorem kE_ax : ∀ κ, κ < 3 → ∀ D, D < 10 → ∀ d, d < 5 → ((kI κ D d = 0) ↔ d = D % 5) := by decide +kernel
theorem kE_dir : ∀ κ, κ < 3 → ∀ D, D < 10 → ∀ d, d < 10 → ((kI κ D d = 0) ↔ (d = D ∨ d = op D)) := by decide +kernel
theorem ed_d {F : Int → Int} {x y : Int} {κ D : Nat} (h : ed F x y κ D) (d : Nat) : hI d F y = hI d F x + (kI κ D d) := by
  have a := HP_e h d
  unfold hI kI; rw [a.1, a.2]; omega
theorem ed_fst {F : Int → Int} {x y : Int} {κ D : Nat} (h : ed F x y κ D) : fstZ 5 (lnf F x y) = ((D % 5 : Nat) : Int) := by
  have key : ∀ d : Nat, d < 5 → (lnf F x y d = true ↔ d = D % 5) := by
    intro d hd
    unfold lnf
    rw [decide_eq_true_iff, hZ_e hd, hZ_e hd, ← kE_ax κ h.1 D h.2.1 d hd, ed_d h d]
    omega
  refine fstZ_at (by omega) (by omega) (fun j a b => ?_) ((key (D % 5) (by omega)).mpr rfl)
  obtain ⟨i, rfl⟩ : ∃ i : Nat, j = i := ⟨j.toNat, by omega⟩
  have := key i (by omega)
  cases q : lnf F x y i with
  | false => rfl
  | true => exfalso; have := this.mp q; omega
/-- an axis, as a direction: the sign is common -/
theorem ax_hI {D : Nat} (hD : D < 10) (F : Int → Int) : (∀ p, hI (D % 5) F p = hI D F p) ∨ (∀ p, hI (D % 5) F p = - hI D F p) := by
  rcases (show D < 5 ∨ 5 ≤ D by omega) with c | c
  · left; intro p; rw [show D % 5 = D by omega]
  · right; intro p
    rw [← hI_op hD]; congr 1; unfold op; omega
theorem ax_eq {D : Nat} (hD : D < 10) (F : Int → Int) (p q : Int) : hZ ((D % 5 : Nat) : Int) F p = hZ ((D % 5 : Nat) : Int) F q ↔ hI D F q = hI D F p := by
  rw [hZ_e (by omega), hZ_e (by omega)]
  rcases ax_hI hD F with h | h <;> rw [h, h] <;> omega
theorem mm_neg (a b c d : Int) : (min (-a) (-b) < max (-c) (-d) ∧ min (-c) (-d) < max (-a) (-b)) ↔ (min a b < max c d ∧ min c d < max a b) := by
  rw [show min (-a) (-b) = -(max a b) by omega, show max (-c) (-d) = -(min c d) by omega, show min (-c) (-d) = -(max c d) by omega, show max (-a) (-b) = -(min a b) by omega]
  constructor
  · rintro ⟨h, k⟩; exact ⟨by omega, by omega⟩
  · rintro ⟨h, k⟩; exact ⟨by omega, by omega⟩
theorem psh_iff {F : Int → Int} {x y p q : Int} {κ D : Nat} (h : ed F x y κ D) : pshZ F x y p q = true ↔ (hI D F p = hI D F x ∧ hI D F q = hI D F x ∧ min (hI ((D + 1) % 10) F x) (hI ((D + 1) % 10) F y) < max (hI ((D + 1) % 10) F p) (hI ((D + 1) % 10) F q) ∧ min (hI ((D + 1) % 10) F p) (hI ((D + 1) % 10) F q) < max (hI ((D + 1) % 10) F x) (hI ((D + 1) % 10) F y)) := by
  have hD := h.2.1
  unfold pshZ
  rw [ed_fst h, if_neg (by omega)]
  unfold pshA rmZ
  rw [show (((D % 5 : Nat) : Int) + 1) % 5 = (((D + 1) % 10 % 5 : Nat) : Int) by omega]
  simp only [Bool.and_eq_true, decide_eq_true_iff]
  rw [ax_eq hD, ax_eq hD, hZ_e (by omega), hZ_e (by omega), hZ_e (by omega), hZ_e (by omega), and_assoc]
  rcases ax_hI (D := (D + 1) % 10) (by omega) F with g | g <;> rw [g, g, g, g]
  rw [mm_neg]
theorem ed_ne {F : Int → Int} {p q : Int} {κ D : Nat} (h : ed F p q κ D) (np : nr F p) (nq : nr F q) {d : Nat} (hd : d < 10) (e : hI d F q = hI d F p) : hI ((d + 1) % 10) F q ≠ hI ((d + 1) % 10) F p := by
  intro g
  have a := (kE_dir κ h.1 D h.2.1 d hd).mp (by have := ed_d h d; omega)
  have b := (kE_dir κ h.1 D h.2.1 ((d + 1) % 10) (by omega)).mp (by have := ed_d h ((d + 1) % 10); omega)
  have := h.2.1
  unfold op at a b
  omega
theorem iv {X Y P Q : Int} (h : Y < X) (h2 : Q < P) : (((P = X ∧ Q = Y) ∨ (Q = X ∧ P = Y)) ∨ (P < X ∧ Y < P) ∨ (Q < X ∧ Y < Q) ∨ (X < P ∧ Q < X) ∨ (Y < P ∧ Q < Y)) ↔ (min X Y < max P Q ∧ min P Q < max X Y) := by
  rw [show min X Y = Y by omega, show max P Q = P by omega, show min P Q = Q by omega, show max X Y = X by omega]
  constructor
  · rintro ((⟨a, b⟩ | ⟨a, b⟩) | ⟨a, b⟩ | ⟨a, b⟩ | ⟨a, b⟩ | ⟨a, b⟩) <;> constructor <;> omega
  · rintro ⟨a, b⟩
    rcases (show P < X ∨ P = X ∨ X < P by omega) with c | c | c
    · exact Or.inr (Or.inl ⟨c, a⟩)
    · rcases (show Q < Y ∨ Q = Y ∨ Y < Q by omega) with e | e | e
      · exact Or.inr (Or.inr (Or.inr (Or.inr ⟨a, e⟩)))
      · exact Or.inl (Or.inl ⟨c, e⟩)
      · exact Or.inr (Or.inr (Or.inl ⟨b, e⟩))
    · exact Or.inr (Or.inr (Or.inr (Or.inl ⟨c, b⟩)))
theorem iv2 {X Y P Q : Int} (h : Y < X) (h2 : P < Q) : (((P = X ∧ Q = Y) ∨ (Q = X ∧ P = Y)) ∨ (P < X ∧ Y < P) ∨ (Q < X ∧ Y < Q) ∨ (-X < -P ∧ -Q < -X) ∨ (-Y < -P ∧ -Q < -Y)) ↔ (min X Y < max P Q ∧ min P Q < max X Y) := by
  rw [show min X Y = Y by omega, show max P Q = Q by omega, show min P Q = P by omega, show max X Y = X by omega]
  constructor
  · rintro ((⟨a, b⟩ | ⟨a, b⟩) | ⟨a, b⟩ | ⟨a, b⟩ | ⟨a, b⟩ | ⟨a, b⟩) <;> constructor <;> omega
  · rintro ⟨a, b⟩
    rcases (show Q < X ∨ Q = X ∨ X < Q by omega) with c | c | c
    · exact Or.inr (Or.inr (Or.inl ⟨c, a⟩))
    · rcases (show P < Y ∨ P = Y ∨ Y < P by omega) with e | e | e
      · exact Or.inr (Or.inr (Or.inr (Or.inr ⟨by omega, by omega⟩)))
      · exact Or.inl (Or.inr ⟨c, e⟩)
      · exact Or.inr (Or.inl ⟨b, e⟩)
    · exact Or.inr (Or.inr (Or.inr (Or.inl ⟨by omega, by omega⟩)))
theorem sgn_0 (x : Int) : sgn x = 0 ↔ x = 0 := by have := sgn_b x; omega
theorem ol_iff {F : Int → Int} {x y p q : Int} {κ D κ' D' : Nat} (h : ed F x y κ D) (h' : ed F p q κ' D') (nx : nr F x) (ny : nr F y) (np : nr F p) (nq : nr F q) : olZ F x y p q = true ↔ (hI D F p = hI D F x ∧ hI D F q = hI D F x ∧ min (hI ((D + 1) % 10) F x) (hI ((D + 1) % 10) F y) < max (hI ((D + 1) % 10) F p) (hI ((D + 1) % 10) F q) ∧ min (hI ((D + 1) % 10) F p) (hI ((D + 1) % 10) F q) < max (hI ((D + 1) % 10) F x) (hI ((D + 1) % 10) F y)) := by
  have hD := h.2.1
  have hD' := h'.2.1
  have e1 := ed_h h
  have e2 := ed_h h'
  unfold olZ
  simp only [Bool.or_eq_true, Bool.and_eq_true, decide_eq_true_iff]
  rw [pS_h hD nx np, pS_h hD ny nq, pS_h hD nx nq, pS_h hD ny np, ed_si h nx np, ed_si h nx nq, wi_iff h nx ny np, wi_iff h nx ny nq, wi_iff h' np nq nx, wi_iff h' np nq ny, sgn_0, sgn_0]
  by_cases on : hI D F p = hI D F x ∧ hI D F q = hI D F x
  · obtain ⟨o1, o2⟩ := on
    have a := (kE_dir κ' h'.1 D' hD' D hD).mp (by have := ed_d h' D; omega)
    rcases a with a | a
    · subst a
      have i := iv e1.2 e2.2
      simp only [o1, o2, e1.1, true_and, Int.sub_self]
      exact i
    · have a' : D' = op D := by rw [a, op_op hD']
      have q1 : ∀ z, hI D' F z = - hI D F z := fun z => by rw [a', hI_op hD]
      have q2 : ∀ z, hI ((D' + 1) % 10) F z = - hI ((D + 1) % 10) F z := fun z => by
        rw [a', show (op D + 1) % 10 = op ((D + 1) % 10) by unfold op; omega, hI_op (by omega)]
      simp only [q1, q2] at e2 ⊢
      have i := iv2 e1.2 (show hI ((D + 1) % 10) F p < hI ((D + 1) % 10) F q by omega)
      simp only [o1, o2, e1.1, true_and, Int.sub_self]
      exact i
  · constructor
    · rintro ((⟨a, b⟩ | ⟨a, b⟩) | ⟨a, b, -⟩) <;> exfalso <;> apply on <;> constructor <;> omega
    · rintro ⟨a, b, -⟩; exact absurd ⟨a, b⟩ on
theorem ol_psh {F : Int → Int} {x y p q : Int} {κ D κ' D' : Nat} (h : ed F x y κ D) (h' : ed F p q κ' D') (nx : nr F x) (ny : nr F y) (np : nr F p) (nq : nr F q) : olZ F x y p q = pshZ F x y p q := by
  have a := ol_iff h h' nx ny np nq
  have b := psh_iff (p := p) (q := q) h
  rw [← b] at a
  cases c : olZ F x y p q <;> cases e : pshZ F x y p q <;> simp_all
