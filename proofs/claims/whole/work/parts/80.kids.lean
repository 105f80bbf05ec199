/-! HALVES and what they are divided into -/
abbrev V4 := Int × Int × Int × Int
def vA (x y : V4) : V4 := (x.1 + y.1, x.2.1 + y.2.1, x.2.2.1 + y.2.2.1, x.2.2.2 + y.2.2.2)
def vS (x : V4) : V4 := (x.2.1 - x.2.2.2 - x.1, x.2.2.1 - x.2.2.2, x.2.1 - x.1, x.2.2.1 - x.1 - x.2.2.2)
/-- a corner of a piece: x / G + y -/
def pt (x y : V4) : V4 := vA (vS x) y
abbrev Hf := Int × V4 × V4 × V4
def tr (P : V4) (h : Hf) : Hf := (h.1, vA P h.2.1, vA P h.2.2.1, vA P h.2.2.2)
def kids (h : Hf) : List Hf :=
  if h.1 = 0 then [(0, pt h.2.2.2 h.2.2.2, pt h.2.1 h.2.2.1, pt h.2.2.1 h.2.2.1), (1, pt h.2.1 h.2.2.1, pt h.2.2.2 h.2.2.2, pt h.2.1 h.2.1)]
  else [(1, pt h.2.2.1 h.2.2.2, pt h.2.2.2 h.2.2.2, pt h.2.1 h.2.1), (1, pt h.2.2.1 h.2.1, pt h.2.2.1 h.2.2.2, pt h.2.2.1 h.2.2.1), (0, pt h.2.2.1 h.2.2.2, pt h.2.2.1 h.2.1, pt h.2.1 h.2.1)]
theorem vA_as (a b c : V4) : vA (vA a b) c = vA a (vA b c) := by unfold vA; simp only [Prod.mk.injEq]; refine ⟨?_, ?_, ?_, ?_⟩ <;> omega
theorem pt_tr (P x y : V4) : pt (vA P x) (vA P y) = vA (pt P P) (pt x y) := by
  unfold pt vA vS; simp only [Prod.mk.injEq]; refine ⟨?_, ?_, ?_, ?_⟩ <;> omega
theorem tr_tr (a b : V4) (h : Hf) : tr (vA a b) h = tr a (tr b h) := by unfold tr; simp only [vA_as]
theorem kids_tr (P : V4) (h : Hf) : kids (tr P h) = (kids h).map (tr (pt P P)) := by
  unfold kids
  by_cases c : h.1 = 0
  · rw [if_pos c, if_pos (show (tr P h).1 = 0 from c)]
    simp only [tr, pt_tr, List.map_cons, List.map_nil]
  · rw [if_neg c, if_neg (show ¬ (tr P h).1 = 0 from c)]
    simp only [tr, pt_tr, List.map_cons, List.map_nil]
def uT (D : Nat) : V4 := (uV D 0, uV D 1, uV D 2, uV D 3)
def h0 (σ : Nat) : Hf := (((σ / 20 : Nat) : Int), (0, 0, 0, 0), uT (sK σ), uT (sJ σ))
def vh (h : Hf) (σ : Nat) : Prop := σ < 40 ∧ h = tr h.2.1 (h0 σ)
theorem kv_all : ∀ σ, σ < 40 → (kids (h0 σ)).all (fun k => (List.range 40).any (fun τ => decide (k = tr k.2.1 (h0 τ)))) = true := by decide +kernel
theorem kv (σ : Nat) (hσ : σ < 40) (k : Hf) (hk : k ∈ kids (h0 σ)) : ∃ τ, τ < 40 ∧ k = tr k.2.1 (h0 τ) := by
  have a := kv_all σ hσ
  rw [List.all_eq_true] at a
  have b := a k hk
  rw [List.any_eq_true] at b
  obtain ⟨τ, m, e⟩ := b
  exact ⟨τ, List.mem_range.mp m, of_decide_eq_true e⟩
theorem vh_tr {P : V4} {h : Hf} {σ : Nat} (v : vh h σ) : vh (tr P h) σ := by
  refine ⟨v.1, ?_⟩
  show tr P h = tr (vA P h.2.1) (h0 σ)
  rw [tr_tr, ← v.2]
theorem vh_kid {h k : Hf} {σ : Nat} (v : vh h σ) (hk : k ∈ kids h) : ∃ τ, vh k τ := by
  rw [v.2, kids_tr, List.mem_map] at hk
  obtain ⟨k0, m, e⟩ := hk
  obtain ⟨τ, a, b⟩ := kv σ v.1 k0 m
  exact ⟨τ, by rw [← e]; exact vh_tr ⟨a, b⟩⟩
/-! heights -/
def Hp (d : Nat) (x : V4) : Int := hp d x.1 x.2.1 x.2.2.1 x.2.2.2
def Hq (d : Nat) (x : V4) : Int := hq d x.1 x.2.1 x.2.2.1 x.2.2.2
theorem Hp_vA (d : Nat) (x y : V4) : Hp d (vA x y) = Hp d x + Hp d y := hp_add _ _ _ _ _ _ _ _
theorem Hq_vA (d : Nat) (x y : V4) : Hq d (vA x y) = Hq d x + Hq d y := hq_add _ _ _ _ _ _ _ _
theorem H_vS {d : Nat} (hd : d < 10) (x : V4) : Hp d (vS x) = Hq d x - Hp d x ∧ Hq d (vS x) = Hp d x := by
  unfold Hp Hq vS
  rcases ten hd with rfl | rfl | rfl | rfl | rfl | rfl | rfl | rfl | rfl | rfl <;> simp only [hp, hq] <;> refine ⟨?_, ?_⟩ <;> first | trivial | omega
/-- x isn't higher than y -/
def lv (d : Nat) (x y : V4) : Prop := 0 ≤ sgZ (Hp d y - Hp d x) (Hq d y - Hq d x)
theorem lv_tr {d : Nat} (P x y : V4) : lv d (vA P x) (vA P y) ↔ lv d x y := by
  unfold lv
  rw [Hp_vA, Hp_vA, Hq_vA, Hq_vA, show Hp d P + Hp d y - (Hp d P + Hp d x) = Hp d y - Hp d x by omega, show Hq d P + Hq d y - (Hq d P + Hq d x) = Hq d y - Hq d x by omega]
theorem lv_pt {d : Nat} (hd : d < 10) {x y x' y' : V4} (h1 : lv d x x') (h2 : lv d y y') : lv d (pt x y) (pt x' y') := by
  unfold lv at *
  unfold pt
  rw [Hp_vA, Hp_vA, Hq_vA, Hq_vA, (H_vS hd x).1, (H_vS hd x).2, (H_vS hd x').1, (H_vS hd x').2]
  have a : 0 ≤ sgZ (Hq d x' - Hq d x - (Hp d x' - Hp d x)) (Hp d x' - Hp d x) := by
    rw [← sgZ_phi]
    rw [show Hq d x' - Hq d x - (Hp d x' - Hp d x) + (Hp d x' - Hp d x) = Hq d x' - Hq d x by omega]
    exact h1
  have b := (sgZ_add a h2).1
  rw [show Hq d x' - Hp d x' + Hp d y' - (Hq d x - Hp d x + Hp d y) = Hq d x' - Hq d x - (Hp d x' - Hp d x) + (Hp d y' - Hp d y) by omega, show Hp d x' + Hq d y' - (Hp d x + Hq d y) = Hp d x' - Hp d x + (Hq d y' - Hq d y) by omega]
  exact b
def cs (h : Hf) : List V4 := [h.2.1, h.2.2.1, h.2.2.2]
def Sep (d : Nat) (h h' : Hf) : Prop := ∀ x ∈ cs h, ∀ y ∈ cs h', lv d x y
theorem cs_tr (P : V4) (h : Hf) : cs (tr P h) = (cs h).map (vA P) := rfl
theorem Sep_tr {d : Nat} {P : V4} {h h' : Hf} (s : Sep d h h') : Sep d (tr P h) (tr P h') := by
  intro x hx y hy
  rw [cs_tr, List.mem_map] at hx hy
  obtain ⟨a, ha, rfl⟩ := hx
  obtain ⟨b, hb, rfl⟩ := hy
  exact (lv_tr P a b).mpr (s a ha b hb)
theorem kid_c {h k : Hf} (hk : k ∈ kids h) {c : V4} (hc : c ∈ cs k) : ∃ x ∈ cs h, ∃ y ∈ cs h, c = pt x y := by
  have a : h.2.1 ∈ cs h := by unfold cs; simp
  have b : h.2.2.1 ∈ cs h := by unfold cs; simp
  have e : h.2.2.2 ∈ cs h := by unfold cs; simp
  unfold kids at hk
  split at hk
  · simp only [List.mem_cons, List.not_mem_nil, or_false] at hk
    rcases hk with rfl | rfl <;> simp only [cs, List.mem_cons, List.not_mem_nil, or_false] at hc
    · rcases hc with rfl | rfl | rfl
      · exact ⟨_, e, _, e, rfl⟩
      · exact ⟨_, a, _, b, rfl⟩
      · exact ⟨_, b, _, b, rfl⟩
    · rcases hc with rfl | rfl | rfl
      · exact ⟨_, a, _, b, rfl⟩
      · exact ⟨_, e, _, e, rfl⟩
      · exact ⟨_, a, _, a, rfl⟩
  · simp only [List.mem_cons, List.not_mem_nil, or_false] at hk
    rcases hk with rfl | rfl | rfl <;> simp only [cs, List.mem_cons, List.not_mem_nil, or_false] at hc
    · rcases hc with rfl | rfl | rfl
      · exact ⟨_, b, _, e, rfl⟩
      · exact ⟨_, e, _, e, rfl⟩
      · exact ⟨_, a, _, a, rfl⟩
    · rcases hc with rfl | rfl | rfl
      · exact ⟨_, b, _, a, rfl⟩
      · exact ⟨_, b, _, e, rfl⟩
      · exact ⟨_, b, _, b, rfl⟩
    · rcases hc with rfl | rfl | rfl
      · exact ⟨_, b, _, e, rfl⟩
      · exact ⟨_, b, _, a, rfl⟩
      · exact ⟨_, a, _, a, rfl⟩
theorem Sep_kid {d : Nat} (hd : d < 10) {h h' k k' : Hf} (s : Sep d h h') (hk : k ∈ kids h) (hk' : k' ∈ kids h') : Sep d k k' := by
  intro x hx y hy
  obtain ⟨a, ha, b, hb, rfl⟩ := kid_c hk hx
  obtain ⟨a', ha', b', hb', rfl⟩ := kid_c hk' hy
  exact lv_pt hd (s a ha a' ha') (s b hb b' hb')
theorem fat : ∀ σ, σ < 40 → ∀ d, d < 10 → ∃ x ∈ cs (h0 σ), ∃ y ∈ cs (h0 σ), sgZ (Hp d y - Hp d x) (Hq d y - Hq d x) < 0 := by decide +kernel
theorem no_self {d : Nat} (hd : d < 10) {h : Hf} {σ : Nat} (v : vh h σ) : ¬ Sep d h h := by
  intro s
  obtain ⟨x, hx, y, hy, l⟩ := fat σ v.1 d hd
  rw [v.2] at s
  have := s (vA h.2.1 x) (by rw [cs_tr]; exact List.mem_map_of_mem hx) (vA h.2.1 y) (by rw [cs_tr]; exact List.mem_map_of_mem hy)
  rw [lv_tr] at this
  unfold lv at this
  omega
/-! pieces in common, at some depth -/
def Sh : Nat → Hf → Hf → Prop
  | 0, h, h' => h = h'
  | m + 1, h, h' => ∃ k ∈ kids h, ∃ k' ∈ kids h', Sh m k k'
def Dis (h h' : Hf) : Prop := ∀ m, ¬ Sh m h h'
theorem Sh_sym {m : Nat} {h h' : Hf} (s : Sh m h h') : Sh m h' h := by
  induction m generalizing h h' with
  | zero => exact Eq.symm s
  | succ m ih =>
    obtain ⟨k, hk, k', hk', s⟩ := s
    exact ⟨k', hk', k, hk, ih s⟩
theorem Dis_sym {h h' : Hf} (s : Dis h h') : Dis h' h := fun m w => s m (Sh_sym w)
theorem Dis_kid {h h' k k' : Hf} (s : Dis h h') (hk : k ∈ kids h) (hk' : k' ∈ kids h') : Dis k k' := fun m w => s (m + 1) ⟨k, hk, k', hk', w⟩
theorem sep_dis {d : Nat} (hd : d < 10) {h h' : Hf} {σ τ : Nat} (v : vh h σ) (v' : vh h' τ) (s : Sep d h h') : Dis h h' := by
  intro m
  induction m generalizing h h' σ τ with
  | zero =>
    intro e
    have e : h = h' := e
    subst e
    exact no_self hd v s
  | succ m ih =>
    rintro ⟨k, hk, k', hk', w⟩
    obtain ⟨a, va⟩ := vh_kid v hk
    obtain ⟨b, vb⟩ := vh_kid v' hk'
    exact ih va vb (Sep_kid hd s hk hk') w
/-! siblings lie apart -/
theorem getD_at {l : List Hf} {i : Nat} {x : Hf} (h : i < l.length) : l.getD i x = l[i] := by rw [List.getD_eq_getElem?_getD, List.getElem?_eq_getElem h]; rfl
def sepB (d : Nat) (h h' : Hf) : Bool := (cs h).all (fun x => (cs h').all (fun y => decide (0 ≤ sgZ (Hp d y - Hp d x) (Hq d y - Hq d x))))
theorem sepB_S {d : Nat} {h h' : Hf} (s : sepB d h h' = true) : Sep d h h' := by
  intro x hx y hy
  unfold sepB at s
  rw [List.all_eq_true] at s
  have := s x hx
  rw [List.all_eq_true] at this
  have w := this y hy
  simp only [decide_eq_true_iff] at w
  exact w
theorem sib_all : ∀ σ, σ < 40 → ∀ i, i < 3 → ∀ j, j < 3 → i = j ∨ (kids (h0 σ)).length ≤ i ∨ (kids (h0 σ)).length ≤ j ∨ ∃ d, d < 10 ∧ sepB d ((kids (h0 σ)).getD i (h0 0)) ((kids (h0 σ)).getD j (h0 0)) = true := by decide +kernel
theorem kids_len (h : Hf) : (kids h).length ≤ 3 ∧ 2 ≤ (kids h).length := by unfold kids; split <;> simp
theorem sib {h : Hf} {σ : Nat} (v : vh h σ) {i j : Nat} (hij : i ≠ j) (hi : i < (kids h).length) (hj : j < (kids h).length) : Dis (kids h)[i] (kids h)[j] := by
  have l := kids_len h
  have e : kids h = (kids (h0 σ)).map (tr (pt h.2.1 h.2.1)) := by
    conv => lhs; rw [v.2]
    exact kids_tr _ _
  have hl : (kids h).length = (kids (h0 σ)).length := by rw [e, List.length_map]
  obtain ⟨a, va⟩ := vh_kid v (List.getElem_mem hi)
  obtain ⟨b, vb⟩ := vh_kid v (List.getElem_mem hj)
  rcases sib_all σ v.1 i (by omega) j (by omega) with q | q | q | ⟨d, hd, s⟩
  · exact absurd q hij
  · omega
  · omega
  · refine sep_dis hd va vb ?_
    have s := Sep_tr (P := pt h.2.1 h.2.1) (sepB_S s)
    rw [getD_at (by omega), getD_at (by omega)] at s
    simp only [e, List.getElem_map]
    exact s
