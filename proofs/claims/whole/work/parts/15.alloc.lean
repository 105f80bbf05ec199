/-! MAKING: arrays, objects, constructors; contracts that make cells -/
theorem aI_new (cA : ClassId) (N : Nat) : vp_cell cA (N, .inl (aI (fun _ => 0))) = arrV cA N (fun _ => defaultValue .int) := rfl
theorem aZ_new (cA : ClassId) (N : Nat) : vp_cell cA (N, .inl (aI (fun _ => 0))) = arrV cA N (fun _ => defaultValue .boolean) := rfl
theorem aL_new (cA : ClassId) (N : Nat) : vp_cell cA (N, .inr (.inl (aL (fun _ => 0)))) = arrV cA N (fun _ => defaultValue .long) := rfl
theorem same_cls {D : va_G} {t : vt} {s : State} {cA c1 : ClassId} {ty : FieldType} (hty : ty = .int ∨ ty = .long ∨ ty = .boolean) (h : va_RA s cA ty) (h1 : va_RA s c1 ty) : cA = c1 := by
  rcases hty with rfl | rfl | rfl
  all_goals exact Option.some.inj (Eq.trans (Eq.symm (show s.vm.findClass _ = some cA from h)) (show s.vm.findClass _ = some c1 from h1))
section ZN
variable {p : Program} {l : Launch} {e : Env} {R : Room} {s : State} {m : MethodId} {args : Array Value} {below : List Frame} {meth : Method} {c : Code} {H : Heap} {locs : List Loc} {cells slots : Nat} {Q : State → Prop} {cc : ByteArray} {pc nL : Nat} {ls : Array Slot} {rest : List Value} {own : String} {D : va_G} {t : vt} {ws ws' wc wr : va_W} {A : Nat → Prop} {H0 : Heap} {ts : Nat → Nat} {a : Nat}
theorem z_newI (hC : CallFix p m c cc nL s args tb_ws own) (hK : va_K D classes (TY t) s) (hP : va_P D classes ws H) (hD : va_D A ws) (hS : va_S A H0 H locs) (hA : ∀ q, H0.size ≤ q → A q) {n : Int} (N : Nat) (hN : n = N) (hB : N ≤ 100000) (hcs : cells + 1 ≤ R.cells ∧ slots + N ≤ R.slots) (d : decode cc pc = .ok (.newarray .int, 2)) (kk : ∀ (q : Nat) (H1 : Heap), va_P D classes (ws ++ [(q, eI t.1 N (fun _ => 0))]) H1 → va_D A (ws ++ [(q, eI t.1 N (fun _ => 0))]) → va_S A H0 H1 locs → W p l e R s m args below meth c H1 locs (cells + 1) (slots + N) Q (F0 m (pc + 2) ls (.ref q :: rest))) : W p l e R s m args below meth c H locs cells slots Q (F0 m pc ls (.int (iI n) :: rest)) := by
  subst hN
  refine va_newa (atype := .int) (ty := .int) (a0 := (N, .inl (aI (fun _ => 0)))) hC.1 hC.2.1 (hC.2.2.2.2 _ k_97) rfl hK hP hD hS hA (fun cA => aI_new cA N) (fun q => by rw [← iI_0, iI_lt (by omega) inI_0] at q; omega) (by rw [iI_clamp (by omega)]; omega) (by show N * 4 ≤ _; omega) hcs.1 hcs.2 d (fun q cA H1 hK1 hP1 hD1 hS1 => ?_)
  have e := same_cls (D := D) (t := t) (Or.inl rfl) (hK1.2 3 (cA, .int) rfl).2 (hK.2 0 (t.1, .int) rfl).2
  subst e
  exact kk q H1 hP1 hD1 hS1
theorem z_newL (hC : CallFix p m c cc nL s args tb_ws own) (hK : va_K D classes (TY t) s) (hP : va_P D classes ws H) (hD : va_D A ws) (hS : va_S A H0 H locs) (hA : ∀ q, H0.size ≤ q → A q) {n : Int} (N : Nat) (hN : n = N) (hB : N ≤ 100000) (hcs : cells + 1 ≤ R.cells ∧ slots + N ≤ R.slots) (d : decode cc pc = .ok (.newarray .long, 2)) (kk : ∀ (q : Nat) (H1 : Heap), va_P D classes (ws ++ [(q, eL t.2.1 N (fun _ => 0))]) H1 → va_D A (ws ++ [(q, eL t.2.1 N (fun _ => 0))]) → va_S A H0 H1 locs → W p l e R s m args below meth c H1 locs (cells + 1) (slots + N) Q (F0 m (pc + 2) ls (.ref q :: rest))) : W p l e R s m args below meth c H locs cells slots Q (F0 m pc ls (.int (iI n) :: rest)) := by
  subst hN
  refine va_newa (atype := .long) (ty := .long) (a0 := (N, .inr (.inl (aL (fun _ => 0))))) hC.1 hC.2.1 (hC.2.2.2.2 _ k_34) rfl hK hP hD hS hA (fun cA => aL_new cA N) (fun q => by rw [← iI_0, iI_lt (by omega) inI_0] at q; omega) (by rw [iI_clamp (by omega)]; omega) (by show N * 8 ≤ _; omega) hcs.1 hcs.2 d (fun q cA H1 hK1 hP1 hD1 hS1 => ?_)
  have e := same_cls (D := D) (t := t) (Or.inr (Or.inl rfl)) (hK1.2 3 (cA, .long) rfl).2 (hK.2 1 (t.2.1, .long) rfl).2
  subst e
  exact kk q H1 hP1 hD1 hS1
theorem z_newZ (hC : CallFix p m c cc nL s args tb_ws own) (hK : va_K D classes (TY t) s) (hP : va_P D classes ws H) (hD : va_D A ws) (hS : va_S A H0 H locs) (hA : ∀ q, H0.size ≤ q → A q) {n : Int} (N : Nat) (hN : n = N) (hB : N ≤ 100000) (hcs : cells + 1 ≤ R.cells ∧ slots + N ≤ R.slots) (d : decode cc pc = .ok (.newarray .boolean, 2)) (kk : ∀ (q : Nat) (H1 : Heap), va_P D classes (ws ++ [(q, eI t.2.2 N (fun _ => 0))]) H1 → va_D A (ws ++ [(q, eI t.2.2 N (fun _ => 0))]) → va_S A H0 H1 locs → W p l e R s m args below meth c H1 locs (cells + 1) (slots + N) Q (F0 m (pc + 2) ls (.ref q :: rest))) : W p l e R s m args below meth c H locs cells slots Q (F0 m pc ls (.int (iI n) :: rest)) := by
  subst hN
  refine va_newa (atype := .boolean) (ty := .boolean) (a0 := (N, .inl (aI (fun _ => 0)))) hC.1 hC.2.1 (hC.2.2.2.2 _ k_517) rfl hK hP hD hS hA (fun cA => aZ_new cA N) (fun q => by rw [← iI_0, iI_lt (by omega) inI_0] at q; omega) (by rw [iI_clamp (by omega)]; omega) (by show N * 1 ≤ _; omega) hcs.1 hcs.2 d (fun q cA H1 hK1 hP1 hD1 hS1 => ?_)
  have e := same_cls (D := D) (t := t) (Or.inr (Or.inr rfl)) (hK1.2 3 (cA, .boolean) rfl).2 (hK.2 2 (t.2.2, .boolean) rfl).2
  subst e
  exact kk q H1 hP1 hD1 hS1
theorem z_new (hC : CallFix p m c cc nL s args tb_ws own) {C : String} {T : u_T} {N ci index : Nat} (hin : ∀ w ∈ u_ws C T N, w ∈ tb_ws) (ty : Nat → FieldType) (hty : ∀ k, k < N → parseFieldDescriptor (T k).2.2.1 = some (ty k)) (w1 : Cond.classLink own index C ∈ tb_ws) (w2 : Cond.instantiable C N ∈ tb_ws) (w3 : Cond.initialized C ∈ tb_ws) (hK : va_K D classes (TY t) s) (hP : va_P D classes ws H) (hD : va_D A ws) (hS : va_S A H0 H locs) (hA : ∀ q, H0.size ≤ q → A q) (hc : classes[ci]? = some (C, T, N)) {fs : List Value} (hfs : ∀ j, j < N → defaultValue (ty j) = vp_V fs j) (hcs : cells + 1 ≤ R.cells ∧ slots + N ≤ R.slots) (d : decode cc pc = .ok (.new index, 3)) (kk : ∀ (q : Nat) (H1 : Heap), va_P D classes (ws ++ [(q, .inr (ci, fs))]) H1 → va_D A (ws ++ [(q, .inr (ci, fs))]) → va_S A H0 H1 locs → W p l e R s m args below meth c H1 locs (cells + 1) (slots + N) Q (F0 m (pc + 3) ls (.ref q :: rest))) : W p l e R s m args below meth c H locs cells slots Q (F0 m pc ls rest) :=
  va_new hC.1 hC.2.1 hC.2.2.2.2 hin ty hty hC.2.2.2.1 (hC.2.2.2.2 _ w1) (hC.2.2.2.2 _ w2) (hC.2.2.2.2 _ w3) hK hP hD hS hA hc hfs hcs.1 hcs.2 d kk
theorem z_putF (hC : CallFix p m c cc nL s args tb_ws own) {C : String} {T : u_T} {N ci index : Nat} (hin : ∀ w ∈ u_ws C T N, w ∈ tb_ws) (ty0 : Nat → FieldType) (hty : ∀ k, k < N → parseFieldDescriptor (T k).2.2.1 = some (ty0 k)) (hnm : ∀ a, a < N → ∀ b, b < N → a ≠ b → (T a).2.1 ≠ (T b).2.1) (hK : va_K D classes (TY t) s) (hP : va_P D classes ws H) (hD : va_D A ws) (hS : va_S A H0 H locs) (q0 : Nat) {fs : List Value} (he : ws[q0]? = some (a, .inr (ci, fs))) (hc : classes[ci]? = some (C, T, N)) (k : Nat) (hk : k < N) (hl : Cond.fieldLink own index (T k).1 (T k).2.1 (T k).2.2.1 ∈ tb_ws) (hfin : (T k).2.2.2 = true) (hi : meth.name = "<init>") (hdecl : (T k).1 = own) {v : Value} (hn : narrow (ty0 k) v = v) (hfit : fits (ty0 k) v = true) (hlen : k < fs.length) (hw : ws.set q0 (a, .inr (ci, fs.set k v)) = ws') (d : decode cc pc = .ok (.putfield index, 3)) (kk : ∀ (H1 : Heap) (locs1 : List Loc), va_P D classes ws' H1 → va_D A ws' → va_S A H0 H1 locs1 → W p l e R s m args below meth c H1 locs1 cells slots Q (F0 m (pc + 3) ls rest)) : W p l e R s m args below meth c H locs cells slots Q (F0 m pc ls (v :: .ref a :: rest)) :=
  va_putF hC.1 hC.2.1 hC.2.2.2.2 hin ty0 hty hnm hC.2.2.2.1 hK hP hD hS q0 he hc k hk (hC.2.2.2.2 _ hl) (fun _ h => h) hfin hi hdecl (hty k hk) hn hfit hlen d (fun H1 l1 h1 h2 h3 => kk H1 l1 (by rw [hw] at h1; exact h1) (by rw [hw] at h2; exact h2) h3)
theorem z_oinit (hC : CallFix p m c cc nL s args tb_ws own) {idx : Nat} (w1 : Cond.methodLink own idx objectInit ∈ tb_ws) (hsz : ls.size = nL) (hf : 1 ≤ R.frames) (hr : (rest.map fun v => v.category).sum + 12 ≤ R.locals) (d : decode cc pc = .ok (.invokespecial idx, 3)) (kk : W p l e R s m args below meth c H locs cells slots Q (F0 m (pc + 3) ls rest)) : W p l e R s m args below meth c H locs cells slots Q (F0 m pc ls (.ref a :: rest)) :=
  W.objInit hC.1 hC.2.1 hC.2.2.2.1 (hC.2.2.2.2 _ w1) (hC.2.2.2.2 _ k_19) (hC.2.2.2.2 _ k_20) rfl (by rw [hC.2.2.1]; exact hsz) rfl d hf (by show 2 * 0 + _ + 12 ≤ _; omega) kk
end ZN
section ZEA
variable {l : Launch} {y : MethodName} {cc : ByteArray} {maxL : Nat} {rm : Room} {D : va_G} {t : vt} {ts : Nat → Nat} {av : List Value} {ws : va_W} {mc ms : Nat}
theorem mA_v {S : Type} {wf : S → va_W} {post : S → Prop} {sz : Nat} (hy : plainFor y = true) (hv : (lg_sl av).length ≤ maxL)
    (walk : ∀ (p : Program) (e : Env) (s : State) (m : MethodId) (below : List Frame) (meth : Method) (c : Code) (Q : State → Prop) (A : Nat → Prop) (ls : Array Slot), meth.name = y.name → CallFix p m c cc maxL s av.toArray tb_ws y.cls → (∀ q, s.heap.size ≤ q → A q) → va_P D classes ws s.heap → va_K D classes (TY t) s → va_D A ws → ev ts A s → va_S A s.heap s.heap [] → lv_has ls maxL (lv_args 0 av) →
      (∀ (u : S) (H : Heap) (locs : List Loc) (pc : Nat) (ls : Array Slot), decode cc pc = .ok (.return_, 1) → post u → va_P D classes (wf u) H → va_D A (wf u) → va_S A s.heap H locs → W p l e rm s m av.toArray below meth c H locs mc ms Q (F0 m pc ls [])) → W p l e rm s m av.toArray below meth c s.heap [] 0 0 Q (F0 m 0 ls [])) :
    Met l y (.code y cc maxL none :: tb_ws) rm (MP D t ts av ws sz) (va_Qv post (MB D (va_A ws sz) wf) (va_A ws sz)) mc ms (va_A ws sz) := by
  refine va_MetF (cc := cc) (maxL := maxL) (ret := none) hy rfl ?_
  intro p e s m args below meth c s₁ B hml hv2
  obtain ⟨rfl, rfl, hP, hK, hD, hE⟩ := hv2
  have hlocks := B.notSynchronized
  have hts := atoms_spec (ws := .code y cc maxL none :: tb_ws) B.pre
  rw [lg_entry_eq]
  exact walk p e s m below meth c _ _ _ (name_of_methodNamed B.named B.method).1 ⟨B.exec, B.bytes, hml, findClass_of_methodNamed B.named, fun w h => hts w (List.mem_cons_of_mem _ h)⟩ (fun q h => Or.inr h) hP hK hD.self hE va_S.rf (lv_entry av hv)
    (fun u H locs pc ls d hp hP1 hD1 hS => W.vret B.exec B.bytes B.returns (fun t ht _ => ⟨⟨u, rfl, hp, by rw [ht]; exact hP1, hD1⟩, hS.F ht⟩) hS.2.2 d)
theorem mA_i {S : Type} {wf : S → va_W} {post : S → Prop} {val : S → Int} {sz : Nat} (hy : plainFor y = true) (hv : (lg_sl av).length ≤ maxL)
    (walk : ∀ (p : Program) (e : Env) (s : State) (m : MethodId) (below : List Frame) (meth : Method) (c : Code) (Q : State → Prop) (A : Nat → Prop) (ls : Array Slot), meth.name = y.name → CallFix p m c cc maxL s av.toArray tb_ws y.cls → (∀ q, s.heap.size ≤ q → A q) → va_P D classes ws s.heap → va_K D classes (TY t) s → va_D A ws → ev ts A s → va_S A s.heap s.heap [] → lv_has ls maxL (lv_args 0 av) →
      (∀ (u : S) (H : Heap) (locs : List Loc) (pc : Nat) (ls : Array Slot), decode cc pc = .ok (.ireturn, 1) → post u → va_P D classes (wf u) H → va_D A (wf u) → va_S A s.heap H locs → W p l e rm s m av.toArray below meth c H locs mc ms Q (F0 m pc ls [.int (iI (val u))])) → W p l e rm s m av.toArray below meth c s.heap [] 0 0 Q (F0 m 0 ls [])) :
    Met l y (.code y cc maxL (some .int) :: tb_ws) rm (MP D t ts av ws sz) (va_Qi (fun r u => r = iI (val u) ∧ post u) (MB D (va_A ws sz) wf) (va_A ws sz)) mc ms (va_A ws sz) := by
  refine va_MetF (cc := cc) (maxL := maxL) (ret := some .int) hy rfl ?_
  intro p e s m args below meth c s₁ B hml hv2
  obtain ⟨rfl, rfl, hP, hK, hD, hE⟩ := hv2
  have hlocks := B.notSynchronized
  have hts := atoms_spec (ws := .code y cc maxL (some .int) :: tb_ws) B.pre
  rw [lg_entry_eq]
  exact walk p e s m below meth c _ _ _ (name_of_methodNamed B.named B.method).1 ⟨B.exec, B.bytes, hml, findClass_of_methodNamed B.named, fun w h => hts w (List.mem_cons_of_mem _ h)⟩ (fun q h => Or.inr h) hP hK hD.self hE va_S.rf (lv_entry av hv)
    (fun u H locs pc ls d hp hP1 hD1 hS => W.iret B.exec B.bytes B.returns (fun t ht _ => ⟨⟨_, u, rfl, ⟨rfl, hp⟩, by rw [ht]; exact hP1, hD1⟩, hS.F ht⟩) hS.2.2 d)
def MBr {S : Type} (D : va_G) (A : Nat → Prop) (wf : S → Nat → va_W) : S → Nat → State → Prop := fun u a U => va_P D classes (wf u a) U.heap ∧ va_D A (wf u a)
theorem mA_r {S : Type} {wf : S → Nat → va_W} {post : S → Prop} {sz : Nat} {rc : String} (hy : plainFor y = true) (hv : (lg_sl av).length ≤ maxL)
    (walk : ∀ (p : Program) (e : Env) (s : State) (m : MethodId) (below : List Frame) (meth : Method) (c : Code) (Q : State → Prop) (A : Nat → Prop) (ls : Array Slot), meth.name = y.name → CallFix p m c cc maxL s av.toArray tb_ws y.cls → (∀ q, s.heap.size ≤ q → A q) → va_P D classes ws s.heap → va_K D classes (TY t) s → va_D A ws → ev ts A s → va_S A s.heap s.heap [] → lv_has ls maxL (lv_args 0 av) →
      (∀ (u : S) (a : Nat) (H : Heap) (locs : List Loc) (pc : Nat) (ls : Array Slot), decode cc pc = .ok (.areturn, 1) → post u → va_P D classes (wf u a) H → va_D A (wf u a) → va_S A s.heap H locs → W p l e rm s m av.toArray below meth c H locs mc ms Q (F0 m pc ls [.ref a])) → W p l e rm s m av.toArray below meth c s.heap [] 0 0 Q (F0 m 0 ls [])) :
    Met l y (.code y cc maxL (some (.object rc)) :: tb_ws) rm (MP D t ts av ws sz) (va_Qr post (MBr D (va_A ws sz) wf) (va_A ws sz)) mc ms (va_A ws sz) := by
  refine va_MetF (cc := cc) (maxL := maxL) (ret := some (.object rc)) hy rfl ?_
  intro p e s m args below meth c s₁ B hml hv2
  obtain ⟨rfl, rfl, hP, hK, hD, hE⟩ := hv2
  have hlocks := B.notSynchronized
  have hts := atoms_spec (ws := .code y cc maxL (some (.object rc)) :: tb_ws) B.pre
  rw [lg_entry_eq]
  exact walk p e s m below meth c _ _ _ (name_of_methodNamed B.named B.method).1 ⟨B.exec, B.bytes, hml, findClass_of_methodNamed B.named, fun w h => hts w (List.mem_cons_of_mem _ h)⟩ (fun q h => Or.inr h) hP hK hD.self hE va_S.rf (lv_entry av hv)
    (fun u a H locs pc ls d hp hP1 hD1 hS => W.aret B.exec B.bytes B.returns (Or.inl ⟨_, rfl⟩) (Or.inr ⟨_, rfl⟩) (fun t ht _ => ⟨⟨u, a, rfl, hp, by rw [ht]; exact hP1, hD1⟩, hS.F ht⟩) hS.2.2 d)
end ZEA
section ZCA
variable {p : Program} {l : Launch} {e : Env} {R : Room} {s : State} {m : MethodId} {args : Array Value} {below : List Frame} {meth : Method} {c : Code} {H : Heap} {locs : List Loc} {cells slots : Nat} {Q : State → Prop} {cc : ByteArray} {pc nL : Nat} {ls : Array Slot} {rest : List Value} {own : String} {D : va_G} {t : vt} {ws wc wr : va_W} {A : Nat → Prop} {ts : Nat → Nat}
variable {y : MethodName} {bytes : ByteArray} {maxL n index mc ms : Nat} {ret : Option FieldType} {rm : Room} {As st : List Value} {C : String} {b : Nat}
theorem z_cI {S : Type} {wf : S → va_W} {post : S → Prop} (hC : CallFix p m c cc nL s args tb_ws own) (hM : Met l y (.code y bytes maxL none :: tb_ws) rm (MP D t ts (.ref b :: As) wc H.size) (va_Qv post (MB D (va_A wc H.size) wf) (va_A wc H.size)) mc ms (va_A wc H.size))
    (cw : CallB R s args own index y bytes maxL none (Cond.code y bytes maxL none :: tb_ws) rm mc ms n ∧ y.name = "<init>" ∧ (Cond.instanceMethod y).before args s = true) (hP : va_P D classes ws H) (hD : va_D A ws) (hK : va_K D classes (TY t) s) (hE : ev ts A s) (hS : va_S A s.heap H locs) (hA : ∀ q, s.heap.size ≤ q → A q) (isC isR : List Nat) (hnc : va_nd isC = true) (hsub : isC.map (fun i => ws[i]?) = wc.map some) (hR : isR.map (fun i => ws[i]?) = wr.map some) (hnr : va_nd isR = true) (hdis : ∀ i ∈ isR, i ∉ isC)
    (hn : As.length = n) (hsz : ls.size = nL) (hst : st = As.reverse ++ .ref b :: rest) (hr : (rest.map fun v => v.category).sum ≤ 8) (hcs : cells + mc ≤ R.cells ∧ slots + ms ≤ R.slots) (d : decode cc pc = .ok (.invokespecial index, 3))
    (k : ∀ (u : S) (H1 : Heap) (locs1 : List Loc), post u → va_P D classes (wr ++ wf u) H1 → va_D A (wr ++ wf u) → va_S A s.heap H1 locs1 → W p l e R s m args below meth c H1 locs1 (cells + mc) (slots + ms) Q (F0 m (pc + 3) ls rest)) : W p l e R s m args below meth c H locs cells slots Q (F0 m pc ls st) := by
  have hpre := MP.pre (av := .ref b :: As) hP hD hK hE hS hA isC hnc hsub
  have hF := va_free hD hS hA isC hsub
  refine va_callv (va_runI hC hM cw hpre rfl hn hsz hst (lv_room hr) d hcs) hS (fun q _ h => hF q h) hF (fun u T H1 locs1 hT _ hp hB _ hk hS1 => ?_)
  have hB1 := hB.1
  rw [hT] at hB1
  have hj := va_join hP hD isC isR hsub hR hnr hdis hk hF hB1 hB.2
  exact k u H1 locs1 hp hj.1 hj.2 hS1
theorem z_cIN {S : Type} {host : String} {wf : S → va_W} {post : S → Prop} (hC : CallFix p m c cc nL s args tb_ws own) (hM : Met l y (.code y bytes maxL none :: tb_ws) rm (MP D t ts (.ref b :: As) wc H.size) (va_Qv post (MB D (va_A wc H.size) wf) (va_A wc H.size)) mc ms (va_A wc H.size))
    (cw : va_CN R s args own index y host bytes maxL none (Cond.code y bytes maxL none :: tb_ws) rm mc ms n ∧ y.name = "<init>" ∧ (Cond.instanceMethod y).before args s = true) (hP : va_P D classes ws H) (hD : va_D A ws) (hK : va_K D classes (TY t) s) (hE : ev ts A s) (hS : va_S A s.heap H locs) (hA : ∀ q, s.heap.size ≤ q → A q) (isC isR : List Nat) (hnc : va_nd isC = true) (hsub : isC.map (fun i => ws[i]?) = wc.map some) (hR : isR.map (fun i => ws[i]?) = wr.map some) (hnr : va_nd isR = true) (hdis : ∀ i ∈ isR, i ∉ isC)
    (hn : As.length = n) (hsz : ls.size = nL) (hst : st = As.reverse ++ .ref b :: rest) (hr : (rest.map fun v => v.category).sum ≤ 8) (hcs : cells + mc ≤ R.cells ∧ slots + ms ≤ R.slots) (d : decode cc pc = .ok (.invokespecial index, 3))
    (k : ∀ (u : S) (H1 : Heap) (locs1 : List Loc), post u → va_P D classes (wr ++ wf u) H1 → va_D A (wr ++ wf u) → va_S A s.heap H1 locs1 → W p l e R s m args below meth c H1 locs1 (cells + mc) (slots + ms) Q (F0 m (pc + 3) ls rest)) : W p l e R s m args below meth c H locs cells slots Q (F0 m pc ls st) := by
  have hpre := MP.pre (av := .ref b :: As) hP hD hK hE hS hA isC hnc hsub
  have hF := va_free hD hS hA isC hsub
  refine va_callv (va_runIN hC hM cw hpre rfl hn hsz hst (lv_room hr) d hcs) hS (fun q _ h => hF q h) hF (fun u T H1 locs1 hT _ hp hB _ hk hS1 => ?_)
  have hB1 := hB.1
  rw [hT] at hB1
  have hj := va_join hP hD isC isR hsub hR hnr hdis hk hF hB1 hB.2
  exact k u H1 locs1 hp hj.1 hj.2 hS1
theorem cw_I (hC : CallFix p m c cc nL s args tb_ws own) (w1 : Cond.methodLink own index y ∈ tb_ws) (w2 : Cond.instanceMethod y ∈ tb_ws) (w4 : Cond.initialized C ∈ tb_ws) (w5 : Cond.code y bytes maxL none ∈ tb_ws) (hy : ye y C n) (hy1 : y.name = "<init>") (hR : rm.frames + 1 ≤ R.frames ∧ 8 + (maxL + 11) + rm.locals ≤ R.locals) : CallB R s args own index y bytes maxL none (Cond.code y bytes maxL none :: tb_ws) rm rm.cells rm.slots n ∧ y.name = "<init>" ∧ (Cond.instanceMethod y).before args s = true :=
  ⟨callB_of n hC.2.2.2.2 (gd_b w5) rfl rfl rfl (hC.2.2.2.2 _ (by rw [hy.1]; exact w4)) (hC.2.2.2.2 _ w1) hy.2 hR, hy1, hC.2.2.2.2 _ w2⟩
theorem cw_IN {host : String} (hC : CallFix p m c cc nL s args tb_ws own) (w1 : va_Nw (Cond.methodLinkNest own index y host) s) (w2 : Cond.instanceMethod y ∈ tb_ws) (w4 : Cond.initialized C ∈ tb_ws) (w5 : Cond.code y bytes maxL none ∈ tb_ws) (hy : ye y C n) (hy1 : y.name = "<init>") (hR : rm.frames + 1 ≤ R.frames ∧ 8 + (maxL + 11) + rm.locals ≤ R.locals) : va_CN R s args own index y host bytes maxL none (Cond.code y bytes maxL none :: tb_ws) rm rm.cells rm.slots n ∧ y.name = "<init>" ∧ (Cond.instanceMethod y).before args s = true :=
  ⟨va_cnB n hC.2.2.2.2 (gd_b w5) rfl rfl rfl w1 (hC.2.2.2.2 _ (by rw [hy.1]; exact w4)) hy.2 hR, hy1, hC.2.2.2.2 _ w2⟩
theorem z_aVi {S : Type} {wf : S → va_W} {post : S → Prop} {val : S → Int} (hC : CallFix p m c cc nL s args tb_ws own) (hM : Met l y (.code y bytes maxL ret :: tb_ws) rm (MP D t ts (.ref b :: As) wc H.size) (va_Qi (fun r u => r = iI (val u) ∧ post u) (MB D (va_A wc H.size) wf) (va_A wc H.size)) mc ms (va_A wc H.size))
    (cw : CallW R s args own C index y bytes maxL ret (Cond.code y bytes maxL ret :: tb_ws) rm mc ms n) (hP : va_P D classes ws H) (hD : va_D A ws) (hK : va_K D classes (TY t) s) (hE : ev ts A s) (hS : va_S A s.heap H locs) (hA : ∀ q, s.heap.size ≤ q → A q) (isC isR : List Nat) (hnc : va_nd isC = true) (hsub : isC.map (fun i => ws[i]?) = wc.map some) (hR : isR.map (fun i => ws[i]?) = wr.map some) (hnr : va_nd isR = true) (hdis : ∀ i ∈ isR, i ∉ isC)
    (q0 : Nat) {ci : Nat} {fs : List Value} {q : vw_C} (he : ws[q0]? = some (b, .inr (ci, fs))) (hc : classes[ci]? = some q) (hq : q.1 = C) (hn : As.length = n) (hsz : ls.size = nL) (hst : st = As.reverse ++ .ref b :: rest) (hr : (rest.map fun v => v.category).sum ≤ 8) (hcs : cells + mc ≤ R.cells ∧ slots + ms ≤ R.slots) (d : decode cc pc = .ok (.invokevirtual index, 3))
    (k : ∀ (u : S) (H1 : Heap) (locs1 : List Loc), post u → va_P D classes (wr ++ wf u) H1 → va_D A (wr ++ wf u) → va_S A s.heap H1 locs1 → W p l e R s m args below meth c H1 locs1 (cells + mc) (slots + ms) Q (F0 m (pc + 3) ls (.int (iI (val u)) :: rest))) : W p l e R s m args below meth c H locs cells slots Q (F0 m pc ls st) := by
  have hpre := MP.pre (av := .ref b :: As) hP hD hK hE hS hA isC hnc hsub
  have hF := va_free hD hS hA isC hsub
  refine va_calli (va_runV hC hM cw ⟨hpre.1, ?_, hpre.2⟩ rfl hn hsz hst (lv_room hr) d hcs) hS (fun q _ h => hF q h) hF (fun r u T H1 locs1 hT _ hp hB _ hk hS1 => ?_)
  · have h := va_recv hK hP hc he
    rw [hq] at h; exact h
  · obtain ⟨hr2, hp⟩ := hp
    have hB1 := hB.1
    rw [hT] at hB1
    have hj := va_join hP hD isC isR hsub hR hnr hdis hk hF hB1 hB.2
    rw [hr2]
    exact k u H1 locs1 hp hj.1 hj.2 hS1
theorem z_aVr {S : Type} {wf : S → Nat → va_W} {post : S → Prop} (hC : CallFix p m c cc nL s args tb_ws own) (hM : Met l y (.code y bytes maxL ret :: tb_ws) rm (MP D t ts (.ref b :: As) wc H.size) (va_Qr post (MBr D (va_A wc H.size) wf) (va_A wc H.size)) mc ms (va_A wc H.size))
    (cw : CallW R s args own C index y bytes maxL ret (Cond.code y bytes maxL ret :: tb_ws) rm mc ms n) (hP : va_P D classes ws H) (hD : va_D A ws) (hK : va_K D classes (TY t) s) (hE : ev ts A s) (hS : va_S A s.heap H locs) (hA : ∀ q, s.heap.size ≤ q → A q) (isC isR : List Nat) (hnc : va_nd isC = true) (hsub : isC.map (fun i => ws[i]?) = wc.map some) (hR : isR.map (fun i => ws[i]?) = wr.map some) (hnr : va_nd isR = true) (hdis : ∀ i ∈ isR, i ∉ isC)
    (q0 : Nat) {ci : Nat} {fs : List Value} {q : vw_C} (he : ws[q0]? = some (b, .inr (ci, fs))) (hc : classes[ci]? = some q) (hq : q.1 = C) (hn : As.length = n) (hsz : ls.size = nL) (hst : st = As.reverse ++ .ref b :: rest) (hr : (rest.map fun v => v.category).sum ≤ 8) (hcs : cells + mc ≤ R.cells ∧ slots + ms ≤ R.slots) (d : decode cc pc = .ok (.invokevirtual index, 3))
    (k : ∀ (u : S) (a : Nat) (H1 : Heap) (locs1 : List Loc), post u → va_P D classes (wr ++ wf u a) H1 → va_D A (wr ++ wf u a) → va_S A s.heap H1 locs1 → W p l e R s m args below meth c H1 locs1 (cells + mc) (slots + ms) Q (F0 m (pc + 3) ls (.ref a :: rest))) : W p l e R s m args below meth c H locs cells slots Q (F0 m pc ls st) := by
  have hpre := MP.pre (av := .ref b :: As) hP hD hK hE hS hA isC hnc hsub
  have hF := va_free hD hS hA isC hsub
  refine va_callr (va_runV hC hM cw ⟨hpre.1, ?_, hpre.2⟩ rfl hn hsz hst (lv_room hr) d hcs) hS (fun q _ h => hF q h) hF (fun u ra T H1 locs1 hT _ hp hB _ hk hS1 => ?_)
  · have h := va_recv hK hP hc he
    rw [hq] at h; exact h
  · have hB1 := hB.1
    rw [hT] at hB1
    have hj := va_join hP hD isC isR hsub hR hnr hdis hk hF hB1 hB.2
    exact k u ra H1 locs1 hp hj.1 hj.2 hS1
end ZCA
