/-! ENTRIES AND CALLS of the two kinds of contracts -/
section ZE
variable {l : Launch} {y : MethodName} {cc : ByteArray} {maxL : Nat} {rm : Room} {D : va_G} {t : vt} {ts : Nat → Nat} {av : List Value} {ws : va_W}
/-- a reader that answers an int -/
theorem ro_i {val : Int} (hy : plainFor y = true) (hv : (lg_sl av).length ≤ maxL)
    (walk : ∀ (p : Program) (e : Env) (s : State) (m : MethodId) (below : List Frame) (meth : Method) (c : Code) (Q : State → Prop) (ls : Array Slot), CallFix p m c cc maxL s av.toArray tb_ws y.cls → va_P D classes ws s.heap → va_K D classes (TY t) s → ev ts (fun _ => False) s → lv_has ls maxL (lv_args 0 av) →
      (∀ (pc : Nat) (ls : Array Slot), decode cc pc = .ok (.ireturn, 1) → W p l e rm s m av.toArray below meth c s.heap [] 0 0 Q (F0 m pc ls [.int (iI val)])) → W p l e rm s m av.toArray below meth c s.heap [] 0 0 Q (F0 m 0 ls [])) :
    Met l y (.code y cc maxL (some .int) :: tb_ws) rm (RoP D t ts av ws) (vp_Si (fun r => r = iI val)) 0 0 (fun _ => False) := by
  refine va_MetF (cc := cc) (maxL := maxL) (ret := some .int) hy rfl ?_
  intro p e s m args below meth c s₁ B hml hv2
  obtain ⟨rfl, hP, hK, hE⟩ := hv2
  have hlocks := B.notSynchronized
  have hts := atoms_spec (ws := .code y cc maxL (some .int) :: tb_ws) B.pre
  rw [lg_entry_eq]
  exact walk p e s m below meth c _ _ ⟨B.exec, B.bytes, hml, findClass_of_methodNamed B.named, fun w h => hts w (List.mem_cons_of_mem _ h)⟩ hP hK hE (lv_entry av hv)
    (fun pc ls d => W.iret B.exec B.bytes B.returns (fun t ht _ => ⟨_, rfl, rfl, ht⟩) (fun q h => by simp at h) d)
theorem ro_z {val : Bool} (hy : plainFor y = true) (hv : (lg_sl av).length ≤ maxL)
    (walk : ∀ (p : Program) (e : Env) (s : State) (m : MethodId) (below : List Frame) (meth : Method) (c : Code) (Q : State → Prop) (ls : Array Slot), CallFix p m c cc maxL s av.toArray tb_ws y.cls → va_P D classes ws s.heap → va_K D classes (TY t) s → ev ts (fun _ => False) s → lv_has ls maxL (lv_args 0 av) →
      (∀ (pc : Nat) (ls : Array Slot), decode cc pc = .ok (.ireturn, 1) → W p l e rm s m av.toArray below meth c s.heap [] 0 0 Q (F0 m pc ls [.int (iI (zB val))])) → W p l e rm s m av.toArray below meth c s.heap [] 0 0 Q (F0 m 0 ls [])) :
    Met l y (.code y cc maxL (some .boolean) :: tb_ws) rm (RoP D t ts av ws) (vp_Si (fun r => r = iI (zB val))) 0 0 (fun _ => False) := by
  refine va_MetF (cc := cc) (maxL := maxL) (ret := some .boolean) hy rfl ?_
  intro p e s m args below meth c s₁ B hml hv2
  obtain ⟨rfl, hP, hK, hE⟩ := hv2
  have hlocks := B.notSynchronized
  have hts := atoms_spec (ws := .code y cc maxL (some .boolean) :: tb_ws) B.pre
  rw [lg_entry_eq]
  exact walk p e s m below meth c _ _ ⟨B.exec, B.bytes, hml, findClass_of_methodNamed B.named, fun w h => hts w (List.mem_cons_of_mem _ h)⟩ hP hK hE (lv_entry av hv)
    (fun pc ls d => W.zret B.exec B.bytes B.returns (by cases val <;> decide) (fun t ht _ => ⟨_, rfl, rfl, ht⟩) (fun q h => by simp at h) d)
theorem ro_l {val : Int} (hy : plainFor y = true) (hv : (lg_sl av).length ≤ maxL)
    (walk : ∀ (p : Program) (e : Env) (s : State) (m : MethodId) (below : List Frame) (meth : Method) (c : Code) (Q : State → Prop) (ls : Array Slot), CallFix p m c cc maxL s av.toArray tb_ws y.cls → va_P D classes ws s.heap → va_K D classes (TY t) s → ev ts (fun _ => False) s → lv_has ls maxL (lv_args 0 av) →
      (∀ (pc : Nat) (ls : Array Slot), decode cc pc = .ok (.lreturn, 1) → W p l e rm s m av.toArray below meth c s.heap [] 0 0 Q (F0 m pc ls [.long (lI val)])) → W p l e rm s m av.toArray below meth c s.heap [] 0 0 Q (F0 m 0 ls [])) :
    Met l y (.code y cc maxL (some .long) :: tb_ws) rm (RoP D t ts av ws) (vp_Sl (fun r => r = lI val)) 0 0 (fun _ => False) := by
  refine va_MetF (cc := cc) (maxL := maxL) (ret := some .long) hy rfl ?_
  intro p e s m args below meth c s₁ B hml hv2
  obtain ⟨rfl, hP, hK, hE⟩ := hv2
  have hlocks := B.notSynchronized
  have hts := atoms_spec (ws := .code y cc maxL (some .long) :: tb_ws) B.pre
  rw [lg_entry_eq]
  exact walk p e s m below meth c _ _ ⟨B.exec, B.bytes, hml, findClass_of_methodNamed B.named, fun w h => hts w (List.mem_cons_of_mem _ h)⟩ hP hK hE (lv_entry av hv)
    (fun pc ls d => W.lret B.exec B.bytes B.returns (fun t ht _ => ⟨_, rfl, rfl, ht⟩) (fun q h => by simp at h) d)
/-- writers -/
theorem m_v {S : Type} {wf : S → va_W} {post : S → Prop} {sz : Nat} (hy : plainFor y = true) (hv : (lg_sl av).length ≤ maxL)
    (walk : ∀ (p : Program) (e : Env) (s : State) (m : MethodId) (below : List Frame) (meth : Method) (c : Code) (Q : State → Prop) (A : Nat → Prop) (ls : Array Slot), CallFix p m c cc maxL s av.toArray tb_ws y.cls → (∀ q, s.heap.size ≤ q → A q) → va_P D classes ws s.heap → va_K D classes (TY t) s → va_D A ws → ev ts A s → va_S A s.heap s.heap [] → lv_has ls maxL (lv_args 0 av) →
      (∀ (u : S) (H : Heap) (locs : List Loc) (pc : Nat) (ls : Array Slot), decode cc pc = .ok (.return_, 1) → post u → va_P D classes (wf u) H → va_D A (wf u) → va_S A s.heap H locs → W p l e rm s m av.toArray below meth c H locs 0 0 Q (F0 m pc ls [])) → W p l e rm s m av.toArray below meth c s.heap [] 0 0 Q (F0 m 0 ls [])) :
    Met l y (.code y cc maxL none :: tb_ws) rm (MP D t ts av ws sz) (va_Qv post (MB D (va_A ws sz) wf) (va_A ws sz)) 0 0 (va_A ws sz) := by
  refine va_MetF (cc := cc) (maxL := maxL) (ret := none) hy rfl ?_
  intro p e s m args below meth c s₁ B hml hv2
  obtain ⟨rfl, rfl, hP, hK, hD, hE⟩ := hv2
  have hlocks := B.notSynchronized
  have hts := atoms_spec (ws := .code y cc maxL none :: tb_ws) B.pre
  rw [lg_entry_eq]
  exact walk p e s m below meth c _ _ _ ⟨B.exec, B.bytes, hml, findClass_of_methodNamed B.named, fun w h => hts w (List.mem_cons_of_mem _ h)⟩ (fun q h => Or.inr h) hP hK hD.self hE va_S.rf (lv_entry av hv)
    (fun u H locs pc ls d hp hP1 hD1 hS => W.vret B.exec B.bytes B.returns (fun t ht _ => ⟨⟨u, rfl, hp, by rw [ht]; exact hP1, hD1⟩, hS.F ht⟩) hS.2.2 d)
theorem m_i {S : Type} {wf : S → va_W} {post : S → Prop} {val : S → Int} {sz : Nat} (hy : plainFor y = true) (hv : (lg_sl av).length ≤ maxL)
    (walk : ∀ (p : Program) (e : Env) (s : State) (m : MethodId) (below : List Frame) (meth : Method) (c : Code) (Q : State → Prop) (A : Nat → Prop) (ls : Array Slot), CallFix p m c cc maxL s av.toArray tb_ws y.cls → (∀ q, s.heap.size ≤ q → A q) → va_P D classes ws s.heap → va_K D classes (TY t) s → va_D A ws → ev ts A s → va_S A s.heap s.heap [] → lv_has ls maxL (lv_args 0 av) →
      (∀ (u : S) (H : Heap) (locs : List Loc) (pc : Nat) (ls : Array Slot), decode cc pc = .ok (.ireturn, 1) → post u → va_P D classes (wf u) H → va_D A (wf u) → va_S A s.heap H locs → W p l e rm s m av.toArray below meth c H locs 0 0 Q (F0 m pc ls [.int (iI (val u))])) → W p l e rm s m av.toArray below meth c s.heap [] 0 0 Q (F0 m 0 ls [])) :
    Met l y (.code y cc maxL (some .int) :: tb_ws) rm (MP D t ts av ws sz) (va_Qi (fun r u => r = iI (val u) ∧ post u) (MB D (va_A ws sz) wf) (va_A ws sz)) 0 0 (va_A ws sz) := by
  refine va_MetF (cc := cc) (maxL := maxL) (ret := some .int) hy rfl ?_
  intro p e s m args below meth c s₁ B hml hv2
  obtain ⟨rfl, rfl, hP, hK, hD, hE⟩ := hv2
  have hlocks := B.notSynchronized
  have hts := atoms_spec (ws := .code y cc maxL (some .int) :: tb_ws) B.pre
  rw [lg_entry_eq]
  exact walk p e s m below meth c _ _ _ ⟨B.exec, B.bytes, hml, findClass_of_methodNamed B.named, fun w h => hts w (List.mem_cons_of_mem _ h)⟩ (fun q h => Or.inr h) hP hK hD.self hE va_S.rf (lv_entry av hv)
    (fun u H locs pc ls d hp hP1 hD1 hS => W.iret B.exec B.bytes B.returns (fun t ht _ => ⟨⟨_, u, rfl, ⟨rfl, hp⟩, by rw [ht]; exact hP1, hD1⟩, hS.F ht⟩) hS.2.2 d)
theorem m_z {S : Type} {wf : S → va_W} {post : S → Prop} {val : S → Bool} {sz : Nat} (hy : plainFor y = true) (hv : (lg_sl av).length ≤ maxL)
    (walk : ∀ (p : Program) (e : Env) (s : State) (m : MethodId) (below : List Frame) (meth : Method) (c : Code) (Q : State → Prop) (A : Nat → Prop) (ls : Array Slot), CallFix p m c cc maxL s av.toArray tb_ws y.cls → (∀ q, s.heap.size ≤ q → A q) → va_P D classes ws s.heap → va_K D classes (TY t) s → va_D A ws → ev ts A s → va_S A s.heap s.heap [] → lv_has ls maxL (lv_args 0 av) →
      (∀ (u : S) (H : Heap) (locs : List Loc) (pc : Nat) (ls : Array Slot), decode cc pc = .ok (.ireturn, 1) → post u → va_P D classes (wf u) H → va_D A (wf u) → va_S A s.heap H locs → W p l e rm s m av.toArray below meth c H locs 0 0 Q (F0 m pc ls [.int (iI (zB (val u)))])) → W p l e rm s m av.toArray below meth c s.heap [] 0 0 Q (F0 m 0 ls [])) :
    Met l y (.code y cc maxL (some .boolean) :: tb_ws) rm (MP D t ts av ws sz) (va_Qi (fun r u => r = iI (zB (val u)) ∧ post u) (MB D (va_A ws sz) wf) (va_A ws sz)) 0 0 (va_A ws sz) := by
  refine va_MetF (cc := cc) (maxL := maxL) (ret := some .boolean) hy rfl ?_
  intro p e s m args below meth c s₁ B hml hv2
  obtain ⟨rfl, rfl, hP, hK, hD, hE⟩ := hv2
  have hlocks := B.notSynchronized
  have hts := atoms_spec (ws := .code y cc maxL (some .boolean) :: tb_ws) B.pre
  rw [lg_entry_eq]
  exact walk p e s m below meth c _ _ _ ⟨B.exec, B.bytes, hml, findClass_of_methodNamed B.named, fun w h => hts w (List.mem_cons_of_mem _ h)⟩ (fun q h => Or.inr h) hP hK hD.self hE va_S.rf (lv_entry av hv)
    (fun u H locs pc ls d hp hP1 hD1 hS => W.zret B.exec B.bytes B.returns (by cases val u <;> decide) (fun t ht _ => ⟨⟨_, u, rfl, ⟨rfl, hp⟩, by rw [ht]; exact hP1, hD1⟩, hS.F ht⟩) hS.2.2 d)
theorem m_l {S : Type} {wf : S → va_W} {post : S → Prop} {val : S → Int} {sz : Nat} (hy : plainFor y = true) (hv : (lg_sl av).length ≤ maxL)
    (walk : ∀ (p : Program) (e : Env) (s : State) (m : MethodId) (below : List Frame) (meth : Method) (c : Code) (Q : State → Prop) (A : Nat → Prop) (ls : Array Slot), CallFix p m c cc maxL s av.toArray tb_ws y.cls → (∀ q, s.heap.size ≤ q → A q) → va_P D classes ws s.heap → va_K D classes (TY t) s → va_D A ws → ev ts A s → va_S A s.heap s.heap [] → lv_has ls maxL (lv_args 0 av) →
      (∀ (u : S) (H : Heap) (locs : List Loc) (pc : Nat) (ls : Array Slot), decode cc pc = .ok (.lreturn, 1) → post u → va_P D classes (wf u) H → va_D A (wf u) → va_S A s.heap H locs → W p l e rm s m av.toArray below meth c H locs 0 0 Q (F0 m pc ls [.long (lI (val u))])) → W p l e rm s m av.toArray below meth c s.heap [] 0 0 Q (F0 m 0 ls [])) :
    Met l y (.code y cc maxL (some .long) :: tb_ws) rm (MP D t ts av ws sz) (va_Ql (fun r u => r = lI (val u) ∧ post u) (MB D (va_A ws sz) wf) (va_A ws sz)) 0 0 (va_A ws sz) := by
  refine va_MetF (cc := cc) (maxL := maxL) (ret := some .long) hy rfl ?_
  intro p e s m args below meth c s₁ B hml hv2
  obtain ⟨rfl, rfl, hP, hK, hD, hE⟩ := hv2
  have hlocks := B.notSynchronized
  have hts := atoms_spec (ws := .code y cc maxL (some .long) :: tb_ws) B.pre
  rw [lg_entry_eq]
  exact walk p e s m below meth c _ _ _ ⟨B.exec, B.bytes, hml, findClass_of_methodNamed B.named, fun w h => hts w (List.mem_cons_of_mem _ h)⟩ (fun q h => Or.inr h) hP hK hD.self hE va_S.rf (lv_entry av hv)
    (fun u H locs pc ls d hp hP1 hD1 hS => W.lret B.exec B.bytes B.returns (fun t ht _ => ⟨⟨_, u, rfl, ⟨rfl, hp⟩, by rw [ht]; exact hP1, hD1⟩, hS.F ht⟩) hS.2.2 d)
end ZE
section ZC
variable {p : Program} {l : Launch} {e : Env} {R : Room} {s : State} {m : MethodId} {args : Array Value} {below : List Frame} {meth : Method} {c : Code} {H : Heap} {locs : List Loc} {cells slots : Nat} {Q : State → Prop} {cc : ByteArray} {pc nL : Nat} {ls : Array Slot} {rest : List Value} {own : String} {D : va_G} {t : vt} {ws wc wr : va_W} {A : Nat → Prop} {ts : Nat → Nat}
variable {y : MethodName} {bytes : ByteArray} {maxL n index : Nat} {ret : Option FieldType} {rm : Room} {As st : List Value} {C : String} {b : Nat}
/-- a callee of tb_ws, by its own words -/
theorem gd_b (w5 : Cond.code y bytes maxL ret ∈ tb_ws) : GoodIn tb_ws (Cond.code y bytes maxL ret :: tb_ws) := fun w h => by
  rcases List.mem_cons.mp h with rfl | h
  · exact ⟨w5, tb_g w5⟩
  · exact ⟨h, tb_g h⟩
/-- what is fixed of a callee: its number of arguments, its words, its room -/
def ye (y : MethodName) (C : String) (n : Nat) : Prop := y.cls = C ∧ y.cls ≠ "java/lang/invoke/MethodHandle" ∧ y.cls ≠ "java/lang/invoke/VarHandle" ∧ (parseMethodDescriptor y.desc).map (fun d => d.parameters.length) = some n
theorem cw_V (hC : CallFix p m c cc nL s args tb_ws own) (w1 : Cond.methodLink own index y ∈ tb_ws) (w2 : Cond.instanceMethod y ∈ tb_ws) (w3 : Cond.selects C y y ∈ tb_ws) (w4 : Cond.initialized C ∈ tb_ws) (w5 : Cond.code y bytes maxL ret ∈ tb_ws) (hy : ye y C n) (hR : rm.frames + 1 ≤ R.frames ∧ 8 + (maxL + 11) + rm.locals ≤ R.locals) : CallW R s args own C index y bytes maxL ret (Cond.code y bytes maxL ret :: tb_ws) rm rm.cells rm.slots n :=
  ⟨callB_of n hC.2.2.2.2 (gd_b w5) rfl rfl rfl (hC.2.2.2.2 _ (by rw [hy.1]; exact w4)) (hC.2.2.2.2 _ w1) hy.2 hR, hC.2.2.2.2 _ w2, hC.2.2.2.2 _ w3⟩
theorem cw_S (hC : CallFix p m c cc nL s args tb_ws own) (w1 : Cond.methodLink own index y ∈ tb_ws) (w2 : Cond.static y ∈ tb_ws) (w4 : Cond.initialized C ∈ tb_ws) (w5 : Cond.code y bytes maxL ret ∈ tb_ws) (hy : ye y C n) (hR : rm.frames + 1 ≤ R.frames ∧ 8 + (maxL + 11) + rm.locals ≤ R.locals) : CallB R s args own index y bytes maxL ret (Cond.code y bytes maxL ret :: tb_ws) rm rm.cells rm.slots n ∧ (Cond.static y).before args s = true :=
  ⟨callB_of n hC.2.2.2.2 (gd_b w5) rfl rfl rfl (hC.2.2.2.2 _ (by rw [hy.1]; exact w4)) (hC.2.2.2.2 _ w1) hy.2 hR, hC.2.2.2.2 _ w2⟩
theorem RoP.pre (hP : va_P D classes ws H) (hK : va_K D classes (TY t) s) (hE : ev ts A s) (hS : va_S A s.heap H locs) {av : List Value} (isC : List Nat) (hsub : isC.filterMap (fun i => ws[i]?) = wc) : PreS s H (RoP D t ts av wc) av :=
  ⟨RoP.blind, fun U hU hW => ⟨rfl, by rw [hU]; exact hP.sub isC hsub, hK.moved hW.alike, hE.enter hS (fun _ h => h.elim) hU hW⟩⟩
/-- calls of readers -/
theorem z_roVi {val : Int} (hC : CallFix p m c cc nL s args tb_ws own) (hM : Met l y (.code y bytes maxL ret :: tb_ws) rm (RoP D t ts (.ref b :: As) wc) (vp_Si (fun r => r = iI val)) 0 0 (fun _ => False))
    (cw : CallW R s args own C index y bytes maxL ret (Cond.code y bytes maxL ret :: tb_ws) rm 0 0 n) (hP : va_P D classes ws H) (hK : va_K D classes (TY t) s) (hE : ev ts A s) (hS : va_S A s.heap H locs) (isC : List Nat) (hsub : isC.filterMap (fun i => ws[i]?) = wc)
    (q0 : Nat) {ci : Nat} {fs : List Value} {q : vw_C} (he : ws[q0]? = some (b, .inr (ci, fs))) (hc : classes[ci]? = some q) (hq : q.1 = C) (hn : As.length = n) (hsz : ls.size = nL) (hst : st = As.reverse ++ .ref b :: rest) (hr : (rest.map fun v => v.category).sum ≤ 8) (hcs : cells ≤ R.cells ∧ slots ≤ R.slots) (d : decode cc pc = .ok (.invokevirtual index, 3))
    (k : W p l e R s m args below meth c H locs cells slots Q (F0 m (pc + 3) ls (.int (iI val) :: rest))) : W p l e R s m args below meth c H locs cells slots Q (F0 m pc ls st) := by
  have hpre := RoP.pre (av := .ref b :: As) hP hK hE hS isC hsub
  refine vp_callSi (W.runV hC hM cw ⟨hpre.1, ?_, hpre.2⟩ rfl hn hsz hst (lv_room hr) d hcs) (fun r h => ?_)
  · have h := va_recv hK hP hc he
    rw [hq] at h; exact h
  · rw [h]; exact k
theorem z_roSi {val : Int} (hC : CallFix p m c cc nL s args tb_ws own) (hM : Met l y (.code y bytes maxL ret :: tb_ws) rm (RoP D t ts As wc) (vp_Si (fun r => r = iI val)) 0 0 (fun _ => False))
    (cw : CallB R s args own index y bytes maxL ret (Cond.code y bytes maxL ret :: tb_ws) rm 0 0 n ∧ (Cond.static y).before args s = true) (hP : va_P D classes ws H) (hK : va_K D classes (TY t) s) (hE : ev ts A s) (hS : va_S A s.heap H locs) (isC : List Nat) (hsub : isC.filterMap (fun i => ws[i]?) = wc)
    (hn : As.length = n) (hsz : ls.size = nL) (hst : st = As.reverse ++ rest) (hr : (rest.map fun v => v.category).sum ≤ 8) (hcs : cells ≤ R.cells ∧ slots ≤ R.slots) (d : decode cc pc = .ok (.invokestatic index, 3))
    (k : W p l e R s m args below meth c H locs cells slots Q (F0 m (pc + 3) ls (.int (iI val) :: rest))) : W p l e R s m args below meth c H locs cells slots Q (F0 m pc ls st) := by
  have hpre := RoP.pre (av := As) hP hK hE hS isC hsub
  refine vp_callSi (W.runS hC hM cw hpre rfl hn hsz hst (lv_room hr) d hcs) (fun r h => ?_)
  rw [h]; exact k
theorem z_roSl {val : Int} (hC : CallFix p m c cc nL s args tb_ws own) (hM : Met l y (.code y bytes maxL ret :: tb_ws) rm (RoP D t ts As wc) (vp_Sl (fun r => r = lI val)) 0 0 (fun _ => False))
    (cw : CallB R s args own index y bytes maxL ret (Cond.code y bytes maxL ret :: tb_ws) rm 0 0 n ∧ (Cond.static y).before args s = true) (hP : va_P D classes ws H) (hK : va_K D classes (TY t) s) (hE : ev ts A s) (hS : va_S A s.heap H locs) (isC : List Nat) (hsub : isC.filterMap (fun i => ws[i]?) = wc)
    (hn : As.length = n) (hsz : ls.size = nL) (hst : st = As.reverse ++ rest) (hr : (rest.map fun v => v.category).sum ≤ 8) (hcs : cells ≤ R.cells ∧ slots ≤ R.slots) (d : decode cc pc = .ok (.invokestatic index, 3))
    (k : W p l e R s m args below meth c H locs cells slots Q (F0 m (pc + 3) ls (.long (lI val) :: rest))) : W p l e R s m args below meth c H locs cells slots Q (F0 m pc ls st) := by
  have hpre := RoP.pre (av := As) hP hK hE hS isC hsub
  refine vp_callSl (W.runS hC hM cw hpre rfl hn hsz hst (lv_room hr) d hcs) (fun r h => ?_)
  rw [h]; exact k
theorem MP.pre (hP : va_P D classes ws H) (hD : va_D A ws) (hK : va_K D classes (TY t) s) (hE : ev ts A s) (hS : va_S A s.heap H locs) (hA : ∀ q, s.heap.size ≤ q → A q) {av : List Value} (isC : List Nat) (hnd : va_nd isC = true) (hsub : isC.map (fun i => ws[i]?) = wc.map some) : PreS s H (MP D t ts av wc H.size) av := by
  have hs2 : isC.filterMap (fun i => ws[i]?) = wc := by
    have h : (isC.map (fun i => ws[i]?)).filterMap id = (wc.map some).filterMap id := by rw [hsub]
    simpa [List.filterMap_map, Function.comp_def] using h
  exact ⟨MP.blind, fun U hU hW => ⟨rfl, by rw [hU], by rw [hU]; exact hP.sub isC hs2, hK.moved hW.alike, (hD.sub isC hnd hsub).weaken (fun _ _ _ _ => trivial), hE.enter hS (va_free hD hS hA isC hsub) hU hW⟩⟩
/-- calls of writers -/
theorem z_mVi {S : Type} {wf : S → va_W} {post : S → Prop} {val : S → Int} (hC : CallFix p m c cc nL s args tb_ws own) (hM : Met l y (.code y bytes maxL ret :: tb_ws) rm (MP D t ts (.ref b :: As) wc H.size) (va_Qi (fun r u => r = iI (val u) ∧ post u) (MB D (va_A wc H.size) wf) (va_A wc H.size)) 0 0 (va_A wc H.size))
    (cw : CallW R s args own C index y bytes maxL ret (Cond.code y bytes maxL ret :: tb_ws) rm 0 0 n) (hP : va_P D classes ws H) (hD : va_D A ws) (hK : va_K D classes (TY t) s) (hE : ev ts A s) (hS : va_S A s.heap H locs) (hA : ∀ q, s.heap.size ≤ q → A q) (isC isR : List Nat) (hnc : va_nd isC = true) (hsub : isC.map (fun i => ws[i]?) = wc.map some) (hR : isR.map (fun i => ws[i]?) = wr.map some) (hnr : va_nd isR = true) (hdis : ∀ i ∈ isR, i ∉ isC)
    (q0 : Nat) {ci : Nat} {fs : List Value} {q : vw_C} (he : ws[q0]? = some (b, .inr (ci, fs))) (hc : classes[ci]? = some q) (hq : q.1 = C) (hn : As.length = n) (hsz : ls.size = nL) (hst : st = As.reverse ++ .ref b :: rest) (hr : (rest.map fun v => v.category).sum ≤ 8) (hcs : cells ≤ R.cells ∧ slots ≤ R.slots) (d : decode cc pc = .ok (.invokevirtual index, 3))
    (k : ∀ (u : S) (H1 : Heap) (locs1 : List Loc), post u → va_P D classes (wr ++ wf u) H1 → va_D A (wr ++ wf u) → va_S A s.heap H1 locs1 → W p l e R s m args below meth c H1 locs1 cells slots Q (F0 m (pc + 3) ls (.int (iI (val u)) :: rest))) : W p l e R s m args below meth c H locs cells slots Q (F0 m pc ls st) := by
  have hpre := MP.pre (av := .ref b :: As) hP hD hK hE hS hA isC hnc hsub
  have hF := va_free hD hS hA isC hsub
  refine va_calli (va_runV hC hM cw ⟨hpre.1, ?_, hpre.2⟩ rfl hn hsz hst (lv_room hr) d hcs) hS (fun q _ h => hF q h) hF (fun r u T H1 locs1 hT _ hp hB _ hk hS1 => ?_)
  · have h := va_recv hK hP hc he
    rw [hq] at h; exact h
  · obtain ⟨hr2, hp⟩ := hp
    have hB1 := hB.1
    rw [hT] at hB1
    have hj := va_join hP hD isC isR hsub hR hnr hdis hk hF hB1 hB.2
    rw [hr2]
    exact k u H1 locs1 hp hj.1 hj.2 hS1
theorem z_mVl {S : Type} {wf : S → va_W} {post : S → Prop} {val : S → Int} (hC : CallFix p m c cc nL s args tb_ws own) (hM : Met l y (.code y bytes maxL ret :: tb_ws) rm (MP D t ts (.ref b :: As) wc H.size) (va_Ql (fun r u => r = lI (val u) ∧ post u) (MB D (va_A wc H.size) wf) (va_A wc H.size)) 0 0 (va_A wc H.size))
    (cw : CallW R s args own C index y bytes maxL ret (Cond.code y bytes maxL ret :: tb_ws) rm 0 0 n) (hP : va_P D classes ws H) (hD : va_D A ws) (hK : va_K D classes (TY t) s) (hE : ev ts A s) (hS : va_S A s.heap H locs) (hA : ∀ q, s.heap.size ≤ q → A q) (isC isR : List Nat) (hnc : va_nd isC = true) (hsub : isC.map (fun i => ws[i]?) = wc.map some) (hR : isR.map (fun i => ws[i]?) = wr.map some) (hnr : va_nd isR = true) (hdis : ∀ i ∈ isR, i ∉ isC)
    (q0 : Nat) {ci : Nat} {fs : List Value} {q : vw_C} (he : ws[q0]? = some (b, .inr (ci, fs))) (hc : classes[ci]? = some q) (hq : q.1 = C) (hn : As.length = n) (hsz : ls.size = nL) (hst : st = As.reverse ++ .ref b :: rest) (hr : (rest.map fun v => v.category).sum ≤ 8) (hcs : cells ≤ R.cells ∧ slots ≤ R.slots) (d : decode cc pc = .ok (.invokevirtual index, 3))
    (k : ∀ (u : S) (H1 : Heap) (locs1 : List Loc), post u → va_P D classes (wr ++ wf u) H1 → va_D A (wr ++ wf u) → va_S A s.heap H1 locs1 → W p l e R s m args below meth c H1 locs1 cells slots Q (F0 m (pc + 3) ls (.long (lI (val u)) :: rest))) : W p l e R s m args below meth c H locs cells slots Q (F0 m pc ls st) := by
  have hpre := MP.pre (av := .ref b :: As) hP hD hK hE hS hA isC hnc hsub
  have hF := va_free hD hS hA isC hsub
  refine va_calll (va_runV hC hM cw ⟨hpre.1, ?_, hpre.2⟩ rfl hn hsz hst (lv_room hr) d hcs) hS (fun q _ h => hF q h) hF (fun r u T H1 locs1 hT _ hp hB _ hk hS1 => ?_)
  · have h := va_recv hK hP hc he
    rw [hq] at h; exact h
  · obtain ⟨hr2, hp⟩ := hp
    have hB1 := hB.1
    rw [hT] at hB1
    have hj := va_join hP hD isC isR hsub hR hnr hdis hk hF hB1 hB.2
    rw [hr2]
    exact k u H1 locs1 hp hj.1 hj.2 hS1
theorem z_mVv {S : Type} {wf : S → va_W} {post : S → Prop} (hC : CallFix p m c cc nL s args tb_ws own) (hM : Met l y (.code y bytes maxL ret :: tb_ws) rm (MP D t ts (.ref b :: As) wc H.size) (va_Qv post (MB D (va_A wc H.size) wf) (va_A wc H.size)) 0 0 (va_A wc H.size))
    (cw : CallW R s args own C index y bytes maxL ret (Cond.code y bytes maxL ret :: tb_ws) rm 0 0 n) (hP : va_P D classes ws H) (hD : va_D A ws) (hK : va_K D classes (TY t) s) (hE : ev ts A s) (hS : va_S A s.heap H locs) (hA : ∀ q, s.heap.size ≤ q → A q) (isC isR : List Nat) (hnc : va_nd isC = true) (hsub : isC.map (fun i => ws[i]?) = wc.map some) (hR : isR.map (fun i => ws[i]?) = wr.map some) (hnr : va_nd isR = true) (hdis : ∀ i ∈ isR, i ∉ isC)
    (q0 : Nat) {ci : Nat} {fs : List Value} {q : vw_C} (he : ws[q0]? = some (b, .inr (ci, fs))) (hc : classes[ci]? = some q) (hq : q.1 = C) (hn : As.length = n) (hsz : ls.size = nL) (hst : st = As.reverse ++ .ref b :: rest) (hr : (rest.map fun v => v.category).sum ≤ 8) (hcs : cells ≤ R.cells ∧ slots ≤ R.slots) (d : decode cc pc = .ok (.invokevirtual index, 3))
    (k : ∀ (u : S) (H1 : Heap) (locs1 : List Loc), post u → va_P D classes (wr ++ wf u) H1 → va_D A (wr ++ wf u) → va_S A s.heap H1 locs1 → W p l e R s m args below meth c H1 locs1 cells slots Q (F0 m (pc + 3) ls rest)) : W p l e R s m args below meth c H locs cells slots Q (F0 m pc ls st) := by
  have hpre := MP.pre (av := .ref b :: As) hP hD hK hE hS hA isC hnc hsub
  have hF := va_free hD hS hA isC hsub
  refine va_callv (va_runV hC hM cw ⟨hpre.1, ?_, hpre.2⟩ rfl hn hsz hst (lv_room hr) d hcs) hS (fun q _ h => hF q h) hF (fun u T H1 locs1 hT _ hp hB _ hk hS1 => ?_)
  · have h := va_recv hK hP hc he
    rw [hq] at h; exact h
  · have hB1 := hB.1
    rw [hT] at hB1
    have hj := va_join hP hD isC isR hsub hR hnr hdis hk hF hB1 hB.2
    exact k u H1 locs1 hp hj.1 hj.2 hS1
theorem z_mSv {S : Type} {wf : S → va_W} {post : S → Prop} (hC : CallFix p m c cc nL s args tb_ws own) (hM : Met l y (.code y bytes maxL ret :: tb_ws) rm (MP D t ts As wc H.size) (va_Qv post (MB D (va_A wc H.size) wf) (va_A wc H.size)) 0 0 (va_A wc H.size))
    (cw : CallB R s args own index y bytes maxL ret (Cond.code y bytes maxL ret :: tb_ws) rm 0 0 n ∧ (Cond.static y).before args s = true) (hP : va_P D classes ws H) (hD : va_D A ws) (hK : va_K D classes (TY t) s) (hE : ev ts A s) (hS : va_S A s.heap H locs) (hA : ∀ q, s.heap.size ≤ q → A q) (isC isR : List Nat) (hnc : va_nd isC = true) (hsub : isC.map (fun i => ws[i]?) = wc.map some) (hR : isR.map (fun i => ws[i]?) = wr.map some) (hnr : va_nd isR = true) (hdis : ∀ i ∈ isR, i ∉ isC)
    (hn : As.length = n) (hsz : ls.size = nL) (hst : st = As.reverse ++ rest) (hr : (rest.map fun v => v.category).sum ≤ 8) (hcs : cells ≤ R.cells ∧ slots ≤ R.slots) (d : decode cc pc = .ok (.invokestatic index, 3))
    (k : ∀ (u : S) (H1 : Heap) (locs1 : List Loc), post u → va_P D classes (wr ++ wf u) H1 → va_D A (wr ++ wf u) → va_S A s.heap H1 locs1 → W p l e R s m args below meth c H1 locs1 cells slots Q (F0 m (pc + 3) ls rest)) : W p l e R s m args below meth c H locs cells slots Q (F0 m pc ls st) := by
  have hpre := MP.pre (av := As) hP hD hK hE hS hA isC hnc hsub
  have hF := va_free hD hS hA isC hsub
  refine va_callv (va_runS hC hM cw hpre rfl hn hsz hst (lv_room hr) d hcs) hS (fun q _ h => hF q h) hF (fun u T H1 locs1 hT _ hp hB _ hk hS1 => ?_)
  have hB1 := hB.1
  rw [hT] at hB1
  have hj := va_join hP hD isC isR hsub hR hnr hdis hk hF hB1 hB.2
  exact k u H1 locs1 hp hj.1 hj.2 hS1
end ZC
