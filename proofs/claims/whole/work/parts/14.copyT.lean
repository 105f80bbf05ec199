/-! arraycopy out of a static row of ints (only its first N places are known) into a row of ours -/
section ZT
variable {p : Program} {l : Launch} {e : Env} {R : Room} {s : State} {m : MethodId} {args : Array Value} {below : List Frame} {meth : Method} {c : Code} {H : Heap} {locs : List Loc} {cells slots : Nat} {Q : State → Prop} {cc : ByteArray} {pc nL : Nat} {ls : Array Slot} {rest : List Value} {own : String} {D : va_G} {t : vt} {ws ws' : va_W} {A : Nat → Prop} {a b0 : Nat}
theorem nneg_toInt {z : Int} (h : 0 ≤ z ∧ z ≤ 2147483647) : ¬ iI z < 0 ∧ (iI z).toInt = z ∧ (iI z).toNatClampNeg = z.toNat :=
  ⟨fun q => by rw [← iI_0, iI_lt (by omega) inI_0] at q; omega, iI_toInt (by omega), iI_clamp (by omega)⟩
set_option maxHeartbeats 1000000 in
theorem z_copyT (hC : CallFix p m c cc nL s args tb_ws own) {i : Nat} (w1 : Cond.methodLink own i arraycopyName ∈ tb_ws) (hsz : ls.size = nL) (hK : va_K D classes (TY t) s) (hP : va_P D classes ws H) (hD : va_D A ws) (hS : va_S A s.heap H locs) {n0 n1 : Nat} {f g : Int → Int} (hT : va_T .int b0 n0 (fun j => .int (iI (f j))) A s s.heap) (q1 : Nat) (ha1 : ws[q1]? = some (a, eI t.1 n1 g)) {sp dp n : Int} (h1 : 0 ≤ sp ∧ 0 ≤ dp ∧ 0 ≤ n) (h2 : sp + n ≤ n0 ∧ dp + n ≤ n1 ∧ (n0 : Int) ≤ 2147483647 ∧ (n1 : Int) ≤ 2147483647) (hf : 1 ≤ R.frames) (hr : (rest.map fun v => v.category).sum + 18 ≤ R.locals) (hw : ws.set q1 (a, eI t.1 n1 (cZ f g sp dp n)) = ws') (d : decode cc pc = .ok (.invokestatic i, 3))
    (kk : ∀ (H1 : Heap) (locs1 : List Loc), va_P D classes ws' H1 → va_D A ws' → va_S A s.heap H1 locs1 → W p l e R s m args below meth c H1 locs1 cells slots Q (F0 m (pc + 3) ls rest)) : W p l e R s m args below meth c H locs cells slots Q (F0 m pc ls (.int (iI n) :: .int (iI dp) :: .ref a :: .int (iI sp) :: .ref b0 :: rest)) := by
  obtain ⟨g1, g2, g3⟩ := nneg_toInt (z := sp) (by omega)
  obtain ⟨k1, k2, k3⟩ := nneg_toInt (z := dp) (by omega)
  obtain ⟨j1, j2, j3⟩ := nneg_toInt (z := n) (by omega)
  have hex := hC.2.1
  intro T hTh X
  obtain ⟨cell, c1, ⟨c2, kA, hkA, comp, hkk⟩, c3, c4, c5, c6, c7⟩ := hT
  have hin0 : H[b0]? = some cell := by rw [hS.2.1 b0 (Array.getElem?_eq_some_iff.mp c1).1 c7]; exact c1
  have hin1 : H[a]? = some (vp_cell t.1 (n1, .inl (aI g))) := hP q1 _ ha1
  obtain ⟨-, kB, hkB, comB, hkkB⟩ := (hK.2 0 _ rfl).1 n1 (fun j => .int (aI g j))
  have hval : ∀ j : Nat, j < n0 → cell.slots[j]? = some (.int (aI f j)) := fun j hj => c6 j hj
  obtain ⟨vm', X', step⟩ := X.arraycopy hC.1 hC.2.2.2.1 (hC.2.2.2.2 _ w1) (hC.2.2.2.2 _ kCPY.1) (hC.2.2.2.2 _ kCPY.2.1) (hC.2.2.2.2 _ kCPY.2.2) (src := b0) (dst := a) (cs := cell) (cd := vp_cell t.1 (n1, .inl (aI g))) (srcPos := iI sp) (destPos := iI dp) (n := iI n) (by rw [hTh]; exact hin0) (by rw [hTh]; exact hin1)
    c2 (fun _ h => by cases h) c3 (fun h => by cases h) hkA hkB hkk hkkB (by simp [refKind]) g1 k1 j1
    (by rw [g2, j2]; omega)
    (by rw [k2, j2]; show ¬ _ > ((arrV t.1 n1 (fun j => .int (aI g j))).slots.size : Int); rw [arrV_size]; omega)
    (fun vm₁ _ i hi => by
      have hlt : (iI sp).toNatClampNeg + i < n0 := by rw [j3] at hi; rw [g3]; omega
      have ev : cell.slots.getD ((iI sp).toNatClampNeg + i) .null = .int (aI f ((iI sp).toNatClampNeg + i)) := by
        rw [Array.getD_eq_getD_getElem?, hval _ hlt]; rfl
      refine ⟨?_, ?_⟩
      · rw [ev]; rfl
      · rw [ev]; exact trivial)
    (g := F0 m pc ls (.int (iI n) :: .int (iI dp) :: .ref a :: .int (iI sp) :: .ref b0 :: rest)) rfl (by rw [hC.2.2.1]; exact hsz) (rest := rest) rfl (by rw [hex]; exact d) hf (by show 2 * 0 + _ + _ ≤ _; have : nativeFrameWords "java/lang/System" "arraycopy" 5 + 11 = 18 := rfl; omega)
  have eNew : copied cell (vp_cell t.1 (n1, .inl (aI g))) (iI sp) (iI dp) (iI n) = vp_cell t.1 (n1, .inl (aI (cZ f g sp dp n))) := by
    rw [← aI_cpy f g h1.1 h1.2.1 h1.2.2, ← g3, ← k3, ← j3]
    exact va_copiedX (fun z => .int z) cell t.1 (aI f) (aI g) hval (by rw [g3, j3]; omega)
  rw [eNew] at X' step
  have ha : a < H.size := (Array.getElem?_eq_some_iff.mp hin1).1
  have hoth : ∀ q : Nat, q ≠ a → (H.setIfInBounds a (vp_cell t.1 (n1, .inl (aI (cZ f g sp dp n)))))[q]? = H[q]? := fun q hq => by simp [Array.getElem?_setIfInBounds, Ne.symm hq]
  have hheap : ((T.setVm vm').setCell a (vp_cell t.1 (n1, .inl (aI (cZ f g sp dp n))))).heap = H.setIfInBounds a (vp_cell t.1 (n1, .inl (aI (cZ f g sp dp n)))) := by rw [← hTh]; rfl
  have hP1 := hP.set (e := eI t.1 n1 (cZ f g sp dp n)) hD ha1 (show (H.setIfInBounds a _)[a]? = some _ by simp [Array.getElem?_setIfInBounds, ha]) hoth
  have hD1 := hD.set (e := eI t.1 n1 (cZ f g sp dp n)) ha1
  rw [hw] at hP1 hD1
  obtain ⟨t', b1, b2⟩ := kk _ _ hP1 hD1 ⟨by simp; exact hS.1, fun q q1' q2 => by
      rw [hoth q (fun he => q2 (by rw [he]; exact hD.2 q1 _ ha1))]; exact hS.2.1 q q1' q2, fun q hq => by
      rcases List.mem_append.mp hq with h | h
      · exact hS.2.2 q h
      · obtain ⟨z, -, hz⟩ := List.mem_map.mp h
        rw [← hz]; exact hD.2 q1 _ ha1⟩ _ hheap X'
  exact ⟨t', step t' b1, b2⟩
end ZT
