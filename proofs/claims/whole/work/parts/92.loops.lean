/-! THE LAW's loop -/
set_option maxHeartbeats 4000000 in
set_option maxRecDepth 100000 in
theorem loopR {p : Program} {l : Launch} {e : Env} {s : State} {m : MethodId} {below : List Frame} {meth : Method} {c : Code} {D : va_G} {t : vt} {ts : Nat → Nat} {b L : Nat} {xs : Nat → Int32} (hC : CallFix p m c code 4 s #[Value.ref b] tb_ws R_La) (hK : va_K D classes (TY t) s) (hE : ev ts (lA s) s) (hX : va_X b L xs s s.heap) (hbl : b < s.heap.size) (hL : L ≤ 4096) (hr : meth.sig.returnType = ret) (hlocks : meth.locks = false) {cl sl : Nat} (hcs0 : cl + 3 ≤ room_1.cells ∧ sl + 5203 ≤ room_1.slots) : ∀ (fu : Nat) (i : Int) (H : Heap) (locs : List Loc) (ls : Array Slot), (0 ≤ i ∧ i ≤ 10000) → (L : Int) - i + 8 ≤ (fu : Int) → LSR D t s b i H locs ls → W p l e room_1 s m #[Value.ref b] below meth c H locs cl sl (lw_Z below #[Value.ref b] s) (F0 m 18 ls []) := by
  have hbA : ¬ lA s b := Nat.not_le.mpr hbl
  have rc : room_1.cells = 600000 ∧ room_1.slots = 7302250 := ⟨rfl, rfl⟩
  intro fu
  induction fu with
  | zero =>
    intro i H locs ls h0 hm h
    refine LSR_el h ?_
    intro x qs ql qh qp qt qn qw qg qu qr pa pb sq sa sb o mT mC mF mY mZ mu mv mw mg mh mx mc ma mb md mp mq lv z fm sd sc wh go h1 g1 h2 g2 z0 up T F Lo Hi Wk Hg U T' F' Fr Yr U' Wd f1 f2 f3 f4 f5 f6 f7 f8 f9 f10 f11 Ts Fs S hWk hHg hU hUm hsd hTs hFs hP hD hS hl
    refine lv_iload_n hC.1 hC.2.1 d_La_law_18 rfl (lv_at hl 3 rfl) ?_
    refine lv_aload_n hC.1 hC.2.1 d_La_law_19 rfl (lv_at hl 0 rfl) ?_
    refine z_slen hC hX hbl hbA hS d_La_law_20 ?_
    refine z_bipush hC d_La_law_21 (by decide) ?_
    refine z_isub hC d_La_law_23 ?_
    refine z_icmp_gt (tgt := 502) hC d_La_law_24 (by decide) (by omega) (by omega) (fun h24 => ?_) (fun h24 => ?_)
    · refine z_iconst hC d_La_law_502 ?_
      rw [show iI 1 = (1 : Int32) from by decide]
      refine va_forget (fun q hq => hS.2.2 q hq) ?_
      refine W.widen (k := 600000) (n := 7302250) (by omega) (by omega) ?_
      exact lw_ret hC.1 hC.2.1 hr hlocks d_La_law_503
    · exact absurd h24 (by omega)
  | succ fu ih =>
    intro i H locs ls h0 hm h
    refine LSR_el h ?_
    intro x qs ql qh qp qt qn qw qg qu qr pa pb sq sa sb o mT mC mF mY mZ mu mv mw mg mh mx mc ma mb md mp mq lv z fm sd sc wh go h1 g1 h2 g2 z0 up T F Lo Hi Wk Hg U T' F' Fr Yr U' Wd f1 f2 f3 f4 f5 f6 f7 f8 f9 f10 f11 Ts Fs S hWk hHg hU hUm hsd hTs hFs hP hD hS hl
    refine lv_iload_n hC.1 hC.2.1 d_La_law_18 rfl (lv_at hl 3 rfl) ?_
    refine lv_aload_n hC.1 hC.2.1 d_La_law_19 rfl (lv_at hl 0 rfl) ?_
    refine z_slen hC hX hbl hbA hS d_La_law_20 ?_
    refine z_bipush hC d_La_law_21 (by decide) ?_
    refine z_isub hC d_La_law_23 ?_
    refine z_icmp_gt (tgt := 502) hC d_La_law_24 (by decide) (by omega) (by omega) (fun h24 => ?_) (fun h24 => ?_)
    · refine z_iconst hC d_La_law_502 ?_
      rw [show iI 1 = (1 : Int32) from by decide]
      refine va_forget (fun q hq => hS.2.2 q hq) ?_
      refine W.widen (k := 600000) (n := 7302250) (by omega) (by omega) ?_
      exact lw_ret hC.1 hC.2.1 hr hlocks d_La_law_503
    · have hi : 0 ≤ i ∧ i + 8 ≤ L ∧ (L : Int) ≤ 4096 := by omega
      have next : ∀ (H : Heap) (locs : List Loc) (ls : Array Slot), LSR D t s b i H locs ls → W p l e room_1 s m #[Value.ref b] below meth c H locs cl sl (lw_Z below #[Value.ref b] s) (F0 m 496 ls []) := by
        intro H locs ls h
        refine LSR_el h ?_
        intro x qs ql qh qp qt qn qw qg qu qr pa pb sq sa sb o mT mC mF mY mZ mu mv mw mg mh mx mc ma mb md mp mq lv z fm sd sc wh go h1 g1 h2 g2 z0 up T F Lo Hi Wk Hg U T' F' Fr Yr U' Wd f1 f2 f3 f4 f5 f6 f7 f8 f9 f10 f11 Ts Fs S hWk hHg hU hUm hsd hTs hFs hP hD hS hl
        refine lv_iinc (v := iI (i + 8)) (lv' := [(3, .int (iI (i + 8))), (0, .ref b), (1, .ref x), (2, .ref o)]) hC.1 hC.2.1 d_La_law_496 hl (k := 3) rfl (z_inc (by omega)) (by decide) rfl (fun ls hl => ?_)
        refine z_goto (tgt := 18) hC d_La_law_499 (by decide) ?_
        exact ih (i + 8) H locs ls (by omega) (by omega) ⟨x, qs, ql, qh, qp, qt, qn, qw, qg, qu, qr, pa, pb, sq, sa, sb, o, mT, mC, mF, mY, mZ, mu, mv, mw, mg, mh, mx, mc, ma, mb, md, mp, mq, lv, z, fm, sd, sc, wh, go, h1, g1, h2, g2, z0, up, T, F, Lo, Hi, Wk, Hg, U, T', F', Fr, Yr, U', Wd, f1, f2, f3, f4, f5, f6, f7, f8, f9, f10, f11, Ts, Fs, S, hWk, hHg, hU, hUm, hsd, hTs, hFs, hP, hD, hS, lv_sub hl [1, 2, 3, 0] rfl⟩
      refine lv_aload_n hC.1 hC.2.1 d_La_law_27 rfl (lv_at hl 0 rfl) ?_
      refine lv_iload_n hC.1 hC.2.1 d_La_law_28 rfl (lv_at hl 3 rfl) ?_
      refine z_sld hC hX hbl hbA hS (by omega) d_La_law_29 ?_
      refine z_bipush hC d_La_law_30 (by decide) ?_
      refine z_and15 hC (inI_of _) d_La_law_32 ?_
      obtain ⟨w, ew⟩ : ∃ w : Int, w = (xs i.toNat).toInt % 16 := ⟨_, rfl⟩
      rw [← ew]
      have hw : 0 ≤ w ∧ w < 16 := by omega
      rcases (show w = 0 ∨ w = 1 ∨ w = 2 ∨ w = 3 ∨ w = 4 ∨ w = 5 ∨ w = 6 ∨ w = 7 ∨ w = 8 ∨ w = 9 ∨ w = 10 ∨ 10 < w by omega) with hw33 | hw33 | hw33 | hw33 | hw33 | hw33 | hw33 | hw33 | hw33 | hw33 | hw33 | hw33
      · refine lv_tableIn (off := 59) (tgt := 92) hC.1 hC.2.1 d_La_law_33 (by rw [iI_toInt (by omega)]; omega) (by rw [iI_toInt (by omega)]; omega) (by rw [iI_toInt (by omega), hw33]; rfl) (by decide) ?_
        exact lR_seed hC hK hE hX hbl hcs0 hi S hWk hHg hU hUm hsd hTs hFs hP hD hS hl next
      · refine lv_tableIn (off := 82) (tgt := 115) hC.1 hC.2.1 d_La_law_33 (by rw [iI_toInt (by omega)]; omega) (by rw [iI_toInt (by omega)]; omega) (by rw [iI_toInt (by omega), hw33]; rfl) (by decide) ?_
        by_cases h7 : (xs (i + 7).toNat).toInt = 0
        · exact lR_placeF hC hK hE hX hbl hcs0 hi h7 S hWk hHg hU hUm hsd hTs hFs hP hD hS hl next
        · exact lR_placeT hC hK hE hX hbl hcs0 hi h7 S hWk hHg hU hUm hsd hTs hFs hP hD hS hl next
      · refine lv_tableIn (off := 185) (tgt := 218) hC.1 hC.2.1 d_La_law_33 (by rw [iI_toInt (by omega)]; omega) (by rw [iI_toInt (by omega)]; omega) (by rw [iI_toInt (by omega), hw33]; rfl) (by decide) ?_
        exact lR_remove hC hK hE hX hbl hcs0 hi S hWk hHg hU hUm hsd hTs hFs hP hD hS hl next
      · refine lv_tableIn (off := 208) (tgt := 241) hC.1 hC.2.1 d_La_law_33 (by rw [iI_toInt (by omega)]; omega) (by rw [iI_toInt (by omega)]; omega) (by rw [iI_toInt (by omega), hw33]; rfl) (by decide) ?_
        exact lR_inflate hC hK hE hX hbl hcs0 hi S hWk hHg hU hUm hsd hTs hFs hP hD hS hl next
      · refine lv_tableIn (off := 221) (tgt := 254) hC.1 hC.2.1 d_La_law_33 (by rw [iI_toInt (by omega)]; omega) (by rw [iI_toInt (by omega)]; omega) (by rw [iI_toInt (by omega), hw33]; rfl) (by decide) ?_
        exact lR_deflate hC hK hE hX hbl hcs0 hi S hWk hHg hU hUm hsd hTs hFs hP hD hS hl next
      · refine lv_tableIn (off := 234) (tgt := 267) hC.1 hC.2.1 d_La_law_33 (by rw [iI_toInt (by omega)]; omega) (by rw [iI_toInt (by omega)]; omega) (by rw [iI_toInt (by omega), hw33]; rfl) (by decide) ?_
        exact lR_clash hC hK hE hX hbl hcs0 hi S hWk hHg hU hUm hsd hTs hFs hP hD hS hl next
      · refine lv_tableIn (off := 247) (tgt := 280) hC.1 hC.2.1 d_La_law_33 (by rw [iI_toInt (by omega)]; omega) (by rw [iI_toInt (by omega)]; omega) (by rw [iI_toInt (by omega), hw33]; rfl) (by decide) ?_
        exact lR_count hC hK hE hX hbl hcs0 hi S hWk hHg hU hUm hsd hTs hFs hP hD hS hl next
      · refine lv_tableIn (off := 270) (tgt := 303) hC.1 hC.2.1 d_La_law_33 (by rw [iI_toInt (by omega)]; omega) (by rw [iI_toInt (by omega)]; omega) (by rw [iI_toInt (by omega), hw33]; rfl) (by decide) ?_
        exact lR_corner hC hK hE hX hbl hcs0 hi S hWk hHg hU hUm hsd hTs hFs hP hD hS hl next
      · refine lv_tableIn (off := 313) (tgt := 346) hC.1 hC.2.1 d_La_law_33 (by rw [iI_toInt (by omega)]; omega) (by rw [iI_toInt (by omega)]; omega) (by rw [iI_toInt (by omega), hw33]; rfl) (by decide) ?_
        exact lR_star hC hK hE hX hbl hcs0 hi S hWk hHg hU hUm hsd hTs hFs hP hD hS hl next
      · refine lv_tableIn (off := 356) (tgt := 389) hC.1 hC.2.1 d_La_law_33 (by rw [iI_toInt (by omega)]; omega) (by rw [iI_toInt (by omega)]; omega) (by rw [iI_toInt (by omega), hw33]; rfl) (by decide) ?_
        exact lR_inside hC hK hE hX hbl hcs0 hi S hWk hHg hU hUm hsd hTs hFs hP hD hS hl next
      · refine lv_tableIn (off := 409) (tgt := 442) hC.1 hC.2.1 d_La_law_33 (by rw [iI_toInt (by omega)]; omega) (by rw [iI_toInt (by omega)]; omega) (by rw [iI_toInt (by omega), hw33]; rfl) (by decide) ?_
        exact lR_steps hC hK hE hX hbl hcs0 hi S hWk hHg hU hUm hsd hTs hFs hP hD hS hl next
      · refine lv_tableOut (tgt := 496) hC.1 hC.2.1 d_La_law_33 (by rw [iI_toInt (by omega)]; omega) (by decide) ?_
        exact next H locs ls h

set_option maxHeartbeats 4000000 in
set_option maxRecDepth 100000 in
theorem loopN {p : Program} {l : Launch} {e : Env} {s : State} {m : MethodId} {below : List Frame} {meth : Method} {c : Code} {D : va_G} {t : vt} {ts : Nat → Nat} {b L : Nat} {xs : Nat → Int32} (hC : CallFix p m c code 4 s #[Value.ref b] tb_ws R_La) (hK : va_K D classes (TY t) s) (hE : ev ts (lA s) s) (hX : va_X b L xs s s.heap) (hbl : b < s.heap.size) (hL : L ≤ 4096) (hr : meth.sig.returnType = ret) (hlocks : meth.locks = false) : ∀ (fu k : Nat) (i : Int) (H : Heap) (locs : List Loc) (ls : Array Slot), i = 8 * (k : Int) → k ≤ 512 → (L : Int) - i + 8 ≤ (fu : Int) → LSN D t s b i H locs ls → W p l e room_1 s m #[Value.ref b] below meth c H locs (31 + 3 * k) (41368 + 5203 * k) (lw_Z below #[Value.ref b] s) (F0 m 18 ls []) := by
  have hbA : ¬ lA s b := Nat.not_le.mpr hbl
  have rc : room_1.cells = 600000 ∧ room_1.slots = 7302250 := ⟨rfl, rfl⟩
  intro fu
  induction fu with
  | zero =>
    intro k i H locs ls h0 hk hm h
    refine LSN_el h ?_
    intro x qs ql qh qp qt qn qw qg qu qr pa pb o mT mC mF mY mZ mu mv mw mg mh mx mc ma mb md mp mq lv z fm sd sc wh go h1 g1 h2 g2 up T F Lo Hi Wk Hg U T' F' Fr Yr U' Wd f1 f2 f3 f4 f5 f6 f7 f8 f9 f10 f11 S hWk hHg hU hUm hsd hP hD hS hl
    refine lv_iload_n hC.1 hC.2.1 d_La_law_18 rfl (lv_at hl 3 rfl) ?_
    refine lv_aload_n hC.1 hC.2.1 d_La_law_19 rfl (lv_at hl 0 rfl) ?_
    refine z_slen hC hX hbl hbA hS d_La_law_20 ?_
    refine z_bipush hC d_La_law_21 (by decide) ?_
    refine z_isub hC d_La_law_23 ?_
    refine z_icmp_gt (tgt := 502) hC d_La_law_24 (by decide) (by omega) (by omega) (fun h24 => ?_) (fun h24 => ?_)
    · refine z_iconst hC d_La_law_502 ?_
      rw [show iI 1 = (1 : Int32) from by decide]
      refine va_forget (fun q hq => hS.2.2 q hq) ?_
      refine W.widen (k := 600000) (n := 7302250) (by omega) (by omega) ?_
      exact lw_ret hC.1 hC.2.1 hr hlocks d_La_law_503
    · exact absurd h24 (by omega)
  | succ fu ih =>
    intro k i H locs ls h0 hk hm h
    refine LSN_el h ?_
    intro x qs ql qh qp qt qn qw qg qu qr pa pb o mT mC mF mY mZ mu mv mw mg mh mx mc ma mb md mp mq lv z fm sd sc wh go h1 g1 h2 g2 up T F Lo Hi Wk Hg U T' F' Fr Yr U' Wd f1 f2 f3 f4 f5 f6 f7 f8 f9 f10 f11 S hWk hHg hU hUm hsd hP hD hS hl
    refine lv_iload_n hC.1 hC.2.1 d_La_law_18 rfl (lv_at hl 3 rfl) ?_
    refine lv_aload_n hC.1 hC.2.1 d_La_law_19 rfl (lv_at hl 0 rfl) ?_
    refine z_slen hC hX hbl hbA hS d_La_law_20 ?_
    refine z_bipush hC d_La_law_21 (by decide) ?_
    refine z_isub hC d_La_law_23 ?_
    refine z_icmp_gt (tgt := 502) hC d_La_law_24 (by decide) (by omega) (by omega) (fun h24 => ?_) (fun h24 => ?_)
    · refine z_iconst hC d_La_law_502 ?_
      rw [show iI 1 = (1 : Int32) from by decide]
      refine va_forget (fun q hq => hS.2.2 q hq) ?_
      refine W.widen (k := 600000) (n := 7302250) (by omega) (by omega) ?_
      exact lw_ret hC.1 hC.2.1 hr hlocks d_La_law_503
    · have hi : 0 ≤ i ∧ i + 8 ≤ L ∧ (L : Int) ≤ 4096 := by omega
      have hcs0 : 31 + 3 * k + 3 ≤ room_1.cells ∧ 41368 + 5203 * k + 5203 ≤ room_1.slots := ⟨by omega, by omega⟩
      have next : ∀ (H : Heap) (locs : List Loc) (ls : Array Slot), LSN D t s b i H locs ls → W p l e room_1 s m #[Value.ref b] below meth c H locs (31 + 3 * k + 3) (41368 + 5203 * k + 5203) (lw_Z below #[Value.ref b] s) (F0 m 496 ls []) := by
        intro H locs ls h
        refine LSN_el h ?_
        intro x qs ql qh qp qt qn qw qg qu qr pa pb o mT mC mF mY mZ mu mv mw mg mh mx mc ma mb md mp mq lv z fm sd sc wh go h1 g1 h2 g2 up T F Lo Hi Wk Hg U T' F' Fr Yr U' Wd f1 f2 f3 f4 f5 f6 f7 f8 f9 f10 f11 S hWk hHg hU hUm hsd hP hD hS hl
        refine lv_iinc (v := iI (i + 8)) (lv' := [(3, .int (iI (i + 8))), (0, .ref b), (1, .ref x), (2, .ref o)]) hC.1 hC.2.1 d_La_law_496 hl (k := 3) rfl (z_inc (by omega)) (by decide) rfl (fun ls hl => ?_)
        refine z_goto (tgt := 18) hC d_La_law_499 (by decide) ?_
        have w := ih (k + 1) (i + 8) H locs ls (by omega) (by omega) (by omega) ⟨x, qs, ql, qh, qp, qt, qn, qw, qg, qu, qr, pa, pb, o, mT, mC, mF, mY, mZ, mu, mv, mw, mg, mh, mx, mc, ma, mb, md, mp, mq, lv, z, fm, sd, sc, wh, go, h1, g1, h2, g2, up, T, F, Lo, Hi, Wk, Hg, U, T', F', Fr, Yr, U', Wd, f1, f2, f3, f4, f5, f6, f7, f8, f9, f10, f11, S, hWk, hHg, hU, hUm, hsd, hP, hD, hS, lv_sub hl [1, 2, 3, 0] rfl⟩
        rw [show 31 + 3 * (k + 1) = 31 + 3 * k + 3 by omega, show 41368 + 5203 * (k + 1) = 41368 + 5203 * k + 5203 by omega] at w
        exact w
      have nextR : ∀ (H : Heap) (locs : List Loc) (ls : Array Slot), LSR D t s b i H locs ls → W p l e room_1 s m #[Value.ref b] below meth c H locs (31 + 3 * k + 3) (41368 + 5203 * k + 5203) (lw_Z below #[Value.ref b] s) (F0 m 496 ls []) := by
        intro H locs ls h
        refine LSR_el h ?_
        intro x qs ql qh qp qt qn qw qg qu qr pa pb sq sa sb o mT mC mF mY mZ mu mv mw mg mh mx mc ma mb md mp mq lv z fm sd sc wh go h1 g1 h2 g2 z0 up T F Lo Hi Wk Hg U T' F' Fr Yr U' Wd f1 f2 f3 f4 f5 f6 f7 f8 f9 f10 f11 Ts Fs S hWk hHg hU hUm hsd hTs hFs hP hD hS hl
        refine lv_iinc (v := iI (i + 8)) (lv' := [(3, .int (iI (i + 8))), (0, .ref b), (1, .ref x), (2, .ref o)]) hC.1 hC.2.1 d_La_law_496 hl (k := 3) rfl (z_inc (by omega)) (by decide) rfl (fun ls hl => ?_)
        refine z_goto (tgt := 18) hC d_La_law_499 (by decide) ?_
        exact loopR hC hK hE hX hbl hL hr hlocks (cl := 31 + 3 * k + 3) (sl := 41368 + 5203 * k + 5203) ⟨by omega, by omega⟩ (L + 8) (i + 8) H locs ls (by omega) (by omega) ⟨x, qs, ql, qh, qp, qt, qn, qw, qg, qu, qr, pa, pb, sq, sa, sb, o, mT, mC, mF, mY, mZ, mu, mv, mw, mg, mh, mx, mc, ma, mb, md, mp, mq, lv, z, fm, sd, sc, wh, go, h1, g1, h2, g2, z0, up, T, F, Lo, Hi, Wk, Hg, U, T', F', Fr, Yr, U', Wd, f1, f2, f3, f4, f5, f6, f7, f8, f9, f10, f11, Ts, Fs, S, hWk, hHg, hU, hUm, hsd, hTs, hFs, hP, hD, hS, lv_sub hl [1, 2, 3, 0] rfl⟩
      refine lv_aload_n hC.1 hC.2.1 d_La_law_27 rfl (lv_at hl 0 rfl) ?_
      refine lv_iload_n hC.1 hC.2.1 d_La_law_28 rfl (lv_at hl 3 rfl) ?_
      refine z_sld hC hX hbl hbA hS (by omega) d_La_law_29 ?_
      refine z_bipush hC d_La_law_30 (by decide) ?_
      refine z_and15 hC (inI_of _) d_La_law_32 ?_
      obtain ⟨w, ew⟩ : ∃ w : Int, w = (xs i.toNat).toInt % 16 := ⟨_, rfl⟩
      rw [← ew]
      have hw : 0 ≤ w ∧ w < 16 := by omega
      rcases (show w = 0 ∨ w = 1 ∨ w = 2 ∨ w = 3 ∨ w = 4 ∨ w = 5 ∨ w = 6 ∨ w = 7 ∨ w = 8 ∨ w = 9 ∨ w = 10 ∨ 10 < w by omega) with hw33 | hw33 | hw33 | hw33 | hw33 | hw33 | hw33 | hw33 | hw33 | hw33 | hw33 | hw33
      · refine lv_tableIn (off := 59) (tgt := 92) hC.1 hC.2.1 d_La_law_33 (by rw [iI_toInt (by omega)]; omega) (by rw [iI_toInt (by omega)]; omega) (by rw [iI_toInt (by omega), hw33]; rfl) (by decide) ?_
        exact lN_seed hC hK hE hX hbl hcs0 hi S hWk hHg hU hUm hsd hP hD hS hl next
      · refine lv_tableIn (off := 82) (tgt := 115) hC.1 hC.2.1 d_La_law_33 (by rw [iI_toInt (by omega)]; omega) (by rw [iI_toInt (by omega)]; omega) (by rw [iI_toInt (by omega), hw33]; rfl) (by decide) ?_
        by_cases h7 : (xs (i + 7).toNat).toInt = 0
        · exact lN_placeF hC hK hE hX hbl hcs0 hi h7 S hWk hHg hU hUm hsd hP hD hS hl next
        · exact lN_placeT hC hK hE hX hbl hcs0 hi h7 S hWk hHg hU hUm hsd hP hD hS hl next
      · refine lv_tableIn (off := 185) (tgt := 218) hC.1 hC.2.1 d_La_law_33 (by rw [iI_toInt (by omega)]; omega) (by rw [iI_toInt (by omega)]; omega) (by rw [iI_toInt (by omega), hw33]; rfl) (by decide) ?_
        exact lN_remove hC hK hE hX hbl hcs0 hi S hWk hHg hU hUm hsd hP hD hS hl next
      · refine lv_tableIn (off := 208) (tgt := 241) hC.1 hC.2.1 d_La_law_33 (by rw [iI_toInt (by omega)]; omega) (by rw [iI_toInt (by omega)]; omega) (by rw [iI_toInt (by omega), hw33]; rfl) (by decide) ?_
        exact lN_inflate hC hK hE hX hbl hcs0 hi S hWk hHg hU hUm hsd hP hD hS hl next nextR
      · refine lv_tableIn (off := 221) (tgt := 254) hC.1 hC.2.1 d_La_law_33 (by rw [iI_toInt (by omega)]; omega) (by rw [iI_toInt (by omega)]; omega) (by rw [iI_toInt (by omega), hw33]; rfl) (by decide) ?_
        exact lN_deflate hC hK hE hX hbl hcs0 hi S hWk hHg hU hUm hsd hP hD hS hl next nextR
      · refine lv_tableIn (off := 234) (tgt := 267) hC.1 hC.2.1 d_La_law_33 (by rw [iI_toInt (by omega)]; omega) (by rw [iI_toInt (by omega)]; omega) (by rw [iI_toInt (by omega), hw33]; rfl) (by decide) ?_
        exact lN_clash hC hK hE hX hbl hcs0 hi S hWk hHg hU hUm hsd hP hD hS hl next
      · refine lv_tableIn (off := 247) (tgt := 280) hC.1 hC.2.1 d_La_law_33 (by rw [iI_toInt (by omega)]; omega) (by rw [iI_toInt (by omega)]; omega) (by rw [iI_toInt (by omega), hw33]; rfl) (by decide) ?_
        exact lN_count hC hK hE hX hbl hcs0 hi S hWk hHg hU hUm hsd hP hD hS hl next
      · refine lv_tableIn (off := 270) (tgt := 303) hC.1 hC.2.1 d_La_law_33 (by rw [iI_toInt (by omega)]; omega) (by rw [iI_toInt (by omega)]; omega) (by rw [iI_toInt (by omega), hw33]; rfl) (by decide) ?_
        exact lN_corner hC hK hE hX hbl hcs0 hi S hWk hHg hU hUm hsd hP hD hS hl next
      · refine lv_tableIn (off := 313) (tgt := 346) hC.1 hC.2.1 d_La_law_33 (by rw [iI_toInt (by omega)]; omega) (by rw [iI_toInt (by omega)]; omega) (by rw [iI_toInt (by omega), hw33]; rfl) (by decide) ?_
        exact lN_star hC hK hE hX hbl hcs0 hi S hWk hHg hU hUm hsd hP hD hS hl next
      · refine lv_tableIn (off := 356) (tgt := 389) hC.1 hC.2.1 d_La_law_33 (by rw [iI_toInt (by omega)]; omega) (by rw [iI_toInt (by omega)]; omega) (by rw [iI_toInt (by omega), hw33]; rfl) (by decide) ?_
        exact lN_inside hC hK hE hX hbl hcs0 hi S hWk hHg hU hUm hsd hP hD hS hl next
      · refine lv_tableIn (off := 409) (tgt := 442) hC.1 hC.2.1 d_La_law_33 (by rw [iI_toInt (by omega)]; omega) (by rw [iI_toInt (by omega)]; omega) (by rw [iI_toInt (by omega), hw33]; rfl) (by decide) ?_
        exact lN_steps hC hK hE hX hbl hcs0 hi S hWk hHg hU hUm hsd hP hD hS hl next
      · refine lv_tableOut (tgt := 496) hC.1 hC.2.1 d_La_law_33 (by rw [iI_toInt (by omega)]; omega) (by decide) ?_
        refine W.widen (k := 31 + 3 * k + 3) (n := 41368 + 5203 * k + 5203) (by omega) (by omega) ?_
        exact next H locs ls h
