/-! the law: its state -/
abbrev lwW (ao : Nat) (ad am : Nat → Nat) (cI cJ cB : ClassId) (n t : Nat) (A : Nat → List Nat) (ov : Nat → Int64) (RK GP : Nat → Nat) (sm : Int32) (F T M ST : Nat → Nat) (ln mn : Int32) (E : Nat → Nat) (th kp ma my rk : Nat) (F' T' M' WG GO Y V AT NX : Nat → Nat) : va_W :=
  oW ao cJ ov :: (cW ad cI cJ n t (cel t A) (hgt A) RK GP sm F T M ST ln mn E ++ mW am cI cJ cB th n t kp ma my rk (cel 4 A) F' T' M' WG GO Y V AT NX)
def lwR (n t : Nat) (A : Nat → List Nat) (RK F T M ST : Nat → Nat) (ln mn : Int32) (E : Nat → Nat) (kp ma my : Nat) (F' T' M' WG GO Y V : Nat → Nat) : Prop :=
  ab n t A ∧ (∀ j, RK j < 8) ∧ (∀ j, E j < 2 ^ 54) ∧ (∀ j, ST j < 2147483648) ∧ (my ≤ 30 ∧ kp < 2 ∧ ma < 3 ∧ (∀ j, F' j < 4 ∧ T' j < 4) ∧ (∀ j, WG j < 2147483648) ∧ (∀ j, GO j < 2147483648)) ∧ (∀ j, V j < 128) ∧ (∀ j, Y j < 2 ^ 63) ∧ kept n t ln mn F T M ST kp ma my F' T' M' WG
def lwS (D : va_G) (s : State) (ad am : Nat → Nat) (ao : Nat) (cI cJ cB : ClassId) (n t b i : Nat) (ls : Array Slot) (H : Heap) (locs : List Loc) : Prop :=
  ∃ (A : Nat → List Nat) (ov : Nat → Int64) (RK GP : Nat → Nat) (sm : Int32) (F T M ST : Nat → Nat) (ln mn : Int32) (E : Nat → Nat) (th kp ma my rk : Nat) (F' T' M' WG GO Y V AT NX : Nat → Nat),
    lwR n t A RK F T M ST ln mn E kp ma my F' T' M' WG GO Y V ∧ va_P D vwCl (lwW ao ad am cI cJ cB n t A ov RK GP sm F T M ST ln mn E th kp ma my rk F' T' M' WG GO Y V AT NX) H ∧ va_D (fun q => s.heap.size ≤ q) (lwW ao ad am cI cJ cB n t A ov RK GP sm F T M ST ln mn E th kp ma my rk F' T' M' WG GO Y V AT NX) ∧ va_S (fun q => s.heap.size ≤ q) s.heap H locs ∧ lv_has ls 7 [(0, .ref b), (1, .ref (ad 0)), (2, .ref (am 0)), (3, .ref ao), (4, .int (nI i))]
def lwC (l : Launch) (p : Program) (s : State) (m : MethodId) (c : Code) (b L : Nat) (xs : Nat → Int32) (dC : Nat → ClassId) (dI : Nat → Nat → Nat) (cI cJ cB : ClassId) : Prop :=
  p.tables.exec = Jvm.exec ∧ c.code = cL_law ∧ c.maxLocals = 7 ∧ s.vm.findClass RL = some m.cls ∧ (∀ w ∈ wsL_law, w.before #[Value.ref b] s = true) ∧ va_X b L xs s s.heap ∧ b < s.heap.size ∧ L ≤ 1538 ∧ va_K (dC, dI) vwCl [(cI, .int), (cJ, .long), (cB, .byte)] s ∧ nst s ∧ tws s ∧ tzq (fun q => s.heap.size ≤ q) s s.heap ∧ lst s ∧ l.stackTraces = false
theorem wl_eq {p : Program} {l : Launch} {e : Env} {R : Room} {s : State} {m : MethodId} {args : Array Value} {below : List Frame} {meth : Method} {c : Code} {H : Heap} {locs : List Loc} {cells slots : Nat} {Q : State → Prop} {cc : ByteArray} {pc : Nat} {ls : Array Slot} {rest : List Value} (hexec : p.tables.exec = Jvm.exec) (hb : c.code = cc) {x y : Int64} {off : Int} {tgt : Nat} (hd0 : decode cc pc = .ok (.lcmp, 1)) (hdg : decode cc (pc + 1) = .ok (.ifCond .eq off, 3)) (ht : ((pc + 1 : Nat) : Int) + off = (tgt : Int)) (h : x = y)
    (kt : W p l e R s m args below meth c H locs cells slots Q (F0 m tgt ls rest)) : W p l e R s m args below meth c H locs cells slots Q (F0 m pc ls (.long y :: .long x :: rest)) :=
  W.lcmp hexec hb hd0 (lv_if_eq hexec hb hdg ht (fun _ => kt) (fun q => absurd ((lg_cmp0 _ _).mpr h) q))
set_option maxHeartbeats 4000000 in
set_option maxRecDepth 100000 in
theorem law_put {p : Program} {l : Launch} {e : Env} {s : State} {m : MethodId} {below : List Frame} {meth : Method} {c : Code} {b L : Nat} {xs : Nat → Int32} {dC : Nat → ClassId} {dI : Nat → Nat → Nat} {ad am : Nat → Nat} {ao : Nat} {cI cJ cB : ClassId} {n t i : Nat} {ls : Array Slot} {H : Heap} {locs : List Loc} {cells slots : Nat} {Q : State → Prop} (C : lwC l p s m c b L xs dC dI cI cJ cB) (hn0 : 2 ≤ n ∧ n ≤ 4) (ht0 : 2 ≤ t ∧ t ≤ 4) (hi : i + 2 < L) (hcl : cells + 1 ≤ 601024) (hsl : slots + 6 ≤ 7293000) (h : lwS (dC, dI) s ad am ao cI cJ cB n t b i ls H locs)
    (kk : ∀ ls H locs, lwS (dC, dI) s ad am ao cI cJ cB n t b i ls H locs → W p l e room_1 s m #[Value.ref b] below meth c H locs (cells + 1) (slots + 6) Q (F0 m 603 ls [])) : W p l e room_1 s m #[Value.ref b] below meth c H locs cells slots Q (F0 m 112 ls []) := by
  obtain ⟨hx, hb, hml, hown, hts, hX, hbl, hL, hK, hN, hTw, hZ, hLs, hlt⟩ := C
  obtain ⟨A, ov, RK, GP, sm, F, T, M, ST, ln, mn, E, th, kp, ma, my, rk, F', T', M', WG, GO, Y, V, AT, NX, hR, hP, hD, hS, hl⟩ := h
  obtain ⟨hab, hR0, hE0, hS0, hbd, hV, hY, hkp⟩ := hR
  generalize hAe : (fun q : Nat => s.heap.size ≤ q) = A0 at hD hS hZ
  have hA : ∀ q : Nat, s.heap.size ≤ q → A0 q := fun q h => by rw [← hAe]; exact h
  have hbA : ¬ A0 b := by rw [← hAe]; exact Nat.not_le.mpr hbl
  have hKc := hK.sub (tys' := [(cI, .int), (cJ, .long)]) [0, 1] rfl
  have hcel : ∀ w j, cel w A j < 2147483648 := fun w j => by have := cel_lt (w := w) hab j; omega
  have hB0 : ∀ j, hgt A j ≤ 4 := fun j => by have := hgt_le hab j; omega
  have hH0 : ∀ j, hgt A j < 1000000 := fun j => by have := hB0 j; omega
  have hkpt := kept_kpt hn0.2 hkp hbd.1 hbd.2.2.1
  have h6 := nwr_6 hab hn0.2 ht0.2 GO
  have hmy := hbd.1
  refine lv_aload_n hx hb dL_law_112 rfl (lv_at hl 1 rfl) ?_
  refine lv_aload_n hx hb dL_law_113 rfl (lv_at hl 0 rfl) ?_
  refine lv_iload hx hb dL_law_114 (lv_at hl 4 rfl) ?_
  refine lv_iconst (v := nI 1) hx hb dL_law_116 (by decide +kernel) ?_
  refine wk_iadd hx hb dL_law_117 ?_
  refine va_sld hx hb hX hbl hbA hS (vp_in_nI (by omega) (by omega)) dL_law_118 ?_
  refine wk_ti (v' := xs (i + 1)) (by rw [nI_clamp (by omega)]) ?_
  refine lv_aload_n hx hb dL_law_119 rfl (lv_at hl 0 rfl) ?_
  refine lv_iload hx hb dL_law_120 (lv_at hl 4 rfl) ?_
  refine lv_iconst (v := nI 2) hx hb dL_law_122 (by decide +kernel) ?_
  refine wk_iadd hx hb dL_law_123 ?_
  refine va_sld hx hb hX hbl hbA hS (vp_in_nI (by omega) (by omega)) dL_law_124 ?_
  refine wk_ti (v' := xs (i + 2)) (by rw [nI_clamp (by omega)]) ?_
  refine lv_aload_n hx hb dL_law_125 rfl (lv_at hl 3 rfl) ?_
  have hPc := hP.sub (ws' := (oW ao cJ ov :: (cW ad cI cJ n t (cel t A) (hgt A) RK GP sm F T M ST ln mn E))) [0, 1, 2, 3, 4, 5, 6, 7, 8, 9, 10, 11, 12, 13, 14] rfl
  have hDc := hD.sub (ws' := (oW ao cJ ov :: (cW ad cI cJ n t (cel t A) (hgt A) RK GP sm F T M ST ln mn E))) [0, 1, 2, 3, 4, 5, 6, 7, 8, 9, 10, 11, 12, 13, 14] (by decide) rfl
  have hFc := va_free (wc := (oW ao cJ ov :: (cW ad cI cJ n t (cel t A) (hgt A) RK GP sm F T M ST ln mn E))) hD hS hA [0, 1, 2, 3, 4, 5, 6, 7, 8, 9, 10, 11, 12, 13, 14] rfl
  refine wr_go (vx_runSW (As := [.ref (ad 0), .int (xs (i + 1)), .int (xs (i + 2)), .ref ao]) (rest := []) ⟨hx, hb, hml, hown, hts⟩ (c_L_put l hlt dC dI ad cI cJ n t (cel t A) (hgt A) RK GP sm F T M ST ln mn E ao ov hn0 ht0 hB0 (xs (i + 1)) (xs (i + 2)) H.size) (vx_cwSW 4 hts gL_law_L_put rfl rfl rfl (by decide +kernel) ⟨Nat.le_of_ble_eq_true rfl, Nat.le_of_ble_eq_true rfl⟩) ⟨lo_blind, fun U hU hW => ⟨rfl, ⟨⟨⟨by rw [hU], by rw [hU]; exact hPc, va_K.moved hW.alike hKc, hDc.weaken (fun _ _ _ _ => trivial)⟩, nst_warm hW hN⟩, tws_warm hW hTw, by rw [hU]; exact tzq_moved hW.alike (tzq_narrow (tzq_kept hZ hS.2.1) hFc)⟩, lst_warm hW hLs⟩⟩ rfl rfl hl.1 rfl (lv_room (Nat.le_of_ble_eq_true rfl)) dL_law_126 ⟨hcl, hsl⟩) hS hFc hFc (fun r9 W9 H1 locs1 hpost hP1 hD1 hz9 hk9 hS => ?_)
  obtain ⟨A1, gv, hA1, rfl, rfl, hM1, hq1, hO1⟩ := put_p hab hn0 ht0 rfl rfl hpost
  obtain ⟨hP, hD⟩ := va_join (wr := (mW am cI cJ cB th n t kp ma my rk (cel 4 A) F' T' M' WG GO Y V AT NX)) (w1 := oW ao cJ gv :: (cW ad cI cJ n t (cel t A1) (hgt A1) RK GP sm F T M ST ln mn E)) hP hD [0, 1, 2, 3, 4, 5, 6, 7, 8, 9, 10, 11, 12, 13, 14] [15, 16, 17, 18, 19, 20, 21, 22, 23, 24, 25] rfl rfl (by decide) (by decide) hk9 hFc hP1 hD1
  have hP := hP.sub (ws' := (oW ao cJ gv :: ((cW ad cI cJ n t (cel t A1) (hgt A1) RK GP sm F T M ST ln mn E) ++ (mW am cI cJ cB th n t kp ma my rk (cel 4 A) F' T' M' WG GO Y V AT NX)))) [11, 12, 13, 14, 15, 16, 17, 18, 19, 20, 21, 22, 23, 24, 25, 0, 1, 2, 3, 4, 5, 6, 7, 8, 9, 10] rfl
  have hD := hD.sub (ws' := (oW ao cJ gv :: ((cW ad cI cJ n t (cel t A1) (hgt A1) RK GP sm F T M ST ln mn E) ++ (mW am cI cJ cB th n t kp ma my rk (cel 4 A) F' T' M' WG GO Y V AT NX)))) [11, 12, 13, 14, 15, 16, 17, 18, 19, 20, 21, 22, 23, 24, 25, 0, 1, 2, 3, 4, 5, 6, 7, 8, 9, 10] (by decide) rfl
  refine W.eq (g2 := F0 m 129 ls [.int (nI (qput n t (hgt A) (xs (i + 1)) (xs (i + 2))))]) rfl ?_
  refine lv_istore (lv' := [(5, .int (nI (qput n t (hgt A) (xs (i + 1)) (xs (i + 2))))), (0, .ref b), (1, .ref (ad 0)), (2, .ref (am 0)), (3, .ref ao), (4, .int (nI i))]) hx hb dL_law_129 hl (by decide) rfl (fun ls hl => ?_)
  refine lv_aload_n hx hb dL_law_131 rfl (lv_at hl 3 rfl) ?_
  refine lv_aload_n hx hb dL_law_132 rfl (lv_at hl 1 rfl) ?_
  refine lv_iload hx hb dL_law_133 (lv_at hl 5 rfl) ?_
  refine lv_iconst (v := nI 1) hx hb dL_law_135 (by decide +kernel) ?_
  refine wk_iadd hx hb dL_law_136 ?_
  refine va_sld hx hb hX hbl hbA hS (vp_in_nI (by omega) (by omega)) dL_law_137 ?_
  refine wk_ti (v' := xs (i + 1)) (by rw [nI_clamp (by omega)]) ?_
  refine lv_aload_n hx hb dL_law_138 rfl (lv_at hl 1 rfl) ?_
  refine lv_iload hx hb dL_law_139 (lv_at hl 5 rfl) ?_
  refine lv_iconst (v := nI 2) hx hb dL_law_141 (by decide +kernel) ?_
  refine wk_iadd hx hb dL_law_142 ?_
  refine va_sld hx hb hX hbl hbA hS (vp_in_nI (by omega) (by omega)) dL_law_143 ?_
  refine wk_ti (v' := xs (i + 2)) (by rw [nI_clamp (by omega)]) ?_
  have hPm := hP.sub (ws' := (mW am cI cJ cB th n t kp ma my rk (cel 4 A) F' T' M' WG GO Y V AT NX)) [15, 16, 17, 18, 19, 20, 21, 22, 23, 24, 25] rfl
  have hDm := hD.sub (ws' := (mW am cI cJ cB th n t kp ma my rk (cel 4 A) F' T' M' WG GO Y V AT NX)) [15, 16, 17, 18, 19, 20, 21, 22, 23, 24, 25] (by decide) rfl
  have hFm := va_free (wc := (mW am cI cJ cB th n t kp ma my rk (cel 4 A) F' T' M' WG GO Y V AT NX)) hD hS hA [15, 16, 17, 18, 19, 20, 21, 22, 23, 24, 25] rfl
  refine wr_go (va_runV (As := [.int (xs (i + 1)), .int (xs (i + 2))]) (rest := []) ⟨hx, hb, hml, hown, hts⟩ (c_X7_put l dC dI am cI cJ cB th n t kp ma my rk (cel 4 A) F' T' M' WG GO Y V AT NX hn0 ht0 (hcel 4) (xs (i + 1)) (xs (i + 2)) H1.size) (cwV 2 hts gL_law_X7_put rfl rfl rfl (by decide +kernel) ⟨Nat.le_of_ble_eq_true rfl, Nat.le_of_ble_eq_true rfl⟩) ⟨wr_blind, va_recv hK hPm (ci := 6) (q0 := 0) rfl rfl, fun U hU hW => ⟨rfl, by rw [hU], by rw [hU]; exact hPm, va_K.moved hW.alike hK, hDm.weaken (fun _ _ _ _ => trivial)⟩⟩ rfl rfl hl.1 rfl (lv_room (Nat.le_of_ble_eq_true rfl)) dL_law_144 ⟨hcl, hsl⟩) hS hFm hFm (fun r8 W8 H2 locs2 hpost hP2 hD2 hz8 hk8 hS => ?_)
  obtain ⟨rfl, rfl⟩ := hpost
  rw [hM1, hq1] at hP2 hD2
  obtain ⟨hP, hD⟩ := va_join (wr := oW ao cJ gv :: (cW ad cI cJ n t (cel t A1) (hgt A1) RK GP sm F T M ST ln mn E)) (w1 := (mW am cI cJ cB (qput n t (hgt A) (xs (i + 1)) (xs (i + 2))) n t kp ma my rk (cel 4 A1) F' T' M' WG GO Y V AT NX)) hP hD [15, 16, 17, 18, 19, 20, 21, 22, 23, 24, 25] [0, 1, 2, 3, 4, 5, 6, 7, 8, 9, 10, 11, 12, 13, 14] rfl rfl (by decide) (by decide) hk8 hFm hP2 hD2
  have hP : va_P (dC, dI) vwCl (lwW ao ad am cI cJ cB n t A1 gv RK GP sm F T M ST ln mn E (qput n t (hgt A) (xs (i + 1)) (xs (i + 2))) kp ma my rk F' T' M' WG GO Y V AT NX) H2 := hP
  have hD : va_D A0 (lwW ao ad am cI cJ cB n t A1 gv RK GP sm F T M ST ln mn E (qput n t (hgt A) (xs (i + 1)) (xs (i + 2))) kp ma my rk F' T' M' WG GO Y V AT NX) := hD
  refine W.eq (g2 := F0 m 147 ls [.int (nI (if kput n t (cel 4 A) (xs (i + 1)) (xs (i + 2)) = 0 then vput t (cel 4 A) (xs (i + 1)) else 0))]) rfl ?_
  refine lv_istore (lv' := [(6, .int (nI (if kput n t (cel 4 A) (xs (i + 1)) (xs (i + 2)) = 0 then vput t (cel 4 A) (xs (i + 1)) else 0))), (5, .int (nI (qput n t (hgt A) (xs (i + 1)) (xs (i + 2))))), (0, .ref b), (1, .ref (ad 0)), (2, .ref (am 0)), (3, .ref ao), (4, .int (nI i))]) hx hb dL_law_147 hl (by decide) rfl (fun ls hl => ?_)
  refine lv_aload_n hx hb dL_law_149 rfl (lv_at hl 4 rfl) ?_
  have hPm := hP.sub (ws' := (mW am cI cJ cB (qput n t (hgt A) (xs (i + 1)) (xs (i + 2))) n t kp ma my rk (cel 4 A1) F' T' M' WG GO Y V AT NX)) [15, 16, 17, 18, 19, 20, 21, 22, 23, 24, 25] rfl
  refine pu_go (va_runV (As := []) (rest := []) ⟨hx, hb, hml, hown, hts⟩ (c_X7_thrown l dC dI (mW am cI cJ cB (qput n t (hgt A) (xs (i + 1)) (xs (i + 2))) n t kp ma my rk (cel 4 A1) F' T' M' WG GO Y V AT NX) [(cI, .int), (cJ, .long), (cB, .byte)] (am 0) _ rfl (nI (qput n t (hgt A) (xs (i + 1)) (xs (i + 2)))) rfl) (cwV 0 hts gL_law_X7_thrown rfl rfl rfl (by decide +kernel) ⟨Nat.le_of_ble_eq_true rfl, Nat.le_of_ble_eq_true rfl⟩) ⟨ro_blind, va_recv hK hPm (ci := 6) (q0 := 0) rfl rfl, fun U hU hW => ⟨rfl, by rw [hU]; exact hPm, va_K.moved hW.alike hK⟩⟩ rfl rfl hl.1 rfl (lv_room (Nat.le_of_ble_eq_true rfl)) dL_law_150 ⟨hcl, hsl⟩) ?_
  refine lv_iload hx hb dL_law_153 (lv_at hl 1 rfl) ?_
  refine lv_icmp_eq (tgt := 160) hx hb dL_law_155 (by decide) (fun _ => ?_) (fun q => absurd rfl q)
  refine lv_iload hx hb dL_law_160 (lv_at hl 1 rfl) ?_
  refine lv_if_ne (tgt := 177) hx hb dL_law_162 (by decide) (fun _ => ?_) (fun c9 => ?_)
  · refine lv_goto (tgt := 603) hx hb dL_law_177 (by decide) ?_
    subst hAe
    exact kk _ _ _ ⟨A1, gv, RK, GP, sm, F, T, M, ST, ln, mn, E, qput n t (hgt A) (xs (i + 1)) (xs (i + 2)), kp, ma, my, rk, F', T', M', WG, GO, Y, V, AT, NX, ⟨hA1, hR0, hE0, hS0, hbd, hV, hY, hkp⟩, hP, hD, hS, lv_sub hl [2, 3, 4, 5, 6] rfl⟩
  · refine lv_aload_n hx hb dL_law_165 rfl (lv_at hl 5 rfl) ?_
    refine lv_iconst (v := nI 0) hx hb dL_law_166 (by decide +kernel) ?_
    refine va_lald hx hb hK hP 0 1 rfl rfl (vp_in_nI (by decide) (by decide)) dL_law_167 ?_
    refine lv_iload hx hb dL_law_168 (lv_at hl 0 rfl) ?_
    refine lv_i2l (v := (nI (if kput n t (cel 4 A) (xs (i + 1)) (xs (i + 2)) = 0 then vput t (cel 4 A) (xs (i + 1)) else 0)).toInt64) hx hb dL_law_170 rfl ?_
    refine wl_eq (tgt := 177) hx hb dL_law_171 dL_law_172 (by decide) (by rw [nI_clamp (by decide)]; exact hO1 (nI_z qput_le c9)) ?_
    refine lv_goto (tgt := 603) hx hb dL_law_177 (by decide) ?_
    subst hAe
    exact kk _ _ _ ⟨A1, gv, RK, GP, sm, F, T, M, ST, ln, mn, E, qput n t (hgt A) (xs (i + 1)) (xs (i + 2)), kp, ma, my, rk, F', T', M', WG, GO, Y, V, AT, NX, ⟨hA1, hR0, hE0, hS0, hbd, hV, hY, hkp⟩, hP, hD, hS, lv_sub hl [2, 3, 4, 5, 6] rfl⟩
