set_option maxHeartbeats 4000000 in
set_option maxRecDepth 100000 in
theorem law_off {p : Program} {l : Launch} {e : Env} {s : State} {m : MethodId} {below : List Frame} {meth : Method} {c : Code} {b L : Nat} {xs : Nat → Int32} {dC : Nat → ClassId} {dI : Nat → Nat → Nat} {ad am : Nat → Nat} {ao : Nat} {cI cJ cB : ClassId} {n t i : Nat} {ls : Array Slot} {H : Heap} {locs : List Loc} {cells slots : Nat} {Q : State → Prop} (C : lwC l p s m c b L xs dC dI cI cJ cB) (hn0 : 2 ≤ n ∧ n ≤ 4) (ht0 : 2 ≤ t ∧ t ≤ 4) (hi : i + 2 < L) (hcl : cells + 1 ≤ 601024) (hsl : slots + 6 ≤ 7293000) (h : lwS (dC, dI) s ad am ao cI cJ cB n t b i ls H locs)
    (kk : ∀ ls H locs, lwS (dC, dI) s ad am ao cI cJ cB n t b i ls H locs → W p l e room_1 s m #[Value.ref b] below meth c H locs (cells + 1) (slots + 6) Q (F0 m 603 ls [])) : W p l e room_1 s m #[Value.ref b] below meth c H locs cells slots Q (F0 m 180 ls []) := by
  obtain ⟨hx, hb, hml, hown, hts, hX, hbl, hL, hK, hN, hTw, hZ, hLs, hlt⟩ := C
  obtain ⟨A, ov, RK, GP, sm, F, T, M, ST, ln, mn, E, th, kp, ma, my, rk, F', T', M', WG, GO, Y, V, AT, NX, hR, hP, hD, hS, hl⟩ := h
  obtain ⟨hab, hR0, hE0, hS0, hbd, hV, hY, hkp⟩ := hR
  generalize hAe : (fun q : Nat => s.heap.size ≤ q) = A0 at hD hS hZ
  have hA : ∀ q : Nat, s.heap.size ≤ q → A0 q := fun q h => by rw [← hAe]; exact h
  have hbA : ¬ A0 b := by rw [← hAe]; exact Nat.not_le.mpr hbl
  have hKc := hK.sub (tys' := [(cI, .int), (cJ, .long)]) [0, 1] rfl
  have hcel : ∀ w j, cel w A j < 2147483648 := fun w j => by have := cel_lt (w := w) hab j; omega
  have hB0 : ∀ j, hgt A j ≤ 4 := fun j => by have := hgt_le hab j; omega
  have hH0 : ∀ j, hgt A j < 1000000 := fun j => by have := hB0 j; omega
  have hkpt := kept_kpt hn0.2 hkp hbd.1 hbd.2.2.1
  have h6 := nwr_6 hab hn0.2 ht0.2 GO
  have hmy := hbd.1
  refine lv_aload_n hx hb dL_law_180 rfl (lv_at hl 1 rfl) ?_
  refine lv_aload_n hx hb dL_law_181 rfl (lv_at hl 0 rfl) ?_
  refine lv_iload hx hb dL_law_182 (lv_at hl 4 rfl) ?_
  refine lv_iconst (v := nI 1) hx hb dL_law_184 (by decide +kernel) ?_
  refine wk_iadd hx hb dL_law_185 ?_
  refine va_sld hx hb hX hbl hbA hS (vp_in_nI (by omega) (by omega)) dL_law_186 ?_
  refine wk_ti (v' := xs (i + 1)) (by rw [nI_clamp (by omega)]) ?_
  refine lv_aload_n hx hb dL_law_187 rfl (lv_at hl 3 rfl) ?_
  have hPc := hP.sub (ws' := (oW ao cJ ov :: (cW ad cI cJ n t (cel t A) (hgt A) RK GP sm F T M ST ln mn E))) [0, 1, 2, 3, 4, 5, 6, 7, 8, 9, 10, 11, 12, 13, 14] rfl
  have hDc := hD.sub (ws' := (oW ao cJ ov :: (cW ad cI cJ n t (cel t A) (hgt A) RK GP sm F T M ST ln mn E))) [0, 1, 2, 3, 4, 5, 6, 7, 8, 9, 10, 11, 12, 13, 14] (by decide) rfl
  have hFc := va_free (wc := (oW ao cJ ov :: (cW ad cI cJ n t (cel t A) (hgt A) RK GP sm F T M ST ln mn E))) hD hS hA [0, 1, 2, 3, 4, 5, 6, 7, 8, 9, 10, 11, 12, 13, 14] rfl
  refine wr_go (vx_runSW (As := [.ref (ad 0), .int (xs (i + 1)), .ref ao]) (rest := []) ⟨hx, hb, hml, hown, hts⟩ (c_L_off l hlt dC dI ad cI cJ n t (cel t A) (hgt A) RK GP sm F T M ST ln mn E ao ov hn0 ht0 hB0 (xs (i + 1)) (hgt_le hab) H.size) (vx_cwSW 3 hts gL_law_L_off rfl rfl rfl (by decide +kernel) ⟨Nat.le_of_ble_eq_true rfl, Nat.le_of_ble_eq_true rfl⟩) ⟨lo_blind, fun U hU hW => ⟨rfl, ⟨⟨⟨by rw [hU], by rw [hU]; exact hPc, va_K.moved hW.alike hKc, hDc.weaken (fun _ _ _ _ => trivial)⟩, nst_warm hW hN⟩, tws_warm hW hTw, by rw [hU]; exact tzq_moved hW.alike (tzq_narrow (tzq_kept hZ hS.2.1) hFc)⟩, lst_warm hW hLs⟩⟩ rfl rfl hl.1 rfl (lv_room (Nat.le_of_ble_eq_true rfl)) dL_law_188 ⟨hcl, hsl⟩) hS hFc hFc (fun r9 W9 H1 locs1 hpost hP1 hD1 hz9 hk9 hS => ?_)
  obtain ⟨A1, gv, hA1, rfl, rfl, hM1, hq1, hO1⟩ := off_p hab hn0 ht0 rfl rfl hpost
  obtain ⟨hP, hD⟩ := va_join (wr := (mW am cI cJ cB th n t kp ma my rk (cel 4 A) F' T' M' WG GO Y V AT NX)) (w1 := oW ao cJ gv :: (cW ad cI cJ n t (cel t A1) (hgt A1) RK GP sm F T M ST ln mn E)) hP hD [0, 1, 2, 3, 4, 5, 6, 7, 8, 9, 10, 11, 12, 13, 14] [15, 16, 17, 18, 19, 20, 21, 22, 23, 24, 25] rfl rfl (by decide) (by decide) hk9 hFc hP1 hD1
  have hP := hP.sub (ws' := (oW ao cJ gv :: ((cW ad cI cJ n t (cel t A1) (hgt A1) RK GP sm F T M ST ln mn E) ++ (mW am cI cJ cB th n t kp ma my rk (cel 4 A) F' T' M' WG GO Y V AT NX)))) [11, 12, 13, 14, 15, 16, 17, 18, 19, 20, 21, 22, 23, 24, 25, 0, 1, 2, 3, 4, 5, 6, 7, 8, 9, 10] rfl
  have hD := hD.sub (ws' := (oW ao cJ gv :: ((cW ad cI cJ n t (cel t A1) (hgt A1) RK GP sm F T M ST ln mn E) ++ (mW am cI cJ cB th n t kp ma my rk (cel 4 A) F' T' M' WG GO Y V AT NX)))) [11, 12, 13, 14, 15, 16, 17, 18, 19, 20, 21, 22, 23, 24, 25, 0, 1, 2, 3, 4, 5, 6, 7, 8, 9, 10] (by decide) rfl
  refine W.eq (g2 := F0 m 191 ls [.int (nI (qoff n (hgt A) (xs (i + 1))))]) rfl ?_
  refine lv_istore (lv' := [(5, .int (nI (qoff n (hgt A) (xs (i + 1))))), (0, .ref b), (1, .ref (ad 0)), (2, .ref (am 0)), (3, .ref ao), (4, .int (nI i))]) hx hb dL_law_191 hl (by decide) rfl (fun ls hl => ?_)
  refine lv_aload_n hx hb dL_law_193 rfl (lv_at hl 3 rfl) ?_
  refine lv_aload_n hx hb dL_law_194 rfl (lv_at hl 1 rfl) ?_
  refine lv_iload hx hb dL_law_195 (lv_at hl 5 rfl) ?_
  refine lv_iconst (v := nI 1) hx hb dL_law_197 (by decide +kernel) ?_
  refine wk_iadd hx hb dL_law_198 ?_
  refine va_sld hx hb hX hbl hbA hS (vp_in_nI (by omega) (by omega)) dL_law_199 ?_
  refine wk_ti (v' := xs (i + 1)) (by rw [nI_clamp (by omega)]) ?_
  have hPm := hP.sub (ws' := (mW am cI cJ cB th n t kp ma my rk (cel 4 A) F' T' M' WG GO Y V AT NX)) [15, 16, 17, 18, 19, 20, 21, 22, 23, 24, 25] rfl
  have hDm := hD.sub (ws' := (mW am cI cJ cB th n t kp ma my rk (cel 4 A) F' T' M' WG GO Y V AT NX)) [15, 16, 17, 18, 19, 20, 21, 22, 23, 24, 25] (by decide) rfl
  have hFm := va_free (wc := (mW am cI cJ cB th n t kp ma my rk (cel 4 A) F' T' M' WG GO Y V AT NX)) hD hS hA [15, 16, 17, 18, 19, 20, 21, 22, 23, 24, 25] rfl
  refine wr_go (va_runV (As := [.int (xs (i + 1))]) (rest := []) ⟨hx, hb, hml, hown, hts⟩ (c_X7_off l dC dI am cI cJ cB th n t kp ma my rk (cel 4 A) F' T' M' WG GO Y V AT NX hn0 ht0 (hcel 4) (xs (i + 1)) H1.size) (cwV 1 hts gL_law_X7_off rfl rfl rfl (by decide +kernel) ⟨Nat.le_of_ble_eq_true rfl, Nat.le_of_ble_eq_true rfl⟩) ⟨wr_blind, va_recv hK hPm (ci := 6) (q0 := 0) rfl rfl, fun U hU hW => ⟨rfl, by rw [hU], by rw [hU]; exact hPm, va_K.moved hW.alike hK, hDm.weaken (fun _ _ _ _ => trivial)⟩⟩ rfl rfl hl.1 rfl (lv_room (Nat.le_of_ble_eq_true rfl)) dL_law_200 ⟨hcl, hsl⟩) hS hFm hFm (fun r8 W8 H2 locs2 hpost hP2 hD2 hz8 hk8 hS => ?_)
  obtain ⟨rfl, rfl⟩ := hpost
  rw [hM1, hq1] at hP2 hD2
  obtain ⟨hP, hD⟩ := va_join (wr := oW ao cJ gv :: (cW ad cI cJ n t (cel t A1) (hgt A1) RK GP sm F T M ST ln mn E)) (w1 := (mW am cI cJ cB (qoff n (hgt A) (xs (i + 1))) n t kp ma my rk (cel 4 A1) F' T' M' WG GO Y V AT NX)) hP hD [15, 16, 17, 18, 19, 20, 21, 22, 23, 24, 25] [0, 1, 2, 3, 4, 5, 6, 7, 8, 9, 10, 11, 12, 13, 14] rfl rfl (by decide) (by decide) hk8 hFm hP2 hD2
  have hP : va_P (dC, dI) vwCl (lwW ao ad am cI cJ cB n t A1 gv RK GP sm F T M ST ln mn E (qoff n (hgt A) (xs (i + 1))) kp ma my rk F' T' M' WG GO Y V AT NX) H2 := hP
  have hD : va_D A0 (lwW ao ad am cI cJ cB n t A1 gv RK GP sm F T M ST ln mn E (qoff n (hgt A) (xs (i + 1))) kp ma my rk F' T' M' WG GO Y V AT NX) := hD
  refine W.eq (g2 := F0 m 203 ls [.int (nI (if koff n t (cel 4 A) (xs (i + 1)) = 0 then voff t (cel 4 A) (xs (i + 1)) else 0))]) rfl ?_
  refine lv_istore (lv' := [(6, .int (nI (if koff n t (cel 4 A) (xs (i + 1)) = 0 then voff t (cel 4 A) (xs (i + 1)) else 0))), (5, .int (nI (qoff n (hgt A) (xs (i + 1))))), (0, .ref b), (1, .ref (ad 0)), (2, .ref (am 0)), (3, .ref ao), (4, .int (nI i))]) hx hb dL_law_203 hl (by decide) rfl (fun ls hl => ?_)
  refine lv_aload_n hx hb dL_law_205 rfl (lv_at hl 4 rfl) ?_
  have hPm := hP.sub (ws' := (mW am cI cJ cB (qoff n (hgt A) (xs (i + 1))) n t kp ma my rk (cel 4 A1) F' T' M' WG GO Y V AT NX)) [15, 16, 17, 18, 19, 20, 21, 22, 23, 24, 25] rfl
  refine pu_go (va_runV (As := []) (rest := []) ⟨hx, hb, hml, hown, hts⟩ (c_X7_thrown l dC dI (mW am cI cJ cB (qoff n (hgt A) (xs (i + 1))) n t kp ma my rk (cel 4 A1) F' T' M' WG GO Y V AT NX) [(cI, .int), (cJ, .long), (cB, .byte)] (am 0) _ rfl (nI (qoff n (hgt A) (xs (i + 1)))) rfl) (cwV 0 hts gL_law_X7_thrown rfl rfl rfl (by decide +kernel) ⟨Nat.le_of_ble_eq_true rfl, Nat.le_of_ble_eq_true rfl⟩) ⟨ro_blind, va_recv hK hPm (ci := 6) (q0 := 0) rfl rfl, fun U hU hW => ⟨rfl, by rw [hU]; exact hPm, va_K.moved hW.alike hK⟩⟩ rfl rfl hl.1 rfl (lv_room (Nat.le_of_ble_eq_true rfl)) dL_law_206 ⟨hcl, hsl⟩) ?_
  refine lv_iload hx hb dL_law_209 (lv_at hl 1 rfl) ?_
  refine lv_icmp_eq (tgt := 216) hx hb dL_law_211 (by decide) (fun _ => ?_) (fun q => absurd rfl q)
  refine lv_iload hx hb dL_law_216 (lv_at hl 1 rfl) ?_
  refine lv_if_ne (tgt := 233) hx hb dL_law_218 (by decide) (fun _ => ?_) (fun c9 => ?_)
  · refine lv_goto (tgt := 603) hx hb dL_law_233 (by decide) ?_
    subst hAe
    exact kk _ _ _ ⟨A1, gv, RK, GP, sm, F, T, M, ST, ln, mn, E, qoff n (hgt A) (xs (i + 1)), kp, ma, my, rk, F', T', M', WG, GO, Y, V, AT, NX, ⟨hA1, hR0, hE0, hS0, hbd, hV, hY, hkp⟩, hP, hD, hS, lv_sub hl [2, 3, 4, 5, 6] rfl⟩
  · refine lv_aload_n hx hb dL_law_221 rfl (lv_at hl 5 rfl) ?_
    refine lv_iconst (v := nI 0) hx hb dL_law_222 (by decide +kernel) ?_
    refine va_lald hx hb hK hP 0 1 rfl rfl (vp_in_nI (by decide) (by decide)) dL_law_223 ?_
    refine lv_iload hx hb dL_law_224 (lv_at hl 0 rfl) ?_
    refine lv_i2l (v := (nI (if koff n t (cel 4 A) (xs (i + 1)) = 0 then voff t (cel 4 A) (xs (i + 1)) else 0)).toInt64) hx hb dL_law_226 rfl ?_
    refine wl_eq (tgt := 233) hx hb dL_law_227 dL_law_228 (by decide) (by rw [nI_clamp (by decide)]; exact hO1 (nI_z qoff_le c9)) ?_
    refine lv_goto (tgt := 603) hx hb dL_law_233 (by decide) ?_
    subst hAe
    exact kk _ _ _ ⟨A1, gv, RK, GP, sm, F, T, M, ST, ln, mn, E, qoff n (hgt A) (xs (i + 1)), kp, ma, my, rk, F', T', M', WG, GO, Y, V, AT, NX, ⟨hA1, hR0, hE0, hS0, hbd, hV, hY, hkp⟩, hP, hD, hS, lv_sub hl [2, 3, 4, 5, 6] rfl⟩
set_option maxHeartbeats 4000000 in
set_option maxRecDepth 100000 in
theorem law_solve {p : Program} {l : Launch} {e : Env} {s : State} {m : MethodId} {below : List Frame} {meth : Method} {c : Code} {b L : Nat} {xs : Nat → Int32} {dC : Nat → ClassId} {dI : Nat → Nat → Nat} {ad am : Nat → Nat} {ao : Nat} {cI cJ cB : ClassId} {n t i : Nat} {ls : Array Slot} {H : Heap} {locs : List Loc} {cells slots : Nat} {Q : State → Prop} (C : lwC l p s m c b L xs dC dI cI cJ cB) (hn0 : 2 ≤ n ∧ n ≤ 4) (ht0 : 2 ≤ t ∧ t ≤ 4) (hi : i + 2 < L) (hcl : cells + 1 ≤ 601024) (hsl : slots + 6 ≤ 7293000) (h : lwS (dC, dI) s ad am ao cI cJ cB n t b i ls H locs)
    (kk : ∀ ls H locs, lwS (dC, dI) s ad am ao cI cJ cB n t b i ls H locs → W p l e room_1 s m #[Value.ref b] below meth c H locs (cells + 1) (slots + 6) Q (F0 m 603 ls [])) : W p l e room_1 s m #[Value.ref b] below meth c H locs cells slots Q (F0 m 236 ls []) := by
  obtain ⟨hx, hb, hml, hown, hts, hX, hbl, hL, hK, hN, hTw, hZ, hLs, hlt⟩ := C
  obtain ⟨A, ov, RK, GP, sm, F, T, M, ST, ln, mn, E, th, kp, ma, my, rk, F', T', M', WG, GO, Y, V, AT, NX, hR, hP, hD, hS, hl⟩ := h
  obtain ⟨hab, hR0, hE0, hS0, hbd, hV, hY, hkp⟩ := hR
  generalize hAe : (fun q : Nat => s.heap.size ≤ q) = A0 at hD hS hZ
  have hA : ∀ q : Nat, s.heap.size ≤ q → A0 q := fun q h => by rw [← hAe]; exact h
  have hbA : ¬ A0 b := by rw [← hAe]; exact Nat.not_le.mpr hbl
  have hKc := hK.sub (tys' := [(cI, .int), (cJ, .long)]) [0, 1] rfl
  have hcel : ∀ w j, cel w A j < 2147483648 := fun w j => by have := cel_lt (w := w) hab j; omega
  have hB0 : ∀ j, hgt A j ≤ 4 := fun j => by have := hgt_le hab j; omega
  have hH0 : ∀ j, hgt A j < 1000000 := fun j => by have := hB0 j; omega
  have hkpt := kept_kpt hn0.2 hkp hbd.1 hbd.2.2.1
  have h6 := nwr_6 hab hn0.2 ht0.2 GO
  have hmy := hbd.1
  have hyd := yd_ok hab hn0.2
  refine lv_aload_n hx hb dL_law_236 rfl (lv_at hl 1 rfl) ?_
  refine lv_aload_n hx hb dL_law_237 rfl (lv_at hl 0 rfl) ?_
  refine lv_iload hx hb dL_law_238 (lv_at hl 4 rfl) ?_
  refine lv_iconst (v := nI 1) hx hb dL_law_240 (by decide +kernel) ?_
  refine wk_iadd hx hb dL_law_241 ?_
  refine va_sld hx hb hX hbl hbA hS (vp_in_nI (by omega) (by omega)) dL_law_242 ?_
  refine wk_ti (v' := xs (i + 1)) (by rw [nI_clamp (by omega)]) ?_
  refine lv_aload_n hx hb dL_law_243 rfl (lv_at hl 0 rfl) ?_
  refine lv_iload hx hb dL_law_244 (lv_at hl 4 rfl) ?_
  refine lv_iconst (v := nI 2) hx hb dL_law_246 (by decide +kernel) ?_
  refine wk_iadd hx hb dL_law_247 ?_
  refine va_sld hx hb hX hbl hbA hS (vp_in_nI (by omega) (by omega)) dL_law_248 ?_
  refine wk_ti (v' := xs (i + 2)) (by rw [nI_clamp (by omega)]) ?_
  refine lv_aload_n hx hb dL_law_249 rfl (lv_at hl 3 rfl) ?_
  have hPc := hP.sub (ws' := (oW ao cJ ov :: (cW ad cI cJ n t (cel t A) (hgt A) RK GP sm F T M ST ln mn E))) [0, 1, 2, 3, 4, 5, 6, 7, 8, 9, 10, 11, 12, 13, 14] rfl
  have hDc := hD.sub (ws' := (oW ao cJ ov :: (cW ad cI cJ n t (cel t A) (hgt A) RK GP sm F T M ST ln mn E))) [0, 1, 2, 3, 4, 5, 6, 7, 8, 9, 10, 11, 12, 13, 14] (by decide) rfl
  have hFc := va_free (wc := (oW ao cJ ov :: (cW ad cI cJ n t (cel t A) (hgt A) RK GP sm F T M ST ln mn E))) hD hS hA [0, 1, 2, 3, 4, 5, 6, 7, 8, 9, 10, 11, 12, 13, 14] rfl
  refine wr_go (vx_runSW (As := [.ref (ad 0), .int (xs (i + 1)), .int (xs (i + 2)), .ref ao]) (rest := []) ⟨hx, hb, hml, hown, hts⟩ (c_L_solve l hlt dC dI ad cI cJ n t (cel t A) (hgt A) RK GP sm F T M ST ln mn E ao ov hn0 ht0 (hcel t) hH0 hR0 hE0 (yd A) hyd.1 hyd.2 (pks_yd hab hn0.2 ht0 RK GP) (xs (i + 1)) (xs (i + 2)) H.size) (vx_cwSW 4 hts gL_law_L_solve rfl rfl rfl (by decide +kernel) ⟨Nat.le_of_ble_eq_true rfl, Nat.le_of_ble_eq_true rfl⟩) ⟨lo_blind, fun U hU hW => ⟨rfl, ⟨⟨⟨by rw [hU], by rw [hU]; exact hPc, va_K.moved hW.alike hKc, hDc.weaken (fun _ _ _ _ => trivial)⟩, nst_warm hW hN⟩, tws_warm hW hTw, by rw [hU]; exact tzq_moved hW.alike (tzq_narrow (tzq_kept hZ hS.2.1) hFc)⟩, lst_warm hW hLs⟩⟩ rfl rfl hl.1 rfl (lv_room (Nat.le_of_ble_eq_true rfl)) dL_law_250 ⟨hcl, hsl⟩) hS hFc hFc (fun r9 W9 H1 locs1 hpost hP1 hD1 hz9 hk9 hS => ?_)
  obtain ⟨gv, RK1, GP1, sm1, F1, T1, M1, ST1, ln1, mn1, E1, rfl, rfl, hR1, hE1, hS1, hsr⟩ := solve_p hab hn0 ht0 rfl rfl hR0 hE0 hS0 hpost
  obtain ⟨hP, hD⟩ := va_join (wr := (mW am cI cJ cB th n t kp ma my rk (cel 4 A) F' T' M' WG GO Y V AT NX)) (w1 := oW ao cJ gv :: (cW ad cI cJ n t (cel t A) (hgt A) RK1 GP1 sm1 F1 T1 M1 ST1 ln1 mn1 E1)) hP hD [0, 1, 2, 3, 4, 5, 6, 7, 8, 9, 10, 11, 12, 13, 14] [15, 16, 17, 18, 19, 20, 21, 22, 23, 24, 25] rfl rfl (by decide) (by decide) hk9 hFc hP1 hD1
  have hP := hP.sub (ws' := (oW ao cJ gv :: ((cW ad cI cJ n t (cel t A) (hgt A) RK1 GP1 sm1 F1 T1 M1 ST1 ln1 mn1 E1) ++ (mW am cI cJ cB th n t kp ma my rk (cel 4 A) F' T' M' WG GO Y V AT NX)))) [11, 12, 13, 14, 15, 16, 17, 18, 19, 20, 21, 22, 23, 24, 25, 0, 1, 2, 3, 4, 5, 6, 7, 8, 9, 10] rfl
  have hD := hD.sub (ws' := (oW ao cJ gv :: ((cW ad cI cJ n t (cel t A) (hgt A) RK1 GP1 sm1 F1 T1 M1 ST1 ln1 mn1 E1) ++ (mW am cI cJ cB th n t kp ma my rk (cel 4 A) F' T' M' WG GO Y V AT NX)))) [11, 12, 13, 14, 15, 16, 17, 18, 19, 20, 21, 22, 23, 24, 25, 0, 1, 2, 3, 4, 5, 6, 7, 8, 9, 10] (by decide) rfl
  refine W.eq (g2 := F0 m 253 ls [.int (nI (qsv (xs (i + 1)) (xs (i + 2))))]) rfl ?_
  refine lv_istore (lv' := [(5, .int (nI (qsv (xs (i + 1)) (xs (i + 2))))), (0, .ref b), (1, .ref (ad 0)), (2, .ref (am 0)), (3, .ref ao), (4, .int (nI i))]) hx hb dL_law_253 hl (by decide) rfl (fun ls hl => ?_)
  refine lv_aload_n hx hb dL_law_255 rfl (lv_at hl 3 rfl) ?_
  refine lv_aload_n hx hb dL_law_256 rfl (lv_at hl 1 rfl) ?_
  refine lv_iload hx hb dL_law_257 (lv_at hl 5 rfl) ?_
  refine lv_iconst (v := nI 1) hx hb dL_law_259 (by decide +kernel) ?_
  refine wk_iadd hx hb dL_law_260 ?_
  refine va_sld hx hb hX hbl hbA hS (vp_in_nI (by omega) (by omega)) dL_law_261 ?_
  refine wk_ti (v' := xs (i + 1)) (by rw [nI_clamp (by omega)]) ?_
  refine lv_aload_n hx hb dL_law_262 rfl (lv_at hl 1 rfl) ?_
  refine lv_iload hx hb dL_law_263 (lv_at hl 5 rfl) ?_
  refine lv_iconst (v := nI 2) hx hb dL_law_265 (by decide +kernel) ?_
  refine wk_iadd hx hb dL_law_266 ?_
  refine va_sld hx hb hX hbl hbA hS (vp_in_nI (by omega) (by omega)) dL_law_267 ?_
  refine wk_ti (v' := xs (i + 2)) (by rw [nI_clamp (by omega)]) ?_
  have hPm := hP.sub (ws' := (mW am cI cJ cB th n t kp ma my rk (cel 4 A) F' T' M' WG GO Y V AT NX)) [15, 16, 17, 18, 19, 20, 21, 22, 23, 24, 25] rfl
  have hDm := hD.sub (ws' := (mW am cI cJ cB th n t kp ma my rk (cel 4 A) F' T' M' WG GO Y V AT NX)) [15, 16, 17, 18, 19, 20, 21, 22, 23, 24, 25] (by decide) rfl
  have hFm := va_free (wc := (mW am cI cJ cB th n t kp ma my rk (cel 4 A) F' T' M' WG GO Y V AT NX)) hD hS hA [15, 16, 17, 18, 19, 20, 21, 22, 23, 24, 25] rfl
  refine wr_go (va_runV (As := [.int (xs (i + 1)), .int (xs (i + 2))]) (rest := []) ⟨hx, hb, hml, hown, hts⟩ (c_X7_solve l dC dI am cI cJ cB th n t kp ma my rk (cel 4 A) F' T' M' WG GO Y V AT NX hn0 ht0 (hcel 4) hbd.2.2.2.2.2 h6 hV hY hbd.2.2.2.1 hbd.1 hbd.2.1 hbd.2.2.1 (yd A) hyd.1 hyd.2 (nwy_mE hab hn0.2 ht0.2 GO) (xs (i + 1)) (xs (i + 2)) H1.size) (cwV 2 hts gL_law_X7_solve rfl rfl rfl (by decide +kernel) ⟨Nat.le_of_ble_eq_true rfl, Nat.le_of_ble_eq_true rfl⟩) ⟨wr_blind, va_recv hK hPm (ci := 6) (q0 := 0) rfl rfl, fun U hU hW => ⟨rfl, by rw [hU], by rw [hU]; exact hPm, va_K.moved hW.alike hK, hDm.weaken (fun _ _ _ _ => trivial)⟩⟩ rfl rfl hl.1 rfl (lv_room (Nat.le_of_ble_eq_true rfl)) dL_law_268 ⟨hcl, hsl⟩) hS hFm hFm (fun r8 W8 H2 locs2 hpost hP2 hD2 hz8 hk8 hS => ?_)
  obtain ⟨rb, kp1, ma1, my1, rk1, F2, T2, M2, WG2, GO2, Y2, V2, AT2, NX2, rfl, rfl, hbd1, hV1, hY1, hk1, hO1⟩ := sol_m hab hn0 ht0 hkp hsr hbd hV hY (th := th) hpost
  obtain ⟨hP, hD⟩ := va_join (wr := oW ao cJ gv :: (cW ad cI cJ n t (cel t A) (hgt A) RK1 GP1 sm1 F1 T1 M1 ST1 ln1 mn1 E1)) (w1 := (mW am cI cJ cB (qsv (xs (i + 1)) (xs (i + 2))) n t kp1 ma1 my1 rk1 (cel 4 A) F2 T2 M2 WG2 GO2 Y2 V2 AT2 NX2)) hP hD [15, 16, 17, 18, 19, 20, 21, 22, 23, 24, 25] [0, 1, 2, 3, 4, 5, 6, 7, 8, 9, 10, 11, 12, 13, 14] rfl rfl (by decide) (by decide) hk8 hFm hP2 hD2
  have hP : va_P (dC, dI) vwCl (lwW ao ad am cI cJ cB n t A gv RK1 GP1 sm1 F1 T1 M1 ST1 ln1 mn1 E1 (qsv (xs (i + 1)) (xs (i + 2))) kp1 ma1 my1 rk1 F2 T2 M2 WG2 GO2 Y2 V2 AT2 NX2) H2 := hP
  have hD : va_D A0 (lwW ao ad am cI cJ cB n t A gv RK1 GP1 sm1 F1 T1 M1 ST1 ln1 mn1 E1 (qsv (xs (i + 1)) (xs (i + 2))) kp1 ma1 my1 rk1 F2 T2 M2 WG2 GO2 Y2 V2 AT2 NX2) := hD
  refine W.eq (g2 := F0 m 271 ls [.int (rb)]) rfl ?_
  refine lv_istore (lv' := [(6, .int rb), (5, .int (nI (qsv (xs (i + 1)) (xs (i + 2))))), (0, .ref b), (1, .ref (ad 0)), (2, .ref (am 0)), (3, .ref ao), (4, .int (nI i))]) hx hb dL_law_271 hl (by decide) rfl (fun ls hl => ?_)
  refine lv_aload_n hx hb dL_law_273 rfl (lv_at hl 4 rfl) ?_
  have hPm := hP.sub (ws' := (mW am cI cJ cB (qsv (xs (i + 1)) (xs (i + 2))) n t kp1 ma1 my1 rk1 (cel 4 A) F2 T2 M2 WG2 GO2 Y2 V2 AT2 NX2)) [15, 16, 17, 18, 19, 20, 21, 22, 23, 24, 25] rfl
  refine pu_go (va_runV (As := []) (rest := []) ⟨hx, hb, hml, hown, hts⟩ (c_X7_thrown l dC dI (mW am cI cJ cB (qsv (xs (i + 1)) (xs (i + 2))) n t kp1 ma1 my1 rk1 (cel 4 A) F2 T2 M2 WG2 GO2 Y2 V2 AT2 NX2) [(cI, .int), (cJ, .long), (cB, .byte)] (am 0) _ rfl (nI (qsv (xs (i + 1)) (xs (i + 2)))) rfl) (cwV 0 hts gL_law_X7_thrown rfl rfl rfl (by decide +kernel) ⟨Nat.le_of_ble_eq_true rfl, Nat.le_of_ble_eq_true rfl⟩) ⟨ro_blind, va_recv hK hPm (ci := 6) (q0 := 0) rfl rfl, fun U hU hW => ⟨rfl, by rw [hU]; exact hPm, va_K.moved hW.alike hK⟩⟩ rfl rfl hl.1 rfl (lv_room (Nat.le_of_ble_eq_true rfl)) dL_law_274 ⟨hcl, hsl⟩) ?_
  refine lv_iload hx hb dL_law_277 (lv_at hl 1 rfl) ?_
  refine lv_icmp_eq (tgt := 284) hx hb dL_law_279 (by decide) (fun _ => ?_) (fun q => absurd rfl q)
  refine lv_iload hx hb dL_law_284 (lv_at hl 1 rfl) ?_
  refine lv_if_ne (tgt := 301) hx hb dL_law_286 (by decide) (fun _ => ?_) (fun c9 => ?_)
  · refine lv_goto (tgt := 603) hx hb dL_law_301 (by decide) ?_
    subst hAe
    exact kk _ _ _ ⟨A, gv, RK1, GP1, sm1, F1, T1, M1, ST1, ln1, mn1, E1, qsv (xs (i + 1)) (xs (i + 2)), kp1, ma1, my1, rk1, F2, T2, M2, WG2, GO2, Y2, V2, AT2, NX2, ⟨hab, hR1, hE1, hS1, hbd1, hV1, hY1, hk1⟩, hP, hD, hS, lv_sub hl [2, 3, 4, 5, 6] rfl⟩
  · refine lv_aload_n hx hb dL_law_289 rfl (lv_at hl 5 rfl) ?_
    refine lv_iconst (v := nI 0) hx hb dL_law_290 (by decide +kernel) ?_
    refine va_lald hx hb hK hP 0 1 rfl rfl (vp_in_nI (by decide) (by decide)) dL_law_291 ?_
    refine lv_iload hx hb dL_law_292 (lv_at hl 0 rfl) ?_
    refine lv_i2l (v := (rb).toInt64) hx hb dL_law_294 rfl ?_
    refine wl_eq (tgt := 301) hx hb dL_law_295 dL_law_296 (by decide) (by rw [nI_clamp (by decide)]; exact hO1 (nI_z qsv_le c9)) ?_
    refine lv_goto (tgt := 603) hx hb dL_law_301 (by decide) ?_
    subst hAe
    exact kk _ _ _ ⟨A, gv, RK1, GP1, sm1, F1, T1, M1, ST1, ln1, mn1, E1, qsv (xs (i + 1)) (xs (i + 2)), kp1, ma1, my1, rk1, F2, T2, M2, WG2, GO2, Y2, V2, AT2, NX2, ⟨hab, hR1, hE1, hS1, hbd1, hV1, hY1, hk1⟩, hP, hD, hS, lv_sub hl [2, 3, 4, 5, 6] rfl⟩
set_option maxHeartbeats 4000000 in
set_option maxRecDepth 100000 in
theorem law_move {p : Program} {l : Launch} {e : Env} {s : State} {m : MethodId} {below : List Frame} {meth : Method} {c : Code} {b L : Nat} {xs : Nat → Int32} {dC : Nat → ClassId} {dI : Nat → Nat → Nat} {ad am : Nat → Nat} {ao : Nat} {cI cJ cB : ClassId} {n t i : Nat} {ls : Array Slot} {H : Heap} {locs : List Loc} {cells slots : Nat} {Q : State → Prop} (C : lwC l p s m c b L xs dC dI cI cJ cB) (hn0 : 2 ≤ n ∧ n ≤ 4) (ht0 : 2 ≤ t ∧ t ≤ 4) (hi : i + 2 < L) (hcl : cells + 1 ≤ 601024) (hsl : slots + 6 ≤ 7293000) (h : lwS (dC, dI) s ad am ao cI cJ cB n t b i ls H locs)
    (kk : ∀ ls H locs, lwS (dC, dI) s ad am ao cI cJ cB n t b i ls H locs → W p l e room_1 s m #[Value.ref b] below meth c H locs (cells + 1) (slots + 6) Q (F0 m 603 ls [])) : W p l e room_1 s m #[Value.ref b] below meth c H locs cells slots Q (F0 m 304 ls []) := by
  obtain ⟨hx, hb, hml, hown, hts, hX, hbl, hL, hK, hN, hTw, hZ, hLs, hlt⟩ := C
  obtain ⟨A, ov, RK, GP, sm, F, T, M, ST, ln, mn, E, th, kp, ma, my, rk, F', T', M', WG, GO, Y, V, AT, NX, hR, hP, hD, hS, hl⟩ := h
  obtain ⟨hab, hR0, hE0, hS0, hbd, hV, hY, hkp⟩ := hR
  generalize hAe : (fun q : Nat => s.heap.size ≤ q) = A0 at hD hS hZ
  have hA : ∀ q : Nat, s.heap.size ≤ q → A0 q := fun q h => by rw [← hAe]; exact h
  have hbA : ¬ A0 b := by rw [← hAe]; exact Nat.not_le.mpr hbl
  have hKc := hK.sub (tys' := [(cI, .int), (cJ, .long)]) [0, 1] rfl
  have hcel : ∀ w j, cel w A j < 2147483648 := fun w j => by have := cel_lt (w := w) hab j; omega
  have hB0 : ∀ j, hgt A j ≤ 4 := fun j => by have := hgt_le hab j; omega
  have hH0 : ∀ j, hgt A j < 1000000 := fun j => by have := hB0 j; omega
  have hkpt := kept_kpt hn0.2 hkp hbd.1 hbd.2.2.1
  have h6 := nwr_6 hab hn0.2 ht0.2 GO
  have hmy := hbd.1
  refine lv_aload_n hx hb dL_law_304 rfl (lv_at hl 1 rfl) ?_
  refine lv_aload_n hx hb dL_law_305 rfl (lv_at hl 0 rfl) ?_
  refine lv_iload hx hb dL_law_306 (lv_at hl 4 rfl) ?_
  refine lv_iconst (v := nI 1) hx hb dL_law_308 (by decide +kernel) ?_
  refine wk_iadd hx hb dL_law_309 ?_
  refine va_sld hx hb hX hbl hbA hS (vp_in_nI (by omega) (by omega)) dL_law_310 ?_
  refine wk_ti (v' := xs (i + 1)) (by rw [nI_clamp (by omega)]) ?_
  refine lv_aload_n hx hb dL_law_311 rfl (lv_at hl 0 rfl) ?_
  refine lv_iload hx hb dL_law_312 (lv_at hl 4 rfl) ?_
  refine lv_iconst (v := nI 2) hx hb dL_law_314 (by decide +kernel) ?_
  refine wk_iadd hx hb dL_law_315 ?_
  refine va_sld hx hb hX hbl hbA hS (vp_in_nI (by omega) (by omega)) dL_law_316 ?_
  refine wk_ti (v' := xs (i + 2)) (by rw [nI_clamp (by omega)]) ?_
  refine lv_aload_n hx hb dL_law_317 rfl (lv_at hl 3 rfl) ?_
  have hPc := hP.sub (ws' := (oW ao cJ ov :: (cW ad cI cJ n t (cel t A) (hgt A) RK GP sm F T M ST ln mn E))) [0, 1, 2, 3, 4, 5, 6, 7, 8, 9, 10, 11, 12, 13, 14] rfl
  have hDc := hD.sub (ws' := (oW ao cJ ov :: (cW ad cI cJ n t (cel t A) (hgt A) RK GP sm F T M ST ln mn E))) [0, 1, 2, 3, 4, 5, 6, 7, 8, 9, 10, 11, 12, 13, 14] (by decide) rfl
  have hFc := va_free (wc := (oW ao cJ ov :: (cW ad cI cJ n t (cel t A) (hgt A) RK GP sm F T M ST ln mn E))) hD hS hA [0, 1, 2, 3, 4, 5, 6, 7, 8, 9, 10, 11, 12, 13, 14] rfl
  refine wr_go (vx_runSW (As := [.ref (ad 0), .int (xs (i + 1)), .int (xs (i + 2)), .ref ao]) (rest := []) ⟨hx, hb, hml, hown, hts⟩ (c_L_move l hlt dC dI ad cI cJ n t (cel t A) (hgt A) RK GP sm F T M ST ln mn E ao ov (xs (i + 1)) (xs (i + 2)) H.size) (vx_cwSW 4 hts gL_law_L_move rfl rfl rfl (by decide +kernel) ⟨Nat.le_of_ble_eq_true rfl, Nat.le_of_ble_eq_true rfl⟩) ⟨lo_blind, fun U hU hW => ⟨rfl, ⟨⟨⟨by rw [hU], by rw [hU]; exact hPc, va_K.moved hW.alike hKc, hDc.weaken (fun _ _ _ _ => trivial)⟩, nst_warm hW hN⟩, tws_warm hW hTw, by rw [hU]; exact tzq_moved hW.alike (tzq_narrow (tzq_kept hZ hS.2.1) hFc)⟩, lst_warm hW hLs⟩⟩ rfl rfl hl.1 rfl (lv_room (Nat.le_of_ble_eq_true rfl)) dL_law_318 ⟨hcl, hsl⟩) hS hFc hFc (fun r9 W9 H1 locs1 hpost hP1 hD1 hz9 hk9 hS => ?_)
  obtain ⟨gv, rfl, rfl, hq1, hO1⟩ := move_p hab hn0 ht0 rfl rfl hkp hbd.1 hpost
  obtain ⟨hP, hD⟩ := va_join (wr := (mW am cI cJ cB th n t kp ma my rk (cel 4 A) F' T' M' WG GO Y V AT NX)) (w1 := oW ao cJ gv :: (cW ad cI cJ n t (cel t A) (hgt A) RK GP sm F T M ST ln mn E)) hP hD [0, 1, 2, 3, 4, 5, 6, 7, 8, 9, 10, 11, 12, 13, 14] [15, 16, 17, 18, 19, 20, 21, 22, 23, 24, 25] rfl rfl (by decide) (by decide) hk9 hFc hP1 hD1
  have hP := hP.sub (ws' := (oW ao cJ gv :: ((cW ad cI cJ n t (cel t A) (hgt A) RK GP sm F T M ST ln mn E) ++ (mW am cI cJ cB th n t kp ma my rk (cel 4 A) F' T' M' WG GO Y V AT NX)))) [11, 12, 13, 14, 15, 16, 17, 18, 19, 20, 21, 22, 23, 24, 25, 0, 1, 2, 3, 4, 5, 6, 7, 8, 9, 10] rfl
  have hD := hD.sub (ws' := (oW ao cJ gv :: ((cW ad cI cJ n t (cel t A) (hgt A) RK GP sm F T M ST ln mn E) ++ (mW am cI cJ cB th n t kp ma my rk (cel 4 A) F' T' M' WG GO Y V AT NX)))) [11, 12, 13, 14, 15, 16, 17, 18, 19, 20, 21, 22, 23, 24, 25, 0, 1, 2, 3, 4, 5, 6, 7, 8, 9, 10] (by decide) rfl
  refine W.eq (g2 := F0 m 321 ls [.int (nI (qmv ln (xs (i + 1)) (xs (i + 2))))]) rfl ?_
  refine lv_istore (lv' := [(5, .int (nI (qmv ln (xs (i + 1)) (xs (i + 2))))), (0, .ref b), (1, .ref (ad 0)), (2, .ref (am 0)), (3, .ref ao), (4, .int (nI i))]) hx hb dL_law_321 hl (by decide) rfl (fun ls hl => ?_)
  refine lv_aload_n hx hb dL_law_323 rfl (lv_at hl 3 rfl) ?_
  refine lv_aload_n hx hb dL_law_324 rfl (lv_at hl 1 rfl) ?_
  refine lv_iload hx hb dL_law_325 (lv_at hl 5 rfl) ?_
  refine lv_iconst (v := nI 1) hx hb dL_law_327 (by decide +kernel) ?_
  refine wk_iadd hx hb dL_law_328 ?_
  refine va_sld hx hb hX hbl hbA hS (vp_in_nI (by omega) (by omega)) dL_law_329 ?_
  refine wk_ti (v' := xs (i + 1)) (by rw [nI_clamp (by omega)]) ?_
  refine lv_aload_n hx hb dL_law_330 rfl (lv_at hl 1 rfl) ?_
  refine lv_iload hx hb dL_law_331 (lv_at hl 5 rfl) ?_
  refine lv_iconst (v := nI 2) hx hb dL_law_333 (by decide +kernel) ?_
  refine wk_iadd hx hb dL_law_334 ?_
  refine va_sld hx hb hX hbl hbA hS (vp_in_nI (by omega) (by omega)) dL_law_335 ?_
  refine wk_ti (v' := xs (i + 2)) (by rw [nI_clamp (by omega)]) ?_
  have hPm := hP.sub (ws' := (mW am cI cJ cB th n t kp ma my rk (cel 4 A) F' T' M' WG GO Y V AT NX)) [15, 16, 17, 18, 19, 20, 21, 22, 23, 24, 25] rfl
  have hDm := hD.sub (ws' := (mW am cI cJ cB th n t kp ma my rk (cel 4 A) F' T' M' WG GO Y V AT NX)) [15, 16, 17, 18, 19, 20, 21, 22, 23, 24, 25] (by decide) rfl
  have hFm := va_free (wc := (mW am cI cJ cB th n t kp ma my rk (cel 4 A) F' T' M' WG GO Y V AT NX)) hD hS hA [15, 16, 17, 18, 19, 20, 21, 22, 23, 24, 25] rfl
  refine wr_go (va_runV (As := [.int (xs (i + 1)), .int (xs (i + 2))]) (rest := []) ⟨hx, hb, hml, hown, hts⟩ (c_X7_move l dC dI am cI cJ cB th n t kp ma my rk (cel 4 A) F' T' M' WG GO Y V AT NX hbd.1 hbd.2.1 (xs (i + 1)) (xs (i + 2)) H1.size) (cwV 2 hts gL_law_X7_move rfl rfl rfl (by decide +kernel) ⟨Nat.le_of_ble_eq_true rfl, Nat.le_of_ble_eq_true rfl⟩) ⟨wr_blind, va_recv hK hPm (ci := 6) (q0 := 0) rfl rfl, fun U hU hW => ⟨rfl, by rw [hU], by rw [hU]; exact hPm, va_K.moved hW.alike hK, hDm.weaken (fun _ _ _ _ => trivial)⟩⟩ rfl rfl hl.1 rfl (lv_room (Nat.le_of_ble_eq_true rfl)) dL_law_336 ⟨hcl, hsl⟩) hS hFm hFm (fun r8 W8 H2 locs2 hpost hP2 hD2 hz8 hk8 hS => ?_)
  obtain ⟨rfl, rfl⟩ := hpost
  rw [hq1] at hP2 hD2
  obtain ⟨hP, hD⟩ := va_join (wr := oW ao cJ gv :: (cW ad cI cJ n t (cel t A) (hgt A) RK GP sm F T M ST ln mn E)) (w1 := (mW am cI cJ cB (qmv ln (xs (i + 1)) (xs (i + 2))) n t kp ma my rk (cel 4 A) F' T' M' WG GO Y V AT NX)) hP hD [15, 16, 17, 18, 19, 20, 21, 22, 23, 24, 25] [0, 1, 2, 3, 4, 5, 6, 7, 8, 9, 10, 11, 12, 13, 14] rfl rfl (by decide) (by decide) hk8 hFm hP2 hD2
  have hP : va_P (dC, dI) vwCl (lwW ao ad am cI cJ cB n t A gv RK GP sm F T M ST ln mn E (qmv ln (xs (i + 1)) (xs (i + 2))) kp ma my rk F' T' M' WG GO Y V AT NX) H2 := hP
  have hD : va_D A0 (lwW ao ad am cI cJ cB n t A gv RK GP sm F T M ST ln mn E (qmv ln (xs (i + 1)) (xs (i + 2))) kp ma my rk F' T' M' WG GO Y V AT NX) := hD
  refine W.eq (g2 := F0 m 339 ls [.int (nI (if kmv kp my (xs (i + 1)) (xs (i + 2)) = 0 then vmv F' T' M' (xs (i + 1)).toNatClampNeg (xs (i + 2)).toNatClampNeg else 0))]) rfl ?_
  refine lv_istore (lv' := [(6, .int (nI (if kmv kp my (xs (i + 1)) (xs (i + 2)) = 0 then vmv F' T' M' (xs (i + 1)).toNatClampNeg (xs (i + 2)).toNatClampNeg else 0))), (5, .int (nI (qmv ln (xs (i + 1)) (xs (i + 2))))), (0, .ref b), (1, .ref (ad 0)), (2, .ref (am 0)), (3, .ref ao), (4, .int (nI i))]) hx hb dL_law_339 hl (by decide) rfl (fun ls hl => ?_)
  refine lv_aload_n hx hb dL_law_341 rfl (lv_at hl 4 rfl) ?_
  have hPm := hP.sub (ws' := (mW am cI cJ cB (qmv ln (xs (i + 1)) (xs (i + 2))) n t kp ma my rk (cel 4 A) F' T' M' WG GO Y V AT NX)) [15, 16, 17, 18, 19, 20, 21, 22, 23, 24, 25] rfl
  refine pu_go (va_runV (As := []) (rest := []) ⟨hx, hb, hml, hown, hts⟩ (c_X7_thrown l dC dI (mW am cI cJ cB (qmv ln (xs (i + 1)) (xs (i + 2))) n t kp ma my rk (cel 4 A) F' T' M' WG GO Y V AT NX) [(cI, .int), (cJ, .long), (cB, .byte)] (am 0) _ rfl (nI (qmv ln (xs (i + 1)) (xs (i + 2)))) rfl) (cwV 0 hts gL_law_X7_thrown rfl rfl rfl (by decide +kernel) ⟨Nat.le_of_ble_eq_true rfl, Nat.le_of_ble_eq_true rfl⟩) ⟨ro_blind, va_recv hK hPm (ci := 6) (q0 := 0) rfl rfl, fun U hU hW => ⟨rfl, by rw [hU]; exact hPm, va_K.moved hW.alike hK⟩⟩ rfl rfl hl.1 rfl (lv_room (Nat.le_of_ble_eq_true rfl)) dL_law_342 ⟨hcl, hsl⟩) ?_
  refine lv_iload hx hb dL_law_345 (lv_at hl 1 rfl) ?_
  refine lv_icmp_eq (tgt := 352) hx hb dL_law_347 (by decide) (fun _ => ?_) (fun q => absurd rfl q)
  refine lv_iload hx hb dL_law_352 (lv_at hl 1 rfl) ?_
  refine lv_if_ne (tgt := 369) hx hb dL_law_354 (by decide) (fun _ => ?_) (fun c9 => ?_)
  · refine lv_goto (tgt := 603) hx hb dL_law_369 (by decide) ?_
    subst hAe
    exact kk _ _ _ ⟨A, gv, RK, GP, sm, F, T, M, ST, ln, mn, E, qmv ln (xs (i + 1)) (xs (i + 2)), kp, ma, my, rk, F', T', M', WG, GO, Y, V, AT, NX, ⟨hab, hR0, hE0, hS0, hbd, hV, hY, hkp⟩, hP, hD, hS, lv_sub hl [2, 3, 4, 5, 6] rfl⟩
  · refine lv_aload_n hx hb dL_law_357 rfl (lv_at hl 5 rfl) ?_
    refine lv_iconst (v := nI 0) hx hb dL_law_358 (by decide +kernel) ?_
    refine va_lald hx hb hK hP 0 1 rfl rfl (vp_in_nI (by decide) (by decide)) dL_law_359 ?_
    refine lv_iload hx hb dL_law_360 (lv_at hl 0 rfl) ?_
    refine lv_i2l (v := (nI (if kmv kp my (xs (i + 1)) (xs (i + 2)) = 0 then vmv F' T' M' (xs (i + 1)).toNatClampNeg (xs (i + 2)).toNatClampNeg else 0)).toInt64) hx hb dL_law_362 rfl ?_
    refine wl_eq (tgt := 369) hx hb dL_law_363 dL_law_364 (by decide) (by rw [nI_clamp (by decide)]; exact hO1 (nI_z qmv_le c9)) ?_
    refine lv_goto (tgt := 603) hx hb dL_law_369 (by decide) ?_
    subst hAe
    exact kk _ _ _ ⟨A, gv, RK, GP, sm, F, T, M, ST, ln, mn, E, qmv ln (xs (i + 1)) (xs (i + 2)), kp, ma, my, rk, F', T', M', WG, GO, Y, V, AT, NX, ⟨hab, hR0, hE0, hS0, hbd, hV, hY, hkp⟩, hP, hD, hS, lv_sub hl [2, 3, 4, 5, 6] rfl⟩
set_option maxHeartbeats 4000000 in
set_option maxRecDepth 100000 in
theorem law_follow {p : Program} {l : Launch} {e : Env} {s : State} {m : MethodId} {below : List Frame} {meth : Method} {c : Code} {b L : Nat} {xs : Nat → Int32} {dC : Nat → ClassId} {dI : Nat → Nat → Nat} {ad am : Nat → Nat} {ao : Nat} {cI cJ cB : ClassId} {n t i : Nat} {ls : Array Slot} {H : Heap} {locs : List Loc} {cells slots : Nat} {Q : State → Prop} (C : lwC l p s m c b L xs dC dI cI cJ cB) (hn0 : 2 ≤ n ∧ n ≤ 4) (ht0 : 2 ≤ t ∧ t ≤ 4) (hi : i + 2 < L) (hcl : cells + 1 ≤ 601024) (hsl : slots + 6 ≤ 7293000) (h : lwS (dC, dI) s ad am ao cI cJ cB n t b i ls H locs)
    (kk : ∀ ls H locs, lwS (dC, dI) s ad am ao cI cJ cB n t b i ls H locs → W p l e room_1 s m #[Value.ref b] below meth c H locs (cells + 1) (slots + 6) Q (F0 m 603 ls [])) : W p l e room_1 s m #[Value.ref b] below meth c H locs cells slots Q (F0 m 372 ls []) := by
  obtain ⟨hx, hb, hml, hown, hts, hX, hbl, hL, hK, hN, hTw, hZ, hLs, hlt⟩ := C
  obtain ⟨A, ov, RK, GP, sm, F, T, M, ST, ln, mn, E, th, kp, ma, my, rk, F', T', M', WG, GO, Y, V, AT, NX, hR, hP, hD, hS, hl⟩ := h
  obtain ⟨hab, hR0, hE0, hS0, hbd, hV, hY, hkp⟩ := hR
  generalize hAe : (fun q : Nat => s.heap.size ≤ q) = A0 at hD hS hZ
  have hA : ∀ q : Nat, s.heap.size ≤ q → A0 q := fun q h => by rw [← hAe]; exact h
  have hbA : ¬ A0 b := by rw [← hAe]; exact Nat.not_le.mpr hbl
  have hKc := hK.sub (tys' := [(cI, .int), (cJ, .long)]) [0, 1] rfl
  have hcel : ∀ w j, cel w A j < 2147483648 := fun w j => by have := cel_lt (w := w) hab j; omega
  have hB0 : ∀ j, hgt A j ≤ 4 := fun j => by have := hgt_le hab j; omega
  have hH0 : ∀ j, hgt A j < 1000000 := fun j => by have := hB0 j; omega
  have hkpt := kept_kpt hn0.2 hkp hbd.1 hbd.2.2.1
  have h6 := nwr_6 hab hn0.2 ht0.2 GO
  have hmy := hbd.1
  have hfs := (fol_same hab hn0 ht0 hkp hbd.1).1
  refine lv_aload_n hx hb dL_law_372 rfl (lv_at hl 1 rfl) ?_
  refine lv_aload_n hx hb dL_law_373 rfl (lv_at hl 3 rfl) ?_
  have hPc := hP.sub (ws' := (oW ao cJ ov :: (cW ad cI cJ n t (cel t A) (hgt A) RK GP sm F T M ST ln mn E))) [0, 1, 2, 3, 4, 5, 6, 7, 8, 9, 10, 11, 12, 13, 14] rfl
  have hDc := hD.sub (ws' := (oW ao cJ ov :: (cW ad cI cJ n t (cel t A) (hgt A) RK GP sm F T M ST ln mn E))) [0, 1, 2, 3, 4, 5, 6, 7, 8, 9, 10, 11, 12, 13, 14] (by decide) rfl
  have hFc := va_free (wc := (oW ao cJ ov :: (cW ad cI cJ n t (cel t A) (hgt A) RK GP sm F T M ST ln mn E))) hD hS hA [0, 1, 2, 3, 4, 5, 6, 7, 8, 9, 10, 11, 12, 13, 14] rfl
  refine wr_go (vx_runSW (As := [.ref (ad 0), .ref ao]) (rest := []) ⟨hx, hb, hml, hown, hts⟩ (c_L_follow l hlt dC dI ad cI cJ n t (cel t A) (hgt A) RK GP sm F T M ST ln mn E ao ov hn0 ht0 (hcel t) hH0 hR0 hS0 hkpt H.size) (vx_cwSW 2 hts gL_law_L_follow rfl rfl rfl (by decide +kernel) ⟨Nat.le_of_ble_eq_true rfl, Nat.le_of_ble_eq_true rfl⟩) ⟨lo_blind, fun U hU hW => ⟨rfl, ⟨⟨⟨by rw [hU], by rw [hU]; exact hPc, va_K.moved hW.alike hKc, hDc.weaken (fun _ _ _ _ => trivial)⟩, nst_warm hW hN⟩, tws_warm hW hTw, by rw [hU]; exact tzq_moved hW.alike (tzq_narrow (tzq_kept hZ hS.2.1) hFc)⟩, lst_warm hW hLs⟩⟩ rfl rfl hl.1 rfl (lv_room (Nat.le_of_ble_eq_true rfl)) dL_law_374 ⟨hcl, hsl⟩) hS hFc hFc (fun r9 W9 H1 locs1 hpost hP1 hD1 hz9 hk9 hS => ?_)
  obtain ⟨A1, RK1, GP1, gv, hA1, hR1, rfl, rfl, hne, hez⟩ := follow_p hab hn0 ht0 rfl rfl hkp hbd.1 hbd.2.2.1 hR0 hpost
  obtain ⟨hP, hD⟩ := va_join (wr := (mW am cI cJ cB th n t kp ma my rk (cel 4 A) F' T' M' WG GO Y V AT NX)) (w1 := oW ao cJ gv :: (cW ad cI cJ n t (cel t A1) (hgt A1) RK1 GP1 sm F T M ST ln mn E)) hP hD [0, 1, 2, 3, 4, 5, 6, 7, 8, 9, 10, 11, 12, 13, 14] [15, 16, 17, 18, 19, 20, 21, 22, 23, 24, 25] rfl rfl (by decide) (by decide) hk9 hFc hP1 hD1
  have hP := hP.sub (ws' := (oW ao cJ gv :: ((cW ad cI cJ n t (cel t A1) (hgt A1) RK1 GP1 sm F T M ST ln mn E) ++ (mW am cI cJ cB th n t kp ma my rk (cel 4 A) F' T' M' WG GO Y V AT NX)))) [11, 12, 13, 14, 15, 16, 17, 18, 19, 20, 21, 22, 23, 24, 25, 0, 1, 2, 3, 4, 5, 6, 7, 8, 9, 10] rfl
  have hD := hD.sub (ws' := (oW ao cJ gv :: ((cW ad cI cJ n t (cel t A1) (hgt A1) RK1 GP1 sm F T M ST ln mn E) ++ (mW am cI cJ cB th n t kp ma my rk (cel 4 A) F' T' M' WG GO Y V AT NX)))) [11, 12, 13, 14, 15, 16, 17, 18, 19, 20, 21, 22, 23, 24, 25, 0, 1, 2, 3, 4, 5, 6, 7, 8, 9, 10] (by decide) rfl
  refine W.eq (g2 := F0 m 377 ls [.int (nI (qfl ln ST (cel t A)))]) rfl ?_
  refine lv_istore (lv' := [(5, .int (nI (qfl ln ST (cel t A)))), (0, .ref b), (1, .ref (ad 0)), (2, .ref (am 0)), (3, .ref ao), (4, .int (nI i))]) hx hb dL_law_377 hl (by decide) rfl (fun ls hl => ?_)
  refine lv_aload_n hx hb dL_law_379 rfl (lv_at hl 3 rfl) ?_
  have hPm := hP.sub (ws' := (mW am cI cJ cB th n t kp ma my rk (cel 4 A) F' T' M' WG GO Y V AT NX)) [15, 16, 17, 18, 19, 20, 21, 22, 23, 24, 25] rfl
  have hDm := hD.sub (ws' := (mW am cI cJ cB th n t kp ma my rk (cel 4 A) F' T' M' WG GO Y V AT NX)) [15, 16, 17, 18, 19, 20, 21, 22, 23, 24, 25] (by decide) rfl
  have hFm := va_free (wc := (mW am cI cJ cB th n t kp ma my rk (cel 4 A) F' T' M' WG GO Y V AT NX)) hD hS hA [15, 16, 17, 18, 19, 20, 21, 22, 23, 24, 25] rfl
  refine wr_go (va_runV (As := []) (rest := []) ⟨hx, hb, hml, hown, hts⟩ (c_X7_follow l dC dI am cI cJ cB th n t kp ma my rk (cel 4 A) F' T' M' WG GO Y V AT NX hn0 ht0 (hcel 4) hbd.2.2.2.2.2 h6 hbd.2.2.2.2.1 hbd.2.1 hbd.2.2.1 hbd.1 (fun hs i hi => fol_1 hab hn0 ht0 hkp hbd.1 GO hs i hi) (fun hs => by obtain ⟨w, -, e1, e2, e3, -⟩ := fol_2 hab hn0 ht0 hkp hbd.1 GO hs; rw [e1, bxs_cel e2 ht0.2, bxs_cel hab ht0.2]; exact e3) H1.size) (cwV 0 hts gL_law_X7_follow rfl rfl rfl (by decide +kernel) ⟨Nat.le_of_ble_eq_true rfl, Nat.le_of_ble_eq_true rfl⟩) ⟨wr_blind, va_recv hK hPm (ci := 6) (q0 := 0) rfl rfl, fun U hU hW => ⟨rfl, by rw [hU], by rw [hU]; exact hPm, va_K.moved hW.alike hK, hDm.weaken (fun _ _ _ _ => trivial)⟩⟩ rfl rfl hl.1 rfl (lv_room (Nat.le_of_ble_eq_true rfl)) dL_law_380 ⟨hcl, hsl⟩) hS hFm hFm (fun r8 W8 H2 locs2 hpost hP2 hD2 hz8 hk8 hS => ?_)
  obtain ⟨rb, rk2, GO2, rfl, rfl, hGO2, hO1⟩ : ∃ (rb : Int32) (rk2 : Nat) (GO2 : Nat → Nat), r8 = some (.int rb) ∧ W8 = mW am cI cJ cB (qfl ln ST (cel t A)) n t kp ma my rk2 (cel 4 A1) F' T' M' WG GO2 Y V AT NX ∧ (∀ j, GO2 j < 2147483648) ∧ (qfl ln ST (cel t A) = 0 → gv 0 = rb.toInt64) := by
    rcases hpost with ⟨hns, h1, h2⟩ | ⟨hsm, h1, h2⟩
    · have hq : qfl ln ST (cel t A) = 1 := by
        have h9 : qfl ln ST (cel t A) ≠ 0 := fun z => hns (hfs.mp z)
        unfold qfl at h9 ⊢
        split
        · next z => rw [if_pos z] at h9; exact absurd rfl h9
        · rfl
      rw [hne (by rw [hq]; decide), hq]
      exact ⟨_, _, _, h1, h2, hbd.2.2.2.2.2, fun z => absurd z (by decide)⟩
    · have hq : qfl ln ST (cel t A) = 0 := hfs.mpr hsm
      obtain ⟨w, w1, w2, w4, w5, w6⟩ := hez hq
      have hg := fol_m hab hn0 ht0 GO w1 w2 w4 w5
      rw [hg] at h1 h2
      rw [bxs_cel hab ht0.2, bxs_cel hA1 ht0.2] at h1
      exact ⟨_, _, _, h1, by rw [hq]; exact h2, fun j => nwr_lt (cel 4 A) GO hbd.2.2.2.2.2 20 (Nat.le_refl 20) j, fun _ => w6⟩
  obtain ⟨hP, hD⟩ := va_join (wr := oW ao cJ gv :: (cW ad cI cJ n t (cel t A1) (hgt A1) RK1 GP1 sm F T M ST ln mn E)) (w1 := (mW am cI cJ cB (qfl ln ST (cel t A)) n t kp ma my rk2 (cel 4 A1) F' T' M' WG GO2 Y V AT NX)) hP hD [15, 16, 17, 18, 19, 20, 21, 22, 23, 24, 25] [0, 1, 2, 3, 4, 5, 6, 7, 8, 9, 10, 11, 12, 13, 14] rfl rfl (by decide) (by decide) hk8 hFm hP2 hD2
  have hP : va_P (dC, dI) vwCl (lwW ao ad am cI cJ cB n t A1 gv RK1 GP1 sm F T M ST ln mn E (qfl ln ST (cel t A)) kp ma my rk2 F' T' M' WG GO2 Y V AT NX) H2 := hP
  have hD : va_D A0 (lwW ao ad am cI cJ cB n t A1 gv RK1 GP1 sm F T M ST ln mn E (qfl ln ST (cel t A)) kp ma my rk2 F' T' M' WG GO2 Y V AT NX) := hD
  refine W.eq (g2 := F0 m 383 ls [.int (rb)]) rfl ?_
  refine lv_istore (lv' := [(6, .int rb), (5, .int (nI (qfl ln ST (cel t A)))), (0, .ref b), (1, .ref (ad 0)), (2, .ref (am 0)), (3, .ref ao), (4, .int (nI i))]) hx hb dL_law_383 hl (by decide) rfl (fun ls hl => ?_)
  refine lv_aload_n hx hb dL_law_385 rfl (lv_at hl 4 rfl) ?_
  have hPm := hP.sub (ws' := (mW am cI cJ cB (qfl ln ST (cel t A)) n t kp ma my rk2 (cel 4 A1) F' T' M' WG GO2 Y V AT NX)) [15, 16, 17, 18, 19, 20, 21, 22, 23, 24, 25] rfl
  refine pu_go (va_runV (As := []) (rest := []) ⟨hx, hb, hml, hown, hts⟩ (c_X7_thrown l dC dI (mW am cI cJ cB (qfl ln ST (cel t A)) n t kp ma my rk2 (cel 4 A1) F' T' M' WG GO2 Y V AT NX) [(cI, .int), (cJ, .long), (cB, .byte)] (am 0) _ rfl (nI (qfl ln ST (cel t A))) rfl) (cwV 0 hts gL_law_X7_thrown rfl rfl rfl (by decide +kernel) ⟨Nat.le_of_ble_eq_true rfl, Nat.le_of_ble_eq_true rfl⟩) ⟨ro_blind, va_recv hK hPm (ci := 6) (q0 := 0) rfl rfl, fun U hU hW => ⟨rfl, by rw [hU]; exact hPm, va_K.moved hW.alike hK⟩⟩ rfl rfl hl.1 rfl (lv_room (Nat.le_of_ble_eq_true rfl)) dL_law_386 ⟨hcl, hsl⟩) ?_
  refine lv_iload hx hb dL_law_389 (lv_at hl 1 rfl) ?_
  refine lv_icmp_eq (tgt := 396) hx hb dL_law_391 (by decide) (fun _ => ?_) (fun q => absurd rfl q)
  refine lv_iload hx hb dL_law_396 (lv_at hl 1 rfl) ?_
  refine lv_if_ne (tgt := 413) hx hb dL_law_398 (by decide) (fun _ => ?_) (fun c9 => ?_)
  · refine lv_goto (tgt := 603) hx hb dL_law_413 (by decide) ?_
    subst hAe
    exact kk _ _ _ ⟨A1, gv, RK1, GP1, sm, F, T, M, ST, ln, mn, E, qfl ln ST (cel t A), kp, ma, my, rk2, F', T', M', WG, GO2, Y, V, AT, NX, ⟨hA1, hR1, hE0, hS0, ⟨hbd.1, hbd.2.1, hbd.2.2.1, hbd.2.2.2.1, hbd.2.2.2.2.1, hGO2⟩, hV, hY, hkp⟩, hP, hD, hS, lv_sub hl [2, 3, 4, 5, 6] rfl⟩
  · refine lv_aload_n hx hb dL_law_401 rfl (lv_at hl 5 rfl) ?_
    refine lv_iconst (v := nI 0) hx hb dL_law_402 (by decide +kernel) ?_
    refine va_lald hx hb hK hP 0 1 rfl rfl (vp_in_nI (by decide) (by decide)) dL_law_403 ?_
    refine lv_iload hx hb dL_law_404 (lv_at hl 0 rfl) ?_
    refine lv_i2l (v := (rb).toInt64) hx hb dL_law_406 rfl ?_
    refine wl_eq (tgt := 413) hx hb dL_law_407 dL_law_408 (by decide) (by rw [nI_clamp (by decide)]; exact hO1 (nI_z qfl_le c9)) ?_
    refine lv_goto (tgt := 603) hx hb dL_law_413 (by decide) ?_
    subst hAe
    exact kk _ _ _ ⟨A1, gv, RK1, GP1, sm, F, T, M, ST, ln, mn, E, qfl ln ST (cel t A), kp, ma, my, rk2, F', T', M', WG, GO2, Y, V, AT, NX, ⟨hA1, hR1, hE0, hS0, ⟨hbd.1, hbd.2.1, hbd.2.2.1, hbd.2.2.2.1, hbd.2.2.2.2.1, hGO2⟩, hV, hY, hkp⟩, hP, hD, hS, lv_sub hl [2, 3, 4, 5, 6] rfl⟩
