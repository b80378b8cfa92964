set_option maxHeartbeats 4000000 in
set_option maxRecDepth 100000 in
theorem law_travel {p : Program} {l : Launch} {e : Env} {s : State} {m : MethodId} {below : List Frame} {meth : Method} {c : Code} {b L : Nat} {xs : Nat → Int32} {dC : Nat → ClassId} {dI : Nat → Nat → Nat} {ad am : Nat → Nat} {ao : Nat} {cI cJ cB : ClassId} {n t i : Nat} {ls : Array Slot} {H : Heap} {locs : List Loc} {cells slots : Nat} {Q : State → Prop} (C : lwC l p s m c b L xs dC dI cI cJ cB) (hn0 : 2 ≤ n ∧ n ≤ 4) (ht0 : 2 ≤ t ∧ t ≤ 4) (hi : i + 2 < L) (hcl : cells + 1 ≤ 601024) (hsl : slots + 6 ≤ 7293000) (h : lwS (dC, dI) s ad am ao cI cJ cB n t b i ls H locs)
    (kk : ∀ ls H locs, lwS (dC, dI) s ad am ao cI cJ cB n t b i ls H locs → W p l e room_1 s m #[Value.ref b] below meth c H locs (cells + 1) (slots + 6) Q (F0 m 603 ls [])) : W p l e room_1 s m #[Value.ref b] below meth c H locs cells slots Q (F0 m 442 ls []) := by
  obtain ⟨hx, hb, hml, hown, hts, hX, hbl, hL, hK, hN, hTw, hZ, hLs, hlt⟩ := C
  obtain ⟨A, ov, RK, GP, sm, F, T, M, ST, ln, mn, E, th, kp, ma, my, rk, F', T', M', WG, GO, Y, V, AT, NX, hR, hP, hD, hS, hl⟩ := h
  obtain ⟨hab, hR0, hE0, hS0, hbd, hV, hY, hkp⟩ := hR
  generalize hAe : (fun q : Nat => s.heap.size ≤ q) = A0 at hD hS hZ
  have hA : ∀ q : Nat, s.heap.size ≤ q → A0 q := fun q h => by rw [← hAe]; exact h
  have hbA : ¬ A0 b := by rw [← hAe]; exact Nat.not_le.mpr hbl
  have hKc := hK.sub (tys' := [(cI, .int), (cJ, .long)]) [0, 1] rfl
  have hcel : ∀ w j, cel w A j < 2147483648 := fun w j => by have := cel_lt (w := w) hab j; omega
  have hB0 : ∀ j, hgt A j ≤ 4 := fun j => by have := hgt_le hab j; omega
  have hH0 : ∀ j, hgt A j < 1000000 := fun j => by have := hB0 j; omega
  have hkpt := kept_kpt hn0.2 hkp hbd.1 hbd.2.2.1
  have h6 := nwr_6 hab hn0.2 ht0.2 GO
  have hmy := hbd.1
  refine lv_aload_n hx hb dL_law_442 rfl (lv_at hl 1 rfl) ?_
  refine lv_aload_n hx hb dL_law_443 rfl (lv_at hl 0 rfl) ?_
  refine lv_iload hx hb dL_law_444 (lv_at hl 4 rfl) ?_
  refine lv_iconst (v := nI 1) hx hb dL_law_446 (by decide +kernel) ?_
  refine wk_iadd hx hb dL_law_447 ?_
  refine va_sld hx hb hX hbl hbA hS (vp_in_nI (by omega) (by omega)) dL_law_448 ?_
  refine wk_ti (v' := xs (i + 1)) (by rw [nI_clamp (by omega)]) ?_
  refine lv_aload_n hx hb dL_law_449 rfl (lv_at hl 0 rfl) ?_
  refine lv_iload hx hb dL_law_450 (lv_at hl 4 rfl) ?_
  refine lv_iconst (v := nI 2) hx hb dL_law_452 (by decide +kernel) ?_
  refine wk_iadd hx hb dL_law_453 ?_
  refine va_sld hx hb hX hbl hbA hS (vp_in_nI (by omega) (by omega)) dL_law_454 ?_
  refine wk_ti (v' := xs (i + 2)) (by rw [nI_clamp (by omega)]) ?_
  refine lv_aload_n hx hb dL_law_455 rfl (lv_at hl 3 rfl) ?_
  have hPc := hP.sub (ws' := (oW ao cJ ov :: (cW ad cI cJ n t (cel t A) (hgt A) RK GP sm F T M ST ln mn E))) [0, 1, 2, 3, 4, 5, 6, 7, 8, 9, 10, 11, 12, 13, 14] rfl
  have hDc := hD.sub (ws' := (oW ao cJ ov :: (cW ad cI cJ n t (cel t A) (hgt A) RK GP sm F T M ST ln mn E))) [0, 1, 2, 3, 4, 5, 6, 7, 8, 9, 10, 11, 12, 13, 14] (by decide) rfl
  have hFc := va_free (wc := (oW ao cJ ov :: (cW ad cI cJ n t (cel t A) (hgt A) RK GP sm F T M ST ln mn E))) hD hS hA [0, 1, 2, 3, 4, 5, 6, 7, 8, 9, 10, 11, 12, 13, 14] rfl
  refine wr_go (vx_runSW (As := [.ref (ad 0), .int (xs (i + 1)), .int (xs (i + 2)), .ref ao]) (rest := []) ⟨hx, hb, hml, hown, hts⟩ (c_L_travel l hlt dC dI ad cI cJ n t (cel t A) (hgt A) RK GP sm F T M ST ln mn E ao ov hn0 (xs (i + 1)) (xs (i + 2)) H.size) (vx_cwSW 4 hts gL_law_L_travel rfl rfl rfl (by decide +kernel) ⟨Nat.le_of_ble_eq_true rfl, Nat.le_of_ble_eq_true rfl⟩) ⟨lo_blind, fun U hU hW => ⟨rfl, ⟨⟨⟨by rw [hU], by rw [hU]; exact hPc, va_K.moved hW.alike hKc, hDc.weaken (fun _ _ _ _ => trivial)⟩, nst_warm hW hN⟩, tws_warm hW hTw, by rw [hU]; exact tzq_moved hW.alike (tzq_narrow (tzq_kept hZ hS.2.1) hFc)⟩, lst_warm hW hLs⟩⟩ rfl rfl hl.1 rfl (lv_room (Nat.le_of_ble_eq_true rfl)) dL_law_456 ⟨hcl, hsl⟩) hS hFc hFc (fun r9 W9 H1 locs1 hpost hP1 hD1 hz9 hk9 hS => ?_)
  obtain ⟨gv, rfl, rfl, hO1⟩ := travel_p hab hn0 ht0 rfl rfl hpost
  obtain ⟨hP, hD⟩ := va_join (wr := (mW am cI cJ cB th n t kp ma my rk (cel 4 A) F' T' M' WG GO Y V AT NX)) (w1 := oW ao cJ gv :: (cW ad cI cJ n t (cel t A) (hgt A) RK GP sm F T M ST ln mn E)) hP hD [0, 1, 2, 3, 4, 5, 6, 7, 8, 9, 10, 11, 12, 13, 14] [15, 16, 17, 18, 19, 20, 21, 22, 23, 24, 25] rfl rfl (by decide) (by decide) hk9 hFc hP1 hD1
  have hP := hP.sub (ws' := (oW ao cJ gv :: ((cW ad cI cJ n t (cel t A) (hgt A) RK GP sm F T M ST ln mn E) ++ (mW am cI cJ cB th n t kp ma my rk (cel 4 A) F' T' M' WG GO Y V AT NX)))) [11, 12, 13, 14, 15, 16, 17, 18, 19, 20, 21, 22, 23, 24, 25, 0, 1, 2, 3, 4, 5, 6, 7, 8, 9, 10] rfl
  have hD := hD.sub (ws' := (oW ao cJ gv :: ((cW ad cI cJ n t (cel t A) (hgt A) RK GP sm F T M ST ln mn E) ++ (mW am cI cJ cB th n t kp ma my rk (cel 4 A) F' T' M' WG GO Y V AT NX)))) [11, 12, 13, 14, 15, 16, 17, 18, 19, 20, 21, 22, 23, 24, 25, 0, 1, 2, 3, 4, 5, 6, 7, 8, 9, 10] (by decide) rfl
  refine W.eq (g2 := F0 m 459 ls [.int (nI (ktr n (xs (i + 1)) (xs (i + 2))))]) rfl ?_
  refine lv_istore (lv' := [(5, .int (nI (ktr n (xs (i + 1)) (xs (i + 2))))), (0, .ref b), (1, .ref (ad 0)), (2, .ref (am 0)), (3, .ref ao), (4, .int (nI i))]) hx hb dL_law_459 hl (by decide) rfl (fun ls hl => ?_)
  refine lv_aload_n hx hb dL_law_461 rfl (lv_at hl 3 rfl) ?_
  refine lv_aload_n hx hb dL_law_462 rfl (lv_at hl 1 rfl) ?_
  refine lv_iload hx hb dL_law_463 (lv_at hl 5 rfl) ?_
  refine lv_iconst (v := nI 1) hx hb dL_law_465 (by decide +kernel) ?_
  refine wk_iadd hx hb dL_law_466 ?_
  refine va_sld hx hb hX hbl hbA hS (vp_in_nI (by omega) (by omega)) dL_law_467 ?_
  refine wk_ti (v' := xs (i + 1)) (by rw [nI_clamp (by omega)]) ?_
  refine lv_aload_n hx hb dL_law_468 rfl (lv_at hl 1 rfl) ?_
  refine lv_iload hx hb dL_law_469 (lv_at hl 5 rfl) ?_
  refine lv_iconst (v := nI 2) hx hb dL_law_471 (by decide +kernel) ?_
  refine wk_iadd hx hb dL_law_472 ?_
  refine va_sld hx hb hX hbl hbA hS (vp_in_nI (by omega) (by omega)) dL_law_473 ?_
  refine wk_ti (v' := xs (i + 2)) (by rw [nI_clamp (by omega)]) ?_
  have hPm := hP.sub (ws' := (mW am cI cJ cB th n t kp ma my rk (cel 4 A) F' T' M' WG GO Y V AT NX)) [15, 16, 17, 18, 19, 20, 21, 22, 23, 24, 25] rfl
  have hDm := hD.sub (ws' := (mW am cI cJ cB th n t kp ma my rk (cel 4 A) F' T' M' WG GO Y V AT NX)) [15, 16, 17, 18, 19, 20, 21, 22, 23, 24, 25] (by decide) rfl
  have hFm := va_free (wc := (mW am cI cJ cB th n t kp ma my rk (cel 4 A) F' T' M' WG GO Y V AT NX)) hD hS hA [15, 16, 17, 18, 19, 20, 21, 22, 23, 24, 25] rfl
  refine wr_go (va_runV (As := [.int (xs (i + 1)), .int (xs (i + 2))]) (rest := []) ⟨hx, hb, hml, hown, hts⟩ (c_X7_travel l dC dI am cI cJ cB th n t kp ma my rk (cel 4 A) F' T' M' WG GO Y V AT NX hn0 (xs (i + 1)) (xs (i + 2)) H1.size) (cwV 2 hts gL_law_X7_travel rfl rfl rfl (by decide +kernel) ⟨Nat.le_of_ble_eq_true rfl, Nat.le_of_ble_eq_true rfl⟩) ⟨wr_blind, va_recv hK hPm (ci := 6) (q0 := 0) rfl rfl, fun U hU hW => ⟨rfl, by rw [hU], by rw [hU]; exact hPm, va_K.moved hW.alike hK, hDm.weaken (fun _ _ _ _ => trivial)⟩⟩ rfl rfl hl.1 rfl (lv_room (Nat.le_of_ble_eq_true rfl)) dL_law_474 ⟨hcl, hsl⟩) hS hFm hFm (fun r8 W8 H2 locs2 hpost hP2 hD2 hz8 hk8 hS => ?_)
  obtain ⟨rfl, rfl⟩ := hpost
  obtain ⟨hP, hD⟩ := va_join (wr := oW ao cJ gv :: (cW ad cI cJ n t (cel t A) (hgt A) RK GP sm F T M ST ln mn E)) (w1 := (mW am cI cJ cB (ktr n (xs (i + 1)) (xs (i + 2))) n t kp ma my rk (cel 4 A) F' T' M' WG GO Y V AT NX)) hP hD [15, 16, 17, 18, 19, 20, 21, 22, 23, 24, 25] [0, 1, 2, 3, 4, 5, 6, 7, 8, 9, 10, 11, 12, 13, 14] rfl rfl (by decide) (by decide) hk8 hFm hP2 hD2
  have hP : va_P (dC, dI) vwCl (lwW ao ad am cI cJ cB n t A gv RK GP sm F T M ST ln mn E (ktr n (xs (i + 1)) (xs (i + 2))) kp ma my rk F' T' M' WG GO Y V AT NX) H2 := hP
  have hD : va_D A0 (lwW ao ad am cI cJ cB n t A gv RK GP sm F T M ST ln mn E (ktr n (xs (i + 1)) (xs (i + 2))) kp ma my rk F' T' M' WG GO Y V AT NX) := hD
  refine W.eq (g2 := F0 m 477 ls [.int (nI (if ktr n (xs (i + 1)) (xs (i + 2)) = 0 then vtr (xs (i + 1)).toNatClampNeg (xs (i + 2)).toNatClampNeg else 0))]) rfl ?_
  refine lv_istore (lv' := [(6, .int (nI (if ktr n (xs (i + 1)) (xs (i + 2)) = 0 then vtr (xs (i + 1)).toNatClampNeg (xs (i + 2)).toNatClampNeg else 0))), (5, .int (nI (ktr n (xs (i + 1)) (xs (i + 2))))), (0, .ref b), (1, .ref (ad 0)), (2, .ref (am 0)), (3, .ref ao), (4, .int (nI i))]) hx hb dL_law_477 hl (by decide) rfl (fun ls hl => ?_)
  refine lv_aload_n hx hb dL_law_479 rfl (lv_at hl 4 rfl) ?_
  have hPm := hP.sub (ws' := (mW am cI cJ cB (ktr n (xs (i + 1)) (xs (i + 2))) n t kp ma my rk (cel 4 A) F' T' M' WG GO Y V AT NX)) [15, 16, 17, 18, 19, 20, 21, 22, 23, 24, 25] rfl
  refine pu_go (va_runV (As := []) (rest := []) ⟨hx, hb, hml, hown, hts⟩ (c_X7_thrown l dC dI (mW am cI cJ cB (ktr n (xs (i + 1)) (xs (i + 2))) n t kp ma my rk (cel 4 A) F' T' M' WG GO Y V AT NX) [(cI, .int), (cJ, .long), (cB, .byte)] (am 0) _ rfl (nI (ktr n (xs (i + 1)) (xs (i + 2)))) rfl) (cwV 0 hts gL_law_X7_thrown rfl rfl rfl (by decide +kernel) ⟨Nat.le_of_ble_eq_true rfl, Nat.le_of_ble_eq_true rfl⟩) ⟨ro_blind, va_recv hK hPm (ci := 6) (q0 := 0) rfl rfl, fun U hU hW => ⟨rfl, by rw [hU]; exact hPm, va_K.moved hW.alike hK⟩⟩ rfl rfl hl.1 rfl (lv_room (Nat.le_of_ble_eq_true rfl)) dL_law_480 ⟨hcl, hsl⟩) ?_
  refine lv_iload hx hb dL_law_483 (lv_at hl 1 rfl) ?_
  refine lv_icmp_eq (tgt := 490) hx hb dL_law_485 (by decide) (fun _ => ?_) (fun q => absurd rfl q)
  refine lv_iload hx hb dL_law_490 (lv_at hl 1 rfl) ?_
  refine lv_if_ne (tgt := 507) hx hb dL_law_492 (by decide) (fun _ => ?_) (fun c9 => ?_)
  · refine lv_goto (tgt := 603) hx hb dL_law_507 (by decide) ?_
    subst hAe
    exact kk _ _ _ ⟨A, gv, RK, GP, sm, F, T, M, ST, ln, mn, E, ktr n (xs (i + 1)) (xs (i + 2)), kp, ma, my, rk, F', T', M', WG, GO, Y, V, AT, NX, ⟨hab, hR0, hE0, hS0, hbd, hV, hY, hkp⟩, hP, hD, hS, lv_sub hl [2, 3, 4, 5, 6] rfl⟩
  · refine lv_aload_n hx hb dL_law_495 rfl (lv_at hl 5 rfl) ?_
    refine lv_iconst (v := nI 0) hx hb dL_law_496 (by decide +kernel) ?_
    refine va_lald hx hb hK hP 0 1 rfl rfl (vp_in_nI (by decide) (by decide)) dL_law_497 ?_
    refine lv_iload hx hb dL_law_498 (lv_at hl 0 rfl) ?_
    refine lv_i2l (v := (nI (if ktr n (xs (i + 1)) (xs (i + 2)) = 0 then vtr (xs (i + 1)).toNatClampNeg (xs (i + 2)).toNatClampNeg else 0)).toInt64) hx hb dL_law_500 rfl ?_
    refine wl_eq (tgt := 507) hx hb dL_law_501 dL_law_502 (by decide) (by rw [nI_clamp (by decide)]; exact hO1 (nI_z ktr_le c9)) ?_
    refine lv_goto (tgt := 603) hx hb dL_law_507 (by decide) ?_
    subst hAe
    exact kk _ _ _ ⟨A, gv, RK, GP, sm, F, T, M, ST, ln, mn, E, ktr n (xs (i + 1)) (xs (i + 2)), kp, ma, my, rk, F', T', M', WG, GO, Y, V, AT, NX, ⟨hab, hR0, hE0, hS0, hbd, hV, hY, hkp⟩, hP, hD, hS, lv_sub hl [2, 3, 4, 5, 6] rfl⟩
set_option maxHeartbeats 4000000 in
set_option maxRecDepth 100000 in
theorem law_at {p : Program} {l : Launch} {e : Env} {s : State} {m : MethodId} {below : List Frame} {meth : Method} {c : Code} {b L : Nat} {xs : Nat → Int32} {dC : Nat → ClassId} {dI : Nat → Nat → Nat} {ad am : Nat → Nat} {ao : Nat} {cI cJ cB : ClassId} {n t i : Nat} {ls : Array Slot} {H : Heap} {locs : List Loc} {cells slots : Nat} {Q : State → Prop} (C : lwC l p s m c b L xs dC dI cI cJ cB) (hn0 : 2 ≤ n ∧ n ≤ 4) (ht0 : 2 ≤ t ∧ t ≤ 4) (hi : i + 2 < L) (hcl : cells + 1 ≤ 601024) (hsl : slots + 6 ≤ 7293000) (h : lwS (dC, dI) s ad am ao cI cJ cB n t b i ls H locs)
    (kk : ∀ ls H locs, lwS (dC, dI) s ad am ao cI cJ cB n t b i ls H locs → W p l e room_1 s m #[Value.ref b] below meth c H locs (cells + 1) (slots + 6) Q (F0 m 603 ls [])) : W p l e room_1 s m #[Value.ref b] below meth c H locs cells slots Q (F0 m 510 ls []) := by
  obtain ⟨hx, hb, hml, hown, hts, hX, hbl, hL, hK, hN, hTw, hZ, hLs, hlt⟩ := C
  obtain ⟨A, ov, RK, GP, sm, F, T, M, ST, ln, mn, E, th, kp, ma, my, rk, F', T', M', WG, GO, Y, V, AT, NX, hR, hP, hD, hS, hl⟩ := h
  obtain ⟨hab, hR0, hE0, hS0, hbd, hV, hY, hkp⟩ := hR
  generalize hAe : (fun q : Nat => s.heap.size ≤ q) = A0 at hD hS hZ
  have hA : ∀ q : Nat, s.heap.size ≤ q → A0 q := fun q h => by rw [← hAe]; exact h
  have hbA : ¬ A0 b := by rw [← hAe]; exact Nat.not_le.mpr hbl
  have hKc := hK.sub (tys' := [(cI, .int), (cJ, .long)]) [0, 1] rfl
  have hcel : ∀ w j, cel w A j < 2147483648 := fun w j => by have := cel_lt (w := w) hab j; omega
  have hB0 : ∀ j, hgt A j ≤ 4 := fun j => by have := hgt_le hab j; omega
  have hH0 : ∀ j, hgt A j < 1000000 := fun j => by have := hB0 j; omega
  have hkpt := kept_kpt hn0.2 hkp hbd.1 hbd.2.2.1
  have h6 := nwr_6 hab hn0.2 ht0.2 GO
  have hmy := hbd.1
  refine lv_aload_n hx hb dL_law_510 rfl (lv_at hl 1 rfl) ?_
  refine lv_aload_n hx hb dL_law_511 rfl (lv_at hl 0 rfl) ?_
  refine lv_iload hx hb dL_law_512 (lv_at hl 4 rfl) ?_
  refine lv_iconst (v := nI 1) hx hb dL_law_514 (by decide +kernel) ?_
  refine wk_iadd hx hb dL_law_515 ?_
  refine va_sld hx hb hX hbl hbA hS (vp_in_nI (by omega) (by omega)) dL_law_516 ?_
  refine wk_ti (v' := xs (i + 1)) (by rw [nI_clamp (by omega)]) ?_
  refine lv_aload_n hx hb dL_law_517 rfl (lv_at hl 0 rfl) ?_
  refine lv_iload hx hb dL_law_518 (lv_at hl 4 rfl) ?_
  refine lv_iconst (v := nI 2) hx hb dL_law_520 (by decide +kernel) ?_
  refine wk_iadd hx hb dL_law_521 ?_
  refine va_sld hx hb hX hbl hbA hS (vp_in_nI (by omega) (by omega)) dL_law_522 ?_
  refine wk_ti (v' := xs (i + 2)) (by rw [nI_clamp (by omega)]) ?_
  refine lv_aload_n hx hb dL_law_523 rfl (lv_at hl 3 rfl) ?_
  have hPc := hP.sub (ws' := (oW ao cJ ov :: (cW ad cI cJ n t (cel t A) (hgt A) RK GP sm F T M ST ln mn E))) [0, 1, 2, 3, 4, 5, 6, 7, 8, 9, 10, 11, 12, 13, 14] rfl
  have hDc := hD.sub (ws' := (oW ao cJ ov :: (cW ad cI cJ n t (cel t A) (hgt A) RK GP sm F T M ST ln mn E))) [0, 1, 2, 3, 4, 5, 6, 7, 8, 9, 10, 11, 12, 13, 14] (by decide) rfl
  have hFc := va_free (wc := (oW ao cJ ov :: (cW ad cI cJ n t (cel t A) (hgt A) RK GP sm F T M ST ln mn E))) hD hS hA [0, 1, 2, 3, 4, 5, 6, 7, 8, 9, 10, 11, 12, 13, 14] rfl
  refine wr_go (vx_runSW (As := [.ref (ad 0), .int (xs (i + 1)), .int (xs (i + 2)), .ref ao]) (rest := []) ⟨hx, hb, hml, hown, hts⟩ (c_L_at l hlt dC dI ad cI cJ n t (cel t A) (hgt A) RK GP sm F T M ST ln mn E ao ov hn0 ht0 (xs (i + 1)) (xs (i + 2)) H.size) (vx_cwSW 4 hts gL_law_L_at rfl rfl rfl (by decide +kernel) ⟨Nat.le_of_ble_eq_true rfl, Nat.le_of_ble_eq_true rfl⟩) ⟨lo_blind, fun U hU hW => ⟨rfl, ⟨⟨⟨by rw [hU], by rw [hU]; exact hPc, va_K.moved hW.alike hKc, hDc.weaken (fun _ _ _ _ => trivial)⟩, nst_warm hW hN⟩, tws_warm hW hTw, by rw [hU]; exact tzq_moved hW.alike (tzq_narrow (tzq_kept hZ hS.2.1) hFc)⟩, lst_warm hW hLs⟩⟩ rfl rfl hl.1 rfl (lv_room (Nat.le_of_ble_eq_true rfl)) dL_law_524 ⟨hcl, hsl⟩) hS hFc hFc (fun r9 W9 H1 locs1 hpost hP1 hD1 hz9 hk9 hS => ?_)
  obtain ⟨gv, rfl, rfl, hO1⟩ := at_p hab hn0 ht0 rfl rfl hpost
  obtain ⟨hP, hD⟩ := va_join (wr := (mW am cI cJ cB th n t kp ma my rk (cel 4 A) F' T' M' WG GO Y V AT NX)) (w1 := oW ao cJ gv :: (cW ad cI cJ n t (cel t A) (hgt A) RK GP sm F T M ST ln mn E)) hP hD [0, 1, 2, 3, 4, 5, 6, 7, 8, 9, 10, 11, 12, 13, 14] [15, 16, 17, 18, 19, 20, 21, 22, 23, 24, 25] rfl rfl (by decide) (by decide) hk9 hFc hP1 hD1
  have hP := hP.sub (ws' := (oW ao cJ gv :: ((cW ad cI cJ n t (cel t A) (hgt A) RK GP sm F T M ST ln mn E) ++ (mW am cI cJ cB th n t kp ma my rk (cel 4 A) F' T' M' WG GO Y V AT NX)))) [11, 12, 13, 14, 15, 16, 17, 18, 19, 20, 21, 22, 23, 24, 25, 0, 1, 2, 3, 4, 5, 6, 7, 8, 9, 10] rfl
  have hD := hD.sub (ws' := (oW ao cJ gv :: ((cW ad cI cJ n t (cel t A) (hgt A) RK GP sm F T M ST ln mn E) ++ (mW am cI cJ cB th n t kp ma my rk (cel 4 A) F' T' M' WG GO Y V AT NX)))) [11, 12, 13, 14, 15, 16, 17, 18, 19, 20, 21, 22, 23, 24, 25, 0, 1, 2, 3, 4, 5, 6, 7, 8, 9, 10] (by decide) rfl
  refine W.eq (g2 := F0 m 527 ls [.int (nI (kat n t (xs (i + 1)) (xs (i + 2))))]) rfl ?_
  refine lv_istore (lv' := [(5, .int (nI (kat n t (xs (i + 1)) (xs (i + 2))))), (0, .ref b), (1, .ref (ad 0)), (2, .ref (am 0)), (3, .ref ao), (4, .int (nI i))]) hx hb dL_law_527 hl (by decide) rfl (fun ls hl => ?_)
  refine lv_aload_n hx hb dL_law_529 rfl (lv_at hl 3 rfl) ?_
  refine lv_aload_n hx hb dL_law_530 rfl (lv_at hl 1 rfl) ?_
  refine lv_iload hx hb dL_law_531 (lv_at hl 5 rfl) ?_
  refine lv_iconst (v := nI 1) hx hb dL_law_533 (by decide +kernel) ?_
  refine wk_iadd hx hb dL_law_534 ?_
  refine va_sld hx hb hX hbl hbA hS (vp_in_nI (by omega) (by omega)) dL_law_535 ?_
  refine wk_ti (v' := xs (i + 1)) (by rw [nI_clamp (by omega)]) ?_
  refine lv_aload_n hx hb dL_law_536 rfl (lv_at hl 1 rfl) ?_
  refine lv_iload hx hb dL_law_537 (lv_at hl 5 rfl) ?_
  refine lv_iconst (v := nI 2) hx hb dL_law_539 (by decide +kernel) ?_
  refine wk_iadd hx hb dL_law_540 ?_
  refine va_sld hx hb hX hbl hbA hS (vp_in_nI (by omega) (by omega)) dL_law_541 ?_
  refine wk_ti (v' := xs (i + 2)) (by rw [nI_clamp (by omega)]) ?_
  have hPm := hP.sub (ws' := (mW am cI cJ cB th n t kp ma my rk (cel 4 A) F' T' M' WG GO Y V AT NX)) [15, 16, 17, 18, 19, 20, 21, 22, 23, 24, 25] rfl
  have hDm := hD.sub (ws' := (mW am cI cJ cB th n t kp ma my rk (cel 4 A) F' T' M' WG GO Y V AT NX)) [15, 16, 17, 18, 19, 20, 21, 22, 23, 24, 25] (by decide) rfl
  have hFm := va_free (wc := (mW am cI cJ cB th n t kp ma my rk (cel 4 A) F' T' M' WG GO Y V AT NX)) hD hS hA [15, 16, 17, 18, 19, 20, 21, 22, 23, 24, 25] rfl
  refine wr_go (va_runV (As := [.int (xs (i + 1)), .int (xs (i + 2))]) (rest := []) ⟨hx, hb, hml, hown, hts⟩ (c_X7_at l dC dI am cI cJ cB th n t kp ma my rk (cel 4 A) F' T' M' WG GO Y V AT NX hn0 ht0 (xs (i + 1)) (xs (i + 2)) H1.size) (cwV 2 hts gL_law_X7_at rfl rfl rfl (by decide +kernel) ⟨Nat.le_of_ble_eq_true rfl, Nat.le_of_ble_eq_true rfl⟩) ⟨wr_blind, va_recv hK hPm (ci := 6) (q0 := 0) rfl rfl, fun U hU hW => ⟨rfl, by rw [hU], by rw [hU]; exact hPm, va_K.moved hW.alike hK, hDm.weaken (fun _ _ _ _ => trivial)⟩⟩ rfl rfl hl.1 rfl (lv_room (Nat.le_of_ble_eq_true rfl)) dL_law_542 ⟨hcl, hsl⟩) hS hFm hFm (fun r8 W8 H2 locs2 hpost hP2 hD2 hz8 hk8 hS => ?_)
  obtain ⟨rfl, rfl⟩ := hpost
  obtain ⟨hP, hD⟩ := va_join (wr := oW ao cJ gv :: (cW ad cI cJ n t (cel t A) (hgt A) RK GP sm F T M ST ln mn E)) (w1 := (mW am cI cJ cB (kat n t (xs (i + 1)) (xs (i + 2))) n t kp ma my rk (cel 4 A) F' T' M' WG GO Y V AT NX)) hP hD [15, 16, 17, 18, 19, 20, 21, 22, 23, 24, 25] [0, 1, 2, 3, 4, 5, 6, 7, 8, 9, 10, 11, 12, 13, 14] rfl rfl (by decide) (by decide) hk8 hFm hP2 hD2
  have hP : va_P (dC, dI) vwCl (lwW ao ad am cI cJ cB n t A gv RK GP sm F T M ST ln mn E (kat n t (xs (i + 1)) (xs (i + 2))) kp ma my rk F' T' M' WG GO Y V AT NX) H2 := hP
  have hD : va_D A0 (lwW ao ad am cI cJ cB n t A gv RK GP sm F T M ST ln mn E (kat n t (xs (i + 1)) (xs (i + 2))) kp ma my rk F' T' M' WG GO Y V AT NX) := hD
  refine W.eq (g2 := F0 m 545 ls [.int (nI (if kat n t (xs (i + 1)) (xs (i + 2)) = 0 then cel 4 A (4 * (xs (i + 1)).toNatClampNeg + (xs (i + 2)).toNatClampNeg) else 0))]) rfl ?_
  refine lv_istore (lv' := [(6, .int (nI (if kat n t (xs (i + 1)) (xs (i + 2)) = 0 then cel 4 A (4 * (xs (i + 1)).toNatClampNeg + (xs (i + 2)).toNatClampNeg) else 0))), (5, .int (nI (kat n t (xs (i + 1)) (xs (i + 2))))), (0, .ref b), (1, .ref (ad 0)), (2, .ref (am 0)), (3, .ref ao), (4, .int (nI i))]) hx hb dL_law_545 hl (by decide) rfl (fun ls hl => ?_)
  refine lv_aload_n hx hb dL_law_547 rfl (lv_at hl 4 rfl) ?_
  have hPm := hP.sub (ws' := (mW am cI cJ cB (kat n t (xs (i + 1)) (xs (i + 2))) n t kp ma my rk (cel 4 A) F' T' M' WG GO Y V AT NX)) [15, 16, 17, 18, 19, 20, 21, 22, 23, 24, 25] rfl
  refine pu_go (va_runV (As := []) (rest := []) ⟨hx, hb, hml, hown, hts⟩ (c_X7_thrown l dC dI (mW am cI cJ cB (kat n t (xs (i + 1)) (xs (i + 2))) n t kp ma my rk (cel 4 A) F' T' M' WG GO Y V AT NX) [(cI, .int), (cJ, .long), (cB, .byte)] (am 0) _ rfl (nI (kat n t (xs (i + 1)) (xs (i + 2)))) rfl) (cwV 0 hts gL_law_X7_thrown rfl rfl rfl (by decide +kernel) ⟨Nat.le_of_ble_eq_true rfl, Nat.le_of_ble_eq_true rfl⟩) ⟨ro_blind, va_recv hK hPm (ci := 6) (q0 := 0) rfl rfl, fun U hU hW => ⟨rfl, by rw [hU]; exact hPm, va_K.moved hW.alike hK⟩⟩ rfl rfl hl.1 rfl (lv_room (Nat.le_of_ble_eq_true rfl)) dL_law_548 ⟨hcl, hsl⟩) ?_
  refine lv_iload hx hb dL_law_551 (lv_at hl 1 rfl) ?_
  refine lv_icmp_eq (tgt := 558) hx hb dL_law_553 (by decide) (fun _ => ?_) (fun q => absurd rfl q)
  refine lv_iload hx hb dL_law_558 (lv_at hl 1 rfl) ?_
  refine lv_if_ne (tgt := 575) hx hb dL_law_560 (by decide) (fun _ => ?_) (fun c9 => ?_)
  · refine lv_goto (tgt := 603) hx hb dL_law_575 (by decide) ?_
    subst hAe
    exact kk _ _ _ ⟨A, gv, RK, GP, sm, F, T, M, ST, ln, mn, E, kat n t (xs (i + 1)) (xs (i + 2)), kp, ma, my, rk, F', T', M', WG, GO, Y, V, AT, NX, ⟨hab, hR0, hE0, hS0, hbd, hV, hY, hkp⟩, hP, hD, hS, lv_sub hl [2, 3, 4, 5, 6] rfl⟩
  · refine lv_aload_n hx hb dL_law_563 rfl (lv_at hl 5 rfl) ?_
    refine lv_iconst (v := nI 0) hx hb dL_law_564 (by decide +kernel) ?_
    refine va_lald hx hb hK hP 0 1 rfl rfl (vp_in_nI (by decide) (by decide)) dL_law_565 ?_
    refine lv_iload hx hb dL_law_566 (lv_at hl 0 rfl) ?_
    refine lv_i2l (v := (nI (if kat n t (xs (i + 1)) (xs (i + 2)) = 0 then cel 4 A (4 * (xs (i + 1)).toNatClampNeg + (xs (i + 2)).toNatClampNeg) else 0)).toInt64) hx hb dL_law_568 rfl ?_
    refine wl_eq (tgt := 575) hx hb dL_law_569 dL_law_570 (by decide) (by rw [nI_clamp (by decide)]; exact hO1 (nI_z kat_le' c9)) ?_
    refine lv_goto (tgt := 603) hx hb dL_law_575 (by decide) ?_
    subst hAe
    exact kk _ _ _ ⟨A, gv, RK, GP, sm, F, T, M, ST, ln, mn, E, kat n t (xs (i + 1)) (xs (i + 2)), kp, ma, my, rk, F', T', M', WG, GO, Y, V, AT, NX, ⟨hab, hR0, hE0, hS0, hbd, hV, hY, hkp⟩, hP, hD, hS, lv_sub hl [2, 3, 4, 5, 6] rfl⟩
set_option maxHeartbeats 4000000 in
set_option maxRecDepth 100000 in
theorem law_blocked {p : Program} {l : Launch} {e : Env} {s : State} {m : MethodId} {below : List Frame} {meth : Method} {c : Code} {b L : Nat} {xs : Nat → Int32} {dC : Nat → ClassId} {dI : Nat → Nat → Nat} {ad am : Nat → Nat} {ao : Nat} {cI cJ cB : ClassId} {n t i : Nat} {ls : Array Slot} {H : Heap} {locs : List Loc} {cells slots : Nat} {Q : State → Prop} (C : lwC l p s m c b L xs dC dI cI cJ cB) (hn0 : 2 ≤ n ∧ n ≤ 4) (ht0 : 2 ≤ t ∧ t ≤ 4) (hi : i + 2 < L) (hcl : cells + 1 ≤ 601024) (hsl : slots + 6 ≤ 7293000) (h : lwS (dC, dI) s ad am ao cI cJ cB n t b i ls H locs)
    (kk : ∀ ls H locs, lwS (dC, dI) s ad am ao cI cJ cB n t b i ls H locs → W p l e room_1 s m #[Value.ref b] below meth c H locs (cells + 1) (slots + 6) Q (F0 m 603 ls [])) : W p l e room_1 s m #[Value.ref b] below meth c H locs cells slots Q (F0 m 416 ls []) := by
  obtain ⟨hx, hb, hml, hown, hts, hX, hbl, hL, hK, hN, hTw, hZ, hLs, hlt⟩ := C
  obtain ⟨A, ov, RK, GP, sm, F, T, M, ST, ln, mn, E, th, kp, ma, my, rk, F', T', M', WG, GO, Y, V, AT, NX, hR, hP, hD, hS, hl⟩ := h
  obtain ⟨hab, hR0, hE0, hS0, hbd, hV, hY, hkp⟩ := hR
  generalize hAe : (fun q : Nat => s.heap.size ≤ q) = A0 at hD hS hZ
  have hA : ∀ q : Nat, s.heap.size ≤ q → A0 q := fun q h => by rw [← hAe]; exact h
  have hbA : ¬ A0 b := by rw [← hAe]; exact Nat.not_le.mpr hbl
  have hKc := hK.sub (tys' := [(cI, .int), (cJ, .long)]) [0, 1] rfl
  have hcel : ∀ w j, cel w A j < 2147483648 := fun w j => by have := cel_lt (w := w) hab j; omega
  have hB0 : ∀ j, hgt A j ≤ 4 := fun j => by have := hgt_le hab j; omega
  have hH0 : ∀ j, hgt A j < 1000000 := fun j => by have := hB0 j; omega
  have hkpt := kept_kpt hn0.2 hkp hbd.1 hbd.2.2.1
  have h6 := nwr_6 hab hn0.2 ht0.2 GO
  have hmy := hbd.1
  refine lv_aload_n hx hb dL_law_416 rfl (lv_at hl 1 rfl) ?_
  have hPc := hP.sub (ws' := (cW ad cI cJ n t (cel t A) (hgt A) RK GP sm F T M ST ln mn E)) [1, 2, 3, 4, 5, 6, 7, 8, 9, 10, 11, 12, 13, 14] rfl
  have hDc := hD.sub (ws' := (cW ad cI cJ n t (cel t A) (hgt A) RK GP sm F T M ST ln mn E)) [1, 2, 3, 4, 5, 6, 7, 8, 9, 10, 11, 12, 13, 14] (by decide) rfl
  have hFc := va_free (wc := (cW ad cI cJ n t (cel t A) (hgt A) RK GP sm F T M ST ln mn E)) hD hS hA [1, 2, 3, 4, 5, 6, 7, 8, 9, 10, 11, 12, 13, 14] rfl
  refine wr_go (va_runV (As := []) (rest := []) ⟨hx, hb, hml, hown, hts⟩ (c_X6_blocked l dC dI ad cI cJ n t (cel t A) (hgt A) RK GP sm F T M ST ln mn E hn0 ht0 (hcel t) hH0 hR0 H.size) (cwV 0 hts gL_law_X6_blocked rfl rfl rfl (by decide +kernel) ⟨Nat.le_of_ble_eq_true rfl, Nat.le_of_ble_eq_true rfl⟩) ⟨wc_blind, va_recv hK hPc (ci := 5) (q0 := 0) rfl rfl, fun U hU hW => ⟨rfl, ⟨by rw [hU], by rw [hU]; exact hPc, va_K.moved hW.alike hKc, hDc.weaken (fun _ _ _ _ => trivial)⟩, nst_warm hW hN⟩⟩ rfl rfl hl.1 rfl (lv_room (Nat.le_of_ble_eq_true rfl)) dL_law_417 ⟨Nat.le_trans (Nat.le_succ cells) hcl, Nat.le_trans (Nat.le_add_right slots 6) hsl⟩) hS hFc hFc (fun r9 W9 H1 locs1 hpost hP1 hD1 hz9 hk9 hS => ?_)
  obtain ⟨rfl, rfl⟩ := hpost
  obtain ⟨hP, hD⟩ := va_join (wr := oW ao cJ ov :: (mW am cI cJ cB th n t kp ma my rk (cel 4 A) F' T' M' WG GO Y V AT NX)) (w1 := (cW ad cI cJ n t (cel t A) (hgt A) ((lrn (cel t A) RK GP).2.1) ((lrn (cel t A) RK GP).2.2) sm F T M ST ln mn E)) hP hD [1, 2, 3, 4, 5, 6, 7, 8, 9, 10, 11, 12, 13, 14] [0, 15, 16, 17, 18, 19, 20, 21, 22, 23, 24, 25] rfl rfl (by decide) (by decide) hk9 hFc hP1 hD1
  have hP := hP.sub (ws' := (oW ao cJ ov :: ((cW ad cI cJ n t (cel t A) (hgt A) ((lrn (cel t A) RK GP).2.1) ((lrn (cel t A) RK GP).2.2) sm F T M ST ln mn E) ++ (mW am cI cJ cB th n t kp ma my rk (cel 4 A) F' T' M' WG GO Y V AT NX)))) [0, 12, 13, 14, 15, 16, 17, 18, 19, 20, 21, 22, 23, 24, 25, 1, 2, 3, 4, 5, 6, 7, 8, 9, 10, 11] rfl
  have hD := hD.sub (ws' := (oW ao cJ ov :: ((cW ad cI cJ n t (cel t A) (hgt A) ((lrn (cel t A) RK GP).2.1) ((lrn (cel t A) RK GP).2.2) sm F T M ST ln mn E) ++ (mW am cI cJ cB th n t kp ma my rk (cel 4 A) F' T' M' WG GO Y V AT NX)))) [0, 12, 13, 14, 15, 16, 17, 18, 19, 20, 21, 22, 23, 24, 25, 1, 2, 3, 4, 5, 6, 7, 8, 9, 10, 11] (by decide) rfl
  refine W.eq (g2 := F0 m 420 ls [.int (nI (ybb (pks (cel t A) (lrn (cel t A) RK GP).2.1 (hgt A) t n) 4))]) rfl ?_
  refine lv_aload_n hx hb dL_law_420 rfl (lv_at hl 2 rfl) ?_
  have hPm := hP.sub (ws' := (mW am cI cJ cB th n t kp ma my rk (cel 4 A) F' T' M' WG GO Y V AT NX)) [15, 16, 17, 18, 19, 20, 21, 22, 23, 24, 25] rfl
  have hDm := hD.sub (ws' := (mW am cI cJ cB th n t kp ma my rk (cel 4 A) F' T' M' WG GO Y V AT NX)) [15, 16, 17, 18, 19, 20, 21, 22, 23, 24, 25] (by decide) rfl
  have hFm := va_free (wc := (mW am cI cJ cB th n t kp ma my rk (cel 4 A) F' T' M' WG GO Y V AT NX)) hD hS hA [15, 16, 17, 18, 19, 20, 21, 22, 23, 24, 25] rfl
  refine wr_go (va_runV (As := []) (rest := [.int (nI (ybb (pks (cel t A) (lrn (cel t A) RK GP).2.1 (hgt A) t n) 4))]) ⟨hx, hb, hml, hown, hts⟩ (c_X7_blocked l dC dI am cI cJ cB th n t kp ma my rk (cel 4 A) F' T' M' WG GO Y V AT NX (hcel 4) hbd.2.2.2.2.2 h6 H1.size) (cwV 0 hts gL_law_X7_blocked rfl rfl rfl (by decide +kernel) ⟨Nat.le_of_ble_eq_true rfl, Nat.le_of_ble_eq_true rfl⟩) ⟨wr_blind, va_recv hK hPm (ci := 6) (q0 := 0) rfl rfl, fun U hU hW => ⟨rfl, by rw [hU], by rw [hU]; exact hPm, va_K.moved hW.alike hK, hDm.weaken (fun _ _ _ _ => trivial)⟩⟩ rfl rfl hl.1 rfl (lv_room (Nat.le_of_ble_eq_true rfl)) dL_law_421 ⟨Nat.le_trans (Nat.le_succ cells) hcl, Nat.le_trans (Nat.le_add_right slots 6) hsl⟩) hS hFm hFm (fun r8 W8 H2 locs2 hpost hP2 hD2 hz8 hk8 hS => ?_)
  obtain ⟨rfl, rfl⟩ := hpost
  obtain ⟨hP, hD⟩ := va_join (wr := oW ao cJ ov :: (cW ad cI cJ n t (cel t A) (hgt A) ((lrn (cel t A) RK GP).2.1) ((lrn (cel t A) RK GP).2.2) sm F T M ST ln mn E)) (w1 := (mW am cI cJ cB 0 n t kp ma my ((nwr (cel 4 A) GO 20).1) (cel 4 A) F' T' M' WG ((nwr (cel 4 A) GO 20).2) Y V AT NX)) hP hD [15, 16, 17, 18, 19, 20, 21, 22, 23, 24, 25] [0, 1, 2, 3, 4, 5, 6, 7, 8, 9, 10, 11, 12, 13, 14] rfl rfl (by decide) (by decide) hk8 hFm hP2 hD2
  have hP : va_P (dC, dI) vwCl (lwW ao ad am cI cJ cB n t A ov ((lrn (cel t A) RK GP).2.1) ((lrn (cel t A) RK GP).2.2) sm F T M ST ln mn E 0 kp ma my ((nwr (cel 4 A) GO 20).1) F' T' M' WG ((nwr (cel 4 A) GO 20).2) Y V AT NX) H2 := hP
  have hD : va_D A0 (lwW ao ad am cI cJ cB n t A ov ((lrn (cel t A) RK GP).2.1) ((lrn (cel t A) RK GP).2.2) sm F T M ST ln mn E 0 kp ma my ((nwr (cel 4 A) GO 20).1) F' T' M' WG ((nwr (cel 4 A) GO 20).2) Y V AT NX) := hD
  refine W.eq (g2 := F0 m 424 ls [.int (nI (mbs (nwy (cel 4 A) (nwr (cel 4 A) GO 20).2 (nwr (cel 4 A) GO 20).1 16) 16)), .int (nI (ybb (pks (cel t A) (lrn (cel t A) RK GP).2.1 (hgt A) t n) 4))]) rfl ?_
  refine lv_icmp_eq (tgt := 603) hx hb dL_law_424 (by decide) (fun _ => ?_) (fun q => absurd (congrArg nI (blk_eq hab hn0 ht0 RK GP GO)) q)
  subst hAe
  exact W.widen (k := cells + 1) (n := slots + 6) (Nat.le_succ _) (Nat.le_add_right _ 6) (kk _ _ _ ⟨A, ov, (lrn (cel t A) RK GP).2.1, (lrn (cel t A) RK GP).2.2, sm, F, T, M, ST, ln, mn, E, 0, kp, ma, my, (nwr (cel 4 A) GO 20).1, F', T', M', WG, (nwr (cel 4 A) GO 20).2, Y, V, AT, NX, ⟨hab, lrn_lt hR0, hE0, hS0, ⟨hbd.1, hbd.2.1, hbd.2.2.1, hbd.2.2.2.1, hbd.2.2.2.2.1, fun j => nwr_lt (cel 4 A) GO hbd.2.2.2.2.2 20 (Nat.le_refl 20) j⟩, hV, hY, hkp⟩, hP, hD, hS, lv_sub hl [0, 1, 2, 3, 4] rfl⟩)
set_option maxHeartbeats 4000000 in
set_option maxRecDepth 100000 in
theorem law_rule {p : Program} {l : Launch} {e : Env} {s : State} {m : MethodId} {below : List Frame} {meth : Method} {c : Code} {b L : Nat} {xs : Nat → Int32} {dC : Nat → ClassId} {dI : Nat → Nat → Nat} {ad am : Nat → Nat} {ao : Nat} {cI cJ cB : ClassId} {n t i : Nat} {ls : Array Slot} {H : Heap} {locs : List Loc} {cells slots : Nat} {Q : State → Prop} (C : lwC l p s m c b L xs dC dI cI cJ cB) (hn0 : 2 ≤ n ∧ n ≤ 4) (ht0 : 2 ≤ t ∧ t ≤ 4) (hi : i + 2 < L) (hcl : cells + 1 ≤ 601024) (hsl : slots + 6 ≤ 7293000) (h : lwS (dC, dI) s ad am ao cI cJ cB n t b i ls H locs)
    (kk : ∀ ls H locs, lwS (dC, dI) s ad am ao cI cJ cB n t b i ls H locs → W p l e room_1 s m #[Value.ref b] below meth c H locs (cells + 1) (slots + 6) Q (F0 m 603 ls [])) : W p l e room_1 s m #[Value.ref b] below meth c H locs cells slots Q (F0 m 429 ls []) := by
  obtain ⟨hx, hb, hml, hown, hts, hX, hbl, hL, hK, hN, hTw, hZ, hLs, hlt⟩ := C
  obtain ⟨A, ov, RK, GP, sm, F, T, M, ST, ln, mn, E, th, kp, ma, my, rk, F', T', M', WG, GO, Y, V, AT, NX, hR, hP, hD, hS, hl⟩ := h
  obtain ⟨hab, hR0, hE0, hS0, hbd, hV, hY, hkp⟩ := hR
  generalize hAe : (fun q : Nat => s.heap.size ≤ q) = A0 at hD hS hZ
  have hA : ∀ q : Nat, s.heap.size ≤ q → A0 q := fun q h => by rw [← hAe]; exact h
  have hbA : ¬ A0 b := by rw [← hAe]; exact Nat.not_le.mpr hbl
  have hKc := hK.sub (tys' := [(cI, .int), (cJ, .long)]) [0, 1] rfl
  have hcel : ∀ w j, cel w A j < 2147483648 := fun w j => by have := cel_lt (w := w) hab j; omega
  have hB0 : ∀ j, hgt A j ≤ 4 := fun j => by have := hgt_le hab j; omega
  have hH0 : ∀ j, hgt A j < 1000000 := fun j => by have := hB0 j; omega
  have hkpt := kept_kpt hn0.2 hkp hbd.1 hbd.2.2.1
  have h6 := nwr_6 hab hn0.2 ht0.2 GO
  have hmy := hbd.1
  refine lv_aload_n hx hb dL_law_429 rfl (lv_at hl 1 rfl) ?_
  have hPc := hP.sub (ws' := (cW ad cI cJ n t (cel t A) (hgt A) RK GP sm F T M ST ln mn E)) [1, 2, 3, 4, 5, 6, 7, 8, 9, 10, 11, 12, 13, 14] rfl
  have hDc := hD.sub (ws' := (cW ad cI cJ n t (cel t A) (hgt A) RK GP sm F T M ST ln mn E)) [1, 2, 3, 4, 5, 6, 7, 8, 9, 10, 11, 12, 13, 14] (by decide) rfl
  have hFc := va_free (wc := (cW ad cI cJ n t (cel t A) (hgt A) RK GP sm F T M ST ln mn E)) hD hS hA [1, 2, 3, 4, 5, 6, 7, 8, 9, 10, 11, 12, 13, 14] rfl
  refine wr_go (va_runV (As := []) (rest := []) ⟨hx, hb, hml, hown, hts⟩ (c_X6_rule l dC dI ad cI cJ n t (cel t A) (hgt A) RK GP sm F T M ST ln mn E hn0 ht0 (hcel t) hH0 hR0 H.size) (cwV 0 hts gL_law_X6_rule rfl rfl rfl (by decide +kernel) ⟨Nat.le_of_ble_eq_true rfl, Nat.le_of_ble_eq_true rfl⟩) ⟨wc_blind, va_recv hK hPc (ci := 5) (q0 := 0) rfl rfl, fun U hU hW => ⟨rfl, ⟨by rw [hU], by rw [hU]; exact hPc, va_K.moved hW.alike hKc, hDc.weaken (fun _ _ _ _ => trivial)⟩, nst_warm hW hN⟩⟩ rfl rfl hl.1 rfl (lv_room (Nat.le_of_ble_eq_true rfl)) dL_law_430 ⟨Nat.le_trans (Nat.le_succ cells) hcl, Nat.le_trans (Nat.le_add_right slots 6) hsl⟩) hS hFc hFc (fun r9 W9 H1 locs1 hpost hP1 hD1 hz9 hk9 hS => ?_)
  obtain ⟨rfl, rfl⟩ := hpost
  obtain ⟨hP, hD⟩ := va_join (wr := oW ao cJ ov :: (mW am cI cJ cB th n t kp ma my rk (cel 4 A) F' T' M' WG GO Y V AT NX)) (w1 := (cW ad cI cJ n t (cel t A) (hgt A) ((lrn (cel t A) RK GP).2.1) ((lrn (cel t A) RK GP).2.2) sm F T M ST ln mn E)) hP hD [1, 2, 3, 4, 5, 6, 7, 8, 9, 10, 11, 12, 13, 14] [0, 15, 16, 17, 18, 19, 20, 21, 22, 23, 24, 25] rfl rfl (by decide) (by decide) hk9 hFc hP1 hD1
  have hP := hP.sub (ws' := (oW ao cJ ov :: ((cW ad cI cJ n t (cel t A) (hgt A) ((lrn (cel t A) RK GP).2.1) ((lrn (cel t A) RK GP).2.2) sm F T M ST ln mn E) ++ (mW am cI cJ cB th n t kp ma my rk (cel 4 A) F' T' M' WG GO Y V AT NX)))) [0, 12, 13, 14, 15, 16, 17, 18, 19, 20, 21, 22, 23, 24, 25, 1, 2, 3, 4, 5, 6, 7, 8, 9, 10, 11] rfl
  have hD := hD.sub (ws' := (oW ao cJ ov :: ((cW ad cI cJ n t (cel t A) (hgt A) ((lrn (cel t A) RK GP).2.1) ((lrn (cel t A) RK GP).2.2) sm F T M ST ln mn E) ++ (mW am cI cJ cB th n t kp ma my rk (cel 4 A) F' T' M' WG GO Y V AT NX)))) [0, 12, 13, 14, 15, 16, 17, 18, 19, 20, 21, 22, 23, 24, 25, 1, 2, 3, 4, 5, 6, 7, 8, 9, 10, 11] (by decide) rfl
  refine W.eq (g2 := F0 m 433 ls [.int (oN (yrl n t 100 0 (yaf 6 (pks (cel t A) (lrn (cel t A) RK GP).2.1 (hgt A) t n))))]) rfl ?_
  refine lv_aload_n hx hb dL_law_433 rfl (lv_at hl 2 rfl) ?_
  have hPm := hP.sub (ws' := (mW am cI cJ cB th n t kp ma my rk (cel 4 A) F' T' M' WG GO Y V AT NX)) [15, 16, 17, 18, 19, 20, 21, 22, 23, 24, 25] rfl
  have hDm := hD.sub (ws' := (mW am cI cJ cB th n t kp ma my rk (cel 4 A) F' T' M' WG GO Y V AT NX)) [15, 16, 17, 18, 19, 20, 21, 22, 23, 24, 25] (by decide) rfl
  have hFm := va_free (wc := (mW am cI cJ cB th n t kp ma my rk (cel 4 A) F' T' M' WG GO Y V AT NX)) hD hS hA [15, 16, 17, 18, 19, 20, 21, 22, 23, 24, 25] rfl
  refine wr_go (va_runV (As := []) (rest := [.int (oN (yrl n t 100 0 (yaf 6 (pks (cel t A) (lrn (cel t A) RK GP).2.1 (hgt A) t n))))]) ⟨hx, hb, hml, hown, hts⟩ (c_X7_rule l dC dI am cI cJ cB th n t kp ma my rk (cel 4 A) F' T' M' WG GO Y V AT NX hn0 ht0 (hcel 4) hbd.2.2.2.2.2 h6 (yrl n t 100 0 (yaf 6 (pks (cel t A) (lrn (cel t A) RK GP).2.1 (hgt A) t n))) (rul_eq hab hn0 ht0 RK GP GO) H1.size) (cwV 0 hts gL_law_X7_rule rfl rfl rfl (by decide +kernel) ⟨Nat.le_of_ble_eq_true rfl, Nat.le_of_ble_eq_true rfl⟩) ⟨wr_blind, va_recv hK hPm (ci := 6) (q0 := 0) rfl rfl, fun U hU hW => ⟨rfl, by rw [hU], by rw [hU]; exact hPm, va_K.moved hW.alike hK, hDm.weaken (fun _ _ _ _ => trivial)⟩⟩ rfl rfl hl.1 rfl (lv_room (Nat.le_of_ble_eq_true rfl)) dL_law_434 ⟨Nat.le_trans (Nat.le_succ cells) hcl, Nat.le_trans (Nat.le_add_right slots 6) hsl⟩) hS hFm hFm (fun r8 W8 H2 locs2 hpost hP2 hD2 hz8 hk8 hS => ?_)
  obtain ⟨rfl, rfl⟩ := hpost
  obtain ⟨hP, hD⟩ := va_join (wr := oW ao cJ ov :: (cW ad cI cJ n t (cel t A) (hgt A) ((lrn (cel t A) RK GP).2.1) ((lrn (cel t A) RK GP).2.2) sm F T M ST ln mn E)) (w1 := (mW am cI cJ cB 0 n t kp ma my ((nwr (cel 4 A) GO 20).1) (cel 4 A) F' T' M' WG ((nwr (cel 4 A) GO 20).2) Y V AT NX)) hP hD [15, 16, 17, 18, 19, 20, 21, 22, 23, 24, 25] [0, 1, 2, 3, 4, 5, 6, 7, 8, 9, 10, 11, 12, 13, 14] rfl rfl (by decide) (by decide) hk8 hFm hP2 hD2
  have hP : va_P (dC, dI) vwCl (lwW ao ad am cI cJ cB n t A ov ((lrn (cel t A) RK GP).2.1) ((lrn (cel t A) RK GP).2.2) sm F T M ST ln mn E 0 kp ma my ((nwr (cel 4 A) GO 20).1) F' T' M' WG ((nwr (cel 4 A) GO 20).2) Y V AT NX) H2 := hP
  have hD : va_D A0 (lwW ao ad am cI cJ cB n t A ov ((lrn (cel t A) RK GP).2.1) ((lrn (cel t A) RK GP).2.2) sm F T M ST ln mn E 0 kp ma my ((nwr (cel 4 A) GO 20).1) F' T' M' WG ((nwr (cel 4 A) GO 20).2) Y V AT NX) := hD
  refine W.eq (g2 := F0 m 437 ls [.int (oN (yrl n t 100 0 (yaf 6 (pks (cel t A) (lrn (cel t A) RK GP).2.1 (hgt A) t n)))), .int (oN (yrl n t 100 0 (yaf 6 (pks (cel t A) (lrn (cel t A) RK GP).2.1 (hgt A) t n))))]) rfl ?_
  refine lv_icmp_eq (tgt := 603) hx hb dL_law_437 (by decide) (fun _ => ?_) (fun q => absurd (rfl) q)
  subst hAe
  exact W.widen (k := cells + 1) (n := slots + 6) (Nat.le_succ _) (Nat.le_add_right _ 6) (kk _ _ _ ⟨A, ov, (lrn (cel t A) RK GP).2.1, (lrn (cel t A) RK GP).2.2, sm, F, T, M, ST, ln, mn, E, 0, kp, ma, my, (nwr (cel 4 A) GO 20).1, F', T', M', WG, (nwr (cel 4 A) GO 20).2, Y, V, AT, NX, ⟨hab, lrn_lt hR0, hE0, hS0, ⟨hbd.1, hbd.2.1, hbd.2.2.1, hbd.2.2.2.1, hbd.2.2.2.2.1, fun j => nwr_lt (cel 4 A) GO hbd.2.2.2.2.2 20 (Nat.le_refl 20) j⟩, hV, hY, hkp⟩, hP, hD, hS, lv_sub hl [0, 1, 2, 3, 4] rfl⟩)
set_option maxHeartbeats 4000000 in
set_option maxRecDepth 100000 in
theorem law_count {p : Program} {l : Launch} {e : Env} {s : State} {m : MethodId} {below : List Frame} {meth : Method} {c : Code} {b L : Nat} {xs : Nat → Int32} {dC : Nat → ClassId} {dI : Nat → Nat → Nat} {ad am : Nat → Nat} {ao : Nat} {cI cJ cB : ClassId} {n t i : Nat} {ls : Array Slot} {H : Heap} {locs : List Loc} {cells slots : Nat} {Q : State → Prop} (C : lwC l p s m c b L xs dC dI cI cJ cB) (hn0 : 2 ≤ n ∧ n ≤ 4) (ht0 : 2 ≤ t ∧ t ≤ 4) (hi : i + 2 < L) (hcl : cells + 1 ≤ 601024) (hsl : slots + 6 ≤ 7293000) (h : lwS (dC, dI) s ad am ao cI cJ cB n t b i ls H locs)
    (kk : ∀ ls H locs, lwS (dC, dI) s ad am ao cI cJ cB n t b i ls H locs → W p l e room_1 s m #[Value.ref b] below meth c H locs (cells + 1) (slots + 6) Q (F0 m 603 ls [])) : W p l e room_1 s m #[Value.ref b] below meth c H locs cells slots Q (F0 m 578 ls []) := by
  obtain ⟨hx, hb, hml, hown, hts, hX, hbl, hL, hK, hN, hTw, hZ, hLs, hlt⟩ := C
  obtain ⟨A, ov, RK, GP, sm, F, T, M, ST, ln, mn, E, th, kp, ma, my, rk, F', T', M', WG, GO, Y, V, AT, NX, hR, hP, hD, hS, hl⟩ := h
  obtain ⟨hab, hR0, hE0, hS0, hbd, hV, hY, hkp⟩ := hR
  generalize hAe : (fun q : Nat => s.heap.size ≤ q) = A0 at hD hS hZ
  have hA : ∀ q : Nat, s.heap.size ≤ q → A0 q := fun q h => by rw [← hAe]; exact h
  have hbA : ¬ A0 b := by rw [← hAe]; exact Nat.not_le.mpr hbl
  have hKc := hK.sub (tys' := [(cI, .int), (cJ, .long)]) [0, 1] rfl
  have hcel : ∀ w j, cel w A j < 2147483648 := fun w j => by have := cel_lt (w := w) hab j; omega
  have hB0 : ∀ j, hgt A j ≤ 4 := fun j => by have := hgt_le hab j; omega
  have hH0 : ∀ j, hgt A j < 1000000 := fun j => by have := hB0 j; omega
  have hkpt := kept_kpt hn0.2 hkp hbd.1 hbd.2.2.1
  have h6 := nwr_6 hab hn0.2 ht0.2 GO
  have hmy := hbd.1
  refine lv_aload_n hx hb dL_law_578 rfl (lv_at hl 1 rfl) ?_
  refine lv_aload_n hx hb dL_law_579 rfl (lv_at hl 0 rfl) ?_
  refine lv_iload hx hb dL_law_580 (lv_at hl 4 rfl) ?_
  refine lv_iconst (v := nI 1) hx hb dL_law_582 (by decide +kernel) ?_
  refine wk_iadd hx hb dL_law_583 ?_
  refine va_sld hx hb hX hbl hbA hS (vp_in_nI (by omega) (by omega)) dL_law_584 ?_
  refine wk_ti (v' := xs (i + 1)) (by rw [nI_clamp (by omega)]) ?_
  have hPc := hP.sub (ws' := (cW ad cI cJ n t (cel t A) (hgt A) RK GP sm F T M ST ln mn E)) [1, 2, 3, 4, 5, 6, 7, 8, 9, 10, 11, 12, 13, 14] rfl
  refine pu_go (va_runV (As := [.int (xs (i + 1))]) (rest := []) ⟨hx, hb, hml, hown, hts⟩ (c_X6_count l dC dI ad cI cJ n t (cel t A) (hgt A) RK GP sm F T M ST ln mn E hn0 hkpt (xs (i + 1))) (cwV 1 hts gL_law_X6_count rfl rfl rfl (by decide +kernel) ⟨Nat.le_of_ble_eq_true rfl, Nat.le_of_ble_eq_true rfl⟩) ⟨rc_blind, va_recv hK hPc (ci := 5) (q0 := 0) rfl rfl, fun U hU hW => ⟨rfl, by rw [hU]; exact hPc, va_K.moved hW.alike hKc, nst_warm hW hN⟩⟩ rfl rfl hl.1 rfl (lv_room (Nat.le_of_ble_eq_true rfl)) dL_law_585 ⟨Nat.le_trans (Nat.le_succ cells) hcl, Nat.le_trans (Nat.le_add_right slots 6) hsl⟩) ?_
  refine lv_aload_n hx hb dL_law_588 rfl (lv_at hl 2 rfl) ?_
  refine lv_aload_n hx hb dL_law_589 rfl (lv_at hl 0 rfl) ?_
  refine lv_iload hx hb dL_law_590 (lv_at hl 4 rfl) ?_
  refine lv_iconst (v := nI 1) hx hb dL_law_592 (by decide +kernel) ?_
  refine wk_iadd hx hb dL_law_593 ?_
  refine va_sld hx hb hX hbl hbA hS (vp_in_nI (by omega) (by omega)) dL_law_594 ?_
  refine wk_ti (v' := xs (i + 1)) (by rw [nI_clamp (by omega)]) ?_
  have hPm := hP.sub (ws' := (mW am cI cJ cB th n t kp ma my rk (cel 4 A) F' T' M' WG GO Y V AT NX)) [15, 16, 17, 18, 19, 20, 21, 22, 23, 24, 25] rfl
  have hDm := hD.sub (ws' := (mW am cI cJ cB th n t kp ma my rk (cel 4 A) F' T' M' WG GO Y V AT NX)) [15, 16, 17, 18, 19, 20, 21, 22, 23, 24, 25] (by decide) rfl
  have hFm := va_free (wc := (mW am cI cJ cB th n t kp ma my rk (cel 4 A) F' T' M' WG GO Y V AT NX)) hD hS hA [15, 16, 17, 18, 19, 20, 21, 22, 23, 24, 25] rfl
  refine wr_go (va_runV (As := [.int (xs (i + 1))]) (rest := [.int (qct n t ln mn (hsum (hgt A) n) (trs F T ln.toNatClampNeg) (xs (i + 1)))]) ⟨hx, hb, hml, hown, hts⟩ (c_X7_count l dC dI am cI cJ cB th n t kp ma my rk (cel 4 A) F' T' M' WG GO Y V AT NX (hcel 4) hbd.1 hbd.2.1 (fun j => (hbd.2.2.2.1 j).1) (fun j => (hbd.2.2.2.1 j).2) (xs (i + 1)) H.size) (cwV 1 hts gL_law_X7_count rfl rfl rfl (by decide +kernel) ⟨Nat.le_of_ble_eq_true rfl, Nat.le_of_ble_eq_true rfl⟩) ⟨wr_blind, va_recv hK hPm (ci := 6) (q0 := 0) rfl rfl, fun U hU hW => ⟨rfl, by rw [hU], by rw [hU]; exact hPm, va_K.moved hW.alike hK, hDm.weaken (fun _ _ _ _ => trivial)⟩⟩ rfl rfl hl.1 rfl (lv_room (Nat.le_of_ble_eq_true rfl)) dL_law_595 ⟨Nat.le_trans (Nat.le_succ cells) hcl, Nat.le_trans (Nat.le_add_right slots 6) hsl⟩) hS hFm hFm (fun r8 W8 H2 locs2 hpost hP2 hD2 hz8 hk8 hS => ?_)
  obtain ⟨rfl, rfl⟩ := hpost
  obtain ⟨hP, hD⟩ := va_join (wr := oW ao cJ ov :: (cW ad cI cJ n t (cel t A) (hgt A) RK GP sm F T M ST ln mn E)) (w1 := (mW am cI cJ cB 0 n t kp ma my rk (cel 4 A) F' T' M' WG GO Y V AT NX)) hP hD [15, 16, 17, 18, 19, 20, 21, 22, 23, 24, 25] [0, 1, 2, 3, 4, 5, 6, 7, 8, 9, 10, 11, 12, 13, 14] rfl rfl (by decide) (by decide) hk8 hFm hP2 hD2
  have hP : va_P (dC, dI) vwCl (lwW ao ad am cI cJ cB n t A ov RK GP sm F T M ST ln mn E 0 kp ma my rk F' T' M' WG GO Y V AT NX) H2 := hP
  have hD : va_D A0 (lwW ao ad am cI cJ cB n t A ov RK GP sm F T M ST ln mn E 0 kp ma my rk F' T' M' WG GO Y V AT NX) := hD
  refine W.eq (g2 := F0 m 598 ls [.int (vct n t kp ma my (bxs (cel 4 A) 16) (trs F' T' my) (xs (i + 1))), .int (qct n t ln mn (hsum (hgt A) n) (trs F T ln.toNatClampNeg) (xs (i + 1)))]) rfl ?_
  refine lv_icmp_eq (tgt := 603) hx hb dL_law_598 (by decide) (fun _ => ?_) (fun q => absurd (cnt_k hab hn0 ht0.2 hkp hbd.1 _) q)
  subst hAe
  exact W.widen (k := cells + 1) (n := slots + 6) (Nat.le_succ _) (Nat.le_add_right _ 6) (kk _ _ _ ⟨A, ov, RK, GP, sm, F, T, M, ST, ln, mn, E, 0, kp, ma, my, rk, F', T', M', WG, GO, Y, V, AT, NX, ⟨hab, hR0, hE0, hS0, hbd, hV, hY, hkp⟩, hP, hD, hS, lv_sub hl [0, 1, 2, 3, 4] rfl⟩)
