set_option maxHeartbeats 8000000 in
set_option maxRecDepth 100000 in
theorem whole_start {p : Program} {e : Env} {s : State} {m : MethodId} {below : List Frame} {meth : Method} {c : Code} (l : Launch) (hlt : l.stackTraces = false) {b L : Nat} {xs : Nat → Int32} (hL : L ≤ 1538) (C0 : lw_At p s m meth c b L xs) : W p l e room_1 s m #[Value.ref b] below meth c s.heap [] 0 0 (lw_Z below #[Value.ref b] s) (entryFrame m ([Value.ref b] : List Value).toArray 7) := by
  obtain ⟨hx, hb, hr, hml, hown, htb, hX, hbl, hlocks, hgv⟩ := C0
  have hb : c.code = cL_law := hb
  have hown : s.vm.findClass RL = some m.cls := hown
  have hg := flat_of_before _ hgv
  have hts : ∀ w ∈ wsL_law, w.before #[Value.ref b] s = true := fun w h => htb w (wsL_law_in w h)
  obtain ⟨dC, dI, cI, cJ, cB, hK⟩ := st_K htb
  have hN := st_nst htb
  have hTw := st_tws htb hg thR_in
  have hZ := st_tzq htb hg
  have hLs := st_lst htb hg
  have C : lwC l p s m c b L xs dC dI cI cJ cB := ⟨hx, hb, hml, hown, hts, hX, hbl, hL, hK, hN, hTw, hZ, hLs, hlt⟩
  generalize hAe : (fun q : Nat => s.heap.size ≤ q) = A0
  have hA : ∀ q : Nat, s.heap.size ≤ q → A0 q := fun q h => by rw [← hAe]; exact h
  have hbA : ¬ A0 b := by rw [← hAe]; exact Nat.not_le.mpr hbl
  have hKc := hK.sub (tys' := [(cI, .int), (cJ, .long)]) [0, 1] rfl
  have hP : va_P (dC, dI) vwCl [] s.heap := fun k q h => by simp at h
  have hD : va_D A0 [] := ⟨fun i j p q h => by simp at h, fun k q h => by simp at h⟩
  have hS : va_S A0 s.heap s.heap [] := va_S.rf
  have hl := lv_entry ([.ref b]) (n := 7) (Nat.le_of_ble_eq_true rfl)
  rw [lg_entry_eq]
  generalize (lg_sl ([.ref b]) ++ List.replicate (7 - (lg_sl ([.ref b])).length) Slot.unset).toArray = ls at hl ⊢
  have hl : lv_has ls 7 [(0, .ref b)] := hl
  refine va_new (ci := 5) (fs := [.int (nI 0), .int (nI 0), .null, .null, .null, .null, .null]) (C := RX6) (T := TX6) (N := 7) hx hb hts inlX6 tyX6 tyX6_ok hown (hts (.classLink RL 8 RX6) (by decide +kernel)) (hts (.instantiable RX6 7) (by decide +kernel)) (hts (.initialized RX6) (by decide +kernel)) hK hP hD hS hA rfl (fun j hj => by rcases (show j = 0 ∨ j = 1 ∨ j = 2 ∨ j = 3 ∨ j = 4 ∨ j = 5 ∨ j = 6 by omega) with rfl | rfl | rfl | rfl | rfl | rfl | rfl <;> rfl) (Nat.le_of_ble_eq_true rfl) (Nat.le_of_ble_eq_true rfl) dL_law_0 (fun q0 H hP hD hS => ?_)
  have hP : va_P (dC, dI) vwCl [(q0, .inr (5, [.int (nI 0), .int (nI 0), .null, .null, .null, .null, .null]))] H := hP
  have hD : va_D A0 [(q0, .inr (5, [.int (nI 0), .int (nI 0), .null, .null, .null, .null, .null]))] := hD
  refine lv_dup hx hb dL_law_3 rfl ?_
  refine lv_aload_n hx hb dL_law_4 rfl (lv_at hl 0 rfl) ?_
  refine lv_iconst (v := nI 0) hx hb dL_law_5 (by decide +kernel) ?_
  refine pu_go (va_runS (As := [.ref b, .int (nI 0)]) (rest := [.ref q0, .ref q0]) ⟨hx, hb, hml, hown, hts⟩ (c_L_cell l b L xs hL 0 (by decide)) (va_cwS 2 hts gL_law_L_cell rfl rfl rfl (by decide +kernel) ⟨Nat.le_of_ble_eq_true rfl, Nat.le_of_ble_eq_true rfl⟩) ⟨cell_blind, fun U hU hW => ⟨rfl, by rw [hU]; exact (hX.kept (hS.2.1 b hbl hbA)).moved hW.alike, by rw [hU]; exact Nat.lt_of_lt_of_le hbl hS.1⟩⟩ rfl rfl hl.1 rfl (lv_room (Nat.le_of_ble_eq_true rfl)) dL_law_6 ⟨Nat.le_of_ble_eq_true rfl, Nat.le_of_ble_eq_true rfl⟩) ?_
  refine lv_aload_n hx hb dL_law_9 rfl (lv_at hl 0 rfl) ?_
  refine lv_iconst (v := nI 1) hx hb dL_law_10 (by decide +kernel) ?_
  refine pu_go (va_runS (As := [.ref b, .int (nI 1)]) (rest := [.int (scv L xs 0), .ref q0, .ref q0]) ⟨hx, hb, hml, hown, hts⟩ (c_L_cell l b L xs hL 1 (by decide)) (va_cwS 2 hts gL_law_L_cell rfl rfl rfl (by decide +kernel) ⟨Nat.le_of_ble_eq_true rfl, Nat.le_of_ble_eq_true rfl⟩) ⟨cell_blind, fun U hU hW => ⟨rfl, by rw [hU]; exact (hX.kept (hS.2.1 b hbl hbA)).moved hW.alike, by rw [hU]; exact Nat.lt_of_lt_of_le hbl hS.1⟩⟩ rfl rfl hl.1 rfl (lv_room (Nat.le_of_ble_eq_true rfl)) dL_law_11 ⟨Nat.le_of_ble_eq_true rfl, Nat.le_of_ble_eq_true rfl⟩) ?_
  have hFc := va_free (wc := [(q0, .inr (5, [.int (nI 0), .int (nI 0), .null, .null, .null, .null, .null]))]) hD hS hA [0] rfl
  refine wr_go (va_runI (As := [.int (scv L xs 0), .int (scv L xs 1)]) (rest := [.ref q0]) ⟨hx, hb, hml, hown, hts⟩ (c_X6_init l dC dI cI cJ q0 (scv L xs 0) (scv L xs 1) H.size) (cwI 2 hts gL_law_X6_init rfl rfl rfl (hts (.initialized RX6) (by decide +kernel)) (hts (.methodLink RL 49 yX6_init) (by decide +kernel)) (hts (.instanceMethod yX6_init) (by decide +kernel)) rfl (by decide +kernel) ⟨Nat.le_of_ble_eq_true rfl, Nat.le_of_ble_eq_true rfl⟩) ⟨wc_blind, fun U hU hW => ⟨rfl, ⟨by rw [hU], by rw [hU]; exact hP, va_K.moved hW.alike hKc, hD.weaken (fun _ _ _ _ => trivial)⟩, nst_warm hW hN⟩⟩ rfl rfl hl.1 rfl (lv_room (Nat.le_of_ble_eq_true rfl)) dL_law_14 ⟨Nat.le_of_ble_eq_true rfl, Nat.le_of_ble_eq_true rfl⟩) hS hFc hFc (fun r9 W9 H1 locs hpost hP1 hD1 hz9 hk9 hS => ?_)
  obtain ⟨rfl, ad, rfl, rfl⟩ := hpost
  generalize hnv : szv (scv L xs 0) = n at hP1 hD1
  generalize htv : szv (scv L xs 1) = t at hP1 hD1
  have hP : va_P (dC, dI) vwCl (cW ad cI cJ n t z0 z0 z0 z0 (-1) z0 z0 z0 z0 (-1) (-1) z0) H1 := hP1
  have hD : va_D A0 (cW ad cI cJ n t z0 z0 z0 z0 (-1) z0 z0 z0 z0 (-1) (-1) z0) := hD1.weaken (fun _ _ _ h => hFc _ h)
  refine W.eq (g2 := F0 m 17 ls [.ref (ad 0)]) rfl ?_
  refine lv_astore_n (lv' := [(1, .ref (ad 0)), (0, .ref b)]) hx hb dL_law_17 rfl hl (by decide) rfl (fun ls hl => ?_)
  refine va_new (ci := 6) (fs := [.int (nI 0), .int (nI 0), .int (nI 0), .null, .int (nI 0), .int (nI 0), .int (nI 0), .null, .null, .null, .null, .int (nI 0), .null, .null, .null, .null, .null]) (C := RX7) (T := TX7) (N := 17) hx hb hts inlX7 tyX7 tyX7_ok hown (hts (.classLink RL 52 RX7) (by decide +kernel)) (hts (.instantiable RX7 17) (by decide +kernel)) (hts (.initialized RX7) (by decide +kernel)) hK hP hD hS hA rfl (fun j hj => by rcases (show j = 0 ∨ j = 1 ∨ j = 2 ∨ j = 3 ∨ j = 4 ∨ j = 5 ∨ j = 6 ∨ j = 7 ∨ j = 8 ∨ j = 9 ∨ j = 10 ∨ j = 11 ∨ j = 12 ∨ j = 13 ∨ j = 14 ∨ j = 15 ∨ j = 16 by omega) with rfl | rfl | rfl | rfl | rfl | rfl | rfl | rfl | rfl | rfl | rfl | rfl | rfl | rfl | rfl | rfl | rfl <;> rfl) (Nat.le_of_ble_eq_true rfl) (Nat.le_of_ble_eq_true rfl) dL_law_18 (fun q1 H hP hD hS => ?_)
  have hP : va_P (dC, dI) vwCl ((cW ad cI cJ n t z0 z0 z0 z0 (-1) z0 z0 z0 z0 (-1) (-1) z0) ++ [(q1, .inr (6, [.int (nI 0), .int (nI 0), .int (nI 0), .null, .int (nI 0), .int (nI 0), .int (nI 0), .null, .null, .null, .null, .int (nI 0), .null, .null, .null, .null, .null]))]) H := hP
  have hD : va_D A0 ((cW ad cI cJ n t z0 z0 z0 z0 (-1) z0 z0 z0 z0 (-1) (-1) z0) ++ [(q1, .inr (6, [.int (nI 0), .int (nI 0), .int (nI 0), .null, .int (nI 0), .int (nI 0), .int (nI 0), .null, .null, .null, .null, .int (nI 0), .null, .null, .null, .null, .null]))]) := hD
  refine lv_dup hx hb dL_law_21 rfl ?_
  refine lv_aload_n hx hb dL_law_22 rfl (lv_at hl 1 rfl) ?_
  refine lv_iconst (v := nI 0) hx hb dL_law_23 (by decide +kernel) ?_
  refine pu_go (va_runS (As := [.ref b, .int (nI 0)]) (rest := [.ref q1, .ref q1]) ⟨hx, hb, hml, hown, hts⟩ (c_L_cell l b L xs hL 0 (by decide)) (va_cwS 2 hts gL_law_L_cell rfl rfl rfl (by decide +kernel) ⟨Nat.le_of_ble_eq_true rfl, Nat.le_of_ble_eq_true rfl⟩) ⟨cell_blind, fun U hU hW => ⟨rfl, by rw [hU]; exact (hX.kept (hS.2.1 b hbl hbA)).moved hW.alike, by rw [hU]; exact Nat.lt_of_lt_of_le hbl hS.1⟩⟩ rfl rfl hl.1 rfl (lv_room (Nat.le_of_ble_eq_true rfl)) dL_law_24 ⟨Nat.le_of_ble_eq_true rfl, Nat.le_of_ble_eq_true rfl⟩) ?_
  refine lv_aload_n hx hb dL_law_27 rfl (lv_at hl 1 rfl) ?_
  refine lv_iconst (v := nI 1) hx hb dL_law_28 (by decide +kernel) ?_
  refine pu_go (va_runS (As := [.ref b, .int (nI 1)]) (rest := [.int (scv L xs 0), .ref q1, .ref q1]) ⟨hx, hb, hml, hown, hts⟩ (c_L_cell l b L xs hL 1 (by decide)) (va_cwS 2 hts gL_law_L_cell rfl rfl rfl (by decide +kernel) ⟨Nat.le_of_ble_eq_true rfl, Nat.le_of_ble_eq_true rfl⟩) ⟨cell_blind, fun U hU hW => ⟨rfl, by rw [hU]; exact (hX.kept (hS.2.1 b hbl hbA)).moved hW.alike, by rw [hU]; exact Nat.lt_of_lt_of_le hbl hS.1⟩⟩ rfl rfl hl.1 rfl (lv_room (Nat.le_of_ble_eq_true rfl)) dL_law_29 ⟨Nat.le_of_ble_eq_true rfl, Nat.le_of_ble_eq_true rfl⟩) ?_
  have hPm := hP.sub (ws' := [(q1, .inr (6, [.int (nI 0), .int (nI 0), .int (nI 0), .null, .int (nI 0), .int (nI 0), .int (nI 0), .null, .null, .null, .null, .int (nI 0), .null, .null, .null, .null, .null]))]) [14] rfl
  have hDm := hD.sub (ws' := [(q1, .inr (6, [.int (nI 0), .int (nI 0), .int (nI 0), .null, .int (nI 0), .int (nI 0), .int (nI 0), .null, .null, .null, .null, .int (nI 0), .null, .null, .null, .null, .null]))]) [14] (by decide) rfl
  have hFm := va_free (wc := [(q1, .inr (6, [.int (nI 0), .int (nI 0), .int (nI 0), .null, .int (nI 0), .int (nI 0), .int (nI 0), .null, .null, .null, .null, .int (nI 0), .null, .null, .null, .null, .null]))]) hD hS hA [14] rfl
  refine wr_go (va_runI (As := [.int (scv L xs 0), .int (scv L xs 1)]) (rest := [.ref q1]) ⟨hx, hb, hml, hown, hts⟩ (c_X7_init l dC dI cI cJ cB q1 (scv L xs 0) (scv L xs 1) H.size) (cwI 2 hts gL_law_X7_init rfl rfl rfl (hts (.initialized RX7) (by decide +kernel)) (hts (.methodLink RL 54 yX7_init) (by decide +kernel)) (hts (.instanceMethod yX7_init) (by decide +kernel)) rfl (by decide +kernel) ⟨Nat.le_of_ble_eq_true rfl, Nat.le_of_ble_eq_true rfl⟩) ⟨wr_blind, fun U hU hW => ⟨rfl, by rw [hU], by rw [hU]; exact hPm, va_K.moved hW.alike hK, hDm.weaken (fun _ _ _ _ => trivial)⟩⟩ rfl rfl hl.1 rfl (lv_room (Nat.le_of_ble_eq_true rfl)) dL_law_32 ⟨Nat.le_of_ble_eq_true rfl, Nat.le_of_ble_eq_true rfl⟩) hS hFm hFm (fun r8 W8 H2 locs hpost hP2 hD2 hz8 hk8 hS => ?_)
  obtain ⟨rfl, am, rfl, rfl⟩ := hpost
  rw [hnv, htv] at hP2 hD2
  obtain ⟨hP, hD⟩ := va_join (wr := (cW ad cI cJ n t z0 z0 z0 z0 (-1) z0 z0 z0 z0 (-1) (-1) z0)) (w1 := (mW am cI cJ cB 0 n t 0 0 0 0 z0 z0 z0 z0 z0 z0 z0 z0 z0 z0)) hP hD [14] [0, 1, 2, 3, 4, 5, 6, 7, 8, 9, 10, 11, 12, 13] rfl rfl (by decide) (by decide) hk8 hFm hP2 hD2
  refine W.eq (g2 := F0 m 35 ls [.ref (am 0)]) rfl ?_
  refine lv_astore_n (lv' := [(2, .ref (am 0)), (1, .ref (ad 0)), (0, .ref b)]) hx hb dL_law_35 rfl hl (by decide) rfl (fun ls hl => ?_)
  refine lv_iconst (v := nI 1) hx hb dL_law_36 (by decide +kernel) ?_
  refine va_newa (atype := .long) (ty := .long) (N' := 1) (a0 := (1, .inr (.inl (fun j => lN (z0 j))))) hx hb (hts (.arrayClass .long) (by decide +kernel)) rfl hK hP hD hS hA (fun _ => vpz_l _ 1) (nI_pos (by decide)) (nI_clamp (by decide)) (Nat.le_of_ble_eq_true rfl) (Nat.le_of_ble_eq_true rfl) (Nat.le_of_ble_eq_true rfl) dL_law_37 (fun ao cA H hK9 hP hD hS => ?_)
  obtain rfl : cJ = cA := ty_eq hK9 1 3 rfl rfl rfl
  refine lv_astore_n (lv' := [(3, .ref ao), (2, .ref (am 0)), (1, .ref (ad 0)), (0, .ref b)]) hx hb dL_law_39 rfl hl (by decide) rfl (fun ls hl => ?_)
  refine lv_iconst (v := nI 2) hx hb dL_law_40 (by decide +kernel) ?_
  refine lv_istore (lv' := [(4, .int (nI 2)), (3, .ref ao), (2, .ref (am 0)), (1, .ref (ad 0)), (0, .ref b)]) hx hb dL_law_41 hl (by decide) rfl (fun ls hl => ?_)
  have hP := hP.sub (ws' := (oW ao cJ (fun j => lN (z0 j)) :: ((cW ad cI cJ n t z0 z0 z0 z0 (-1) z0 z0 z0 z0 (-1) (-1) z0) ++ (mW am cI cJ cB 0 n t 0 0 0 0 z0 z0 z0 z0 z0 z0 z0 z0 z0 z0)))) [25, 0, 1, 2, 3, 4, 5, 6, 7, 8, 9, 10, 11, 12, 13, 14, 15, 16, 17, 18, 19, 20, 21, 22, 23, 24] rfl
  have hD := hD.sub (ws' := (oW ao cJ (fun j => lN (z0 j)) :: ((cW ad cI cJ n t z0 z0 z0 z0 (-1) z0 z0 z0 z0 (-1) (-1) z0) ++ (mW am cI cJ cB 0 n t 0 0 0 0 z0 z0 z0 z0 z0 z0 z0 z0 z0 z0)))) [25, 0, 1, 2, 3, 4, 5, 6, 7, 8, 9, 10, 11, 12, 13, 14, 15, 16, 17, 18, 19, 20, 21, 22, 23, 24] (by decide) rfl
  have eW : (lwW ao ad am cI cJ cB n t (fun _ => []) (fun j => lN (z0 j)) z0 z0 (-1) z0 z0 z0 z0 (-1) (-1) z0 0 0 0 0 0 z0 z0 z0 z0 z0 z0 z0 z0 z0) = (oW ao cJ (fun j => lN (z0 j)) :: ((cW ad cI cJ n t z0 z0 z0 z0 (-1) z0 z0 z0 z0 (-1) (-1) z0) ++ (mW am cI cJ cB 0 n t 0 0 0 0 z0 z0 z0 z0 z0 z0 z0 z0 z0 z0))) := by
    show oW ao cJ _ :: (cW ad cI cJ n t (cel t fun _ => []) (hgt fun _ => []) z0 z0 (-1) z0 z0 z0 z0 (-1) (-1) z0 ++ mW am cI cJ cB 0 n t 0 0 0 0 (cel 4 fun _ => []) z0 z0 z0 z0 z0 z0 z0 z0 z0) = _
    rw [cel_0, cel_0, hgt_0]
  rw [← eW] at hP hD
  subst hAe
  have hn0 : 2 ≤ n ∧ n ≤ 4 := hnv ▸ szv_ok _
  have ht0 : 2 ≤ t ∧ t ≤ 4 := htv ▸ szv_ok _
  refine W.widen (k := 26) (n := 263558) (Nat.le_of_ble_eq_true rfl) (Nat.le_of_ble_eq_true rfl) ?_
  exact law_loop C hn0 ht0 hr hlocks 600 2 ls H locs 26 263558 (by omega) (by omega) (by omega) (by omega) ⟨fun _ => [], fun j => lN (z0 j), z0, z0, -1, z0, z0, z0, z0, -1, -1, z0, 0, 0, 0, 0, 0, z0, z0, z0, z0, z0, z0, z0, z0, z0, ⟨ab_0, fun _ => (by decide : 0 < 8), fun _ => (by decide : 0 < 2 ^ 54), fun _ => (by decide : 0 < 2147483648), ⟨by decide, by decide, by decide, fun _ => ⟨(by decide : 0 < 4), (by decide : 0 < 4)⟩, fun _ => (by decide : 0 < 2147483648), fun _ => (by decide : 0 < 2147483648)⟩, fun _ => (by decide : 0 < 128), fun _ => (by decide : 0 < 2 ^ 63), Or.inl ⟨rfl, rfl⟩⟩, hP, hD, hS, lv_sub hl [4, 3, 2, 1, 0] rfl⟩
