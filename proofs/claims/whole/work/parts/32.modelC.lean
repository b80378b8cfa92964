set_option maxHeartbeats 4000000 in
set_option maxRecDepth 100000 in
theorem c_X7_put (l : Launch) (dC : Nat → ClassId) (dI : Nat → Nat → Nat) (ad : Nat → Nat) (cI cJ cB : ClassId) (th n t kp ma my rk : Nat) (G F T M WG GO Y V AT NX : Nat → Nat) (hn0 : 2 ≤ n ∧ n ≤ 4) (ht0 : 2 ≤ t ∧ t ≤ 4) (hG : ∀ j, G j < 2147483648) (i g : Int32) (sz : Nat) : Met l yX7_put wsX7_put ({ frames := 1, cells := 0, slots := 0, locals := 22 }) (va_Pc [.ref (ad 0), .int i, .int g] (wr_P (dC, dI) [(cI, .int), (cJ, .long), (cB, .byte)] (mW ad cI cJ cB th n t kp ma my rk G F T M WG GO Y V AT NX) sz)) (wr_Q (dC, dI) (va_A (mW ad cI cJ cB th n t kp ma my rk G F T M WG GO Y V AT NX) sz) (fun r W1 => r = some (.int (nI (if kput n t G i g = 0 then vput t G i else 0))) ∧ W1 = (mW ad cI cJ cB (kput n t G i g) n t kp ma my rk (if kput n t G i g = 0 then gput t G i g else G) F T M WG GO Y V AT NX))) 0 0 (va_A (mW ad cI cJ cB th n t kp ma my rk G F T M WG GO Y V AT NX) sz) := by
  refine Met.ofW (cc := cX7_put) (maxL := 4) (ret := (some .int)) (by decide) rfl ?_
  intro p e s m args below meth c s₁ B hml hv
  obtain ⟨rfl, hsz, hP, hK, hD0⟩ := hv
  have hx := B.exec
  have hb := B.bytes
  have hr := B.returns
  have hts := atoms_spec (ws := wsX7_put) B.pre
  have hown : s.vm.findClass RX7 = some m.cls := findClass_of_methodNamed B.named
  have hlocks := B.notSynchronized
  have hinX7 : ∀ w ∈ u_ws RX7 TX7 17, w ∈ wsX7_put := by decide +kernel
  subst hsz
  have hD := hD0.self (sz := s.heap.size)
  generalize hAe : va_A (mW ad cI cJ cB th n t kp ma my rk G F T M WG GO Y V AT NX) s.heap.size = A at hD ⊢
  have hA : ∀ q : Nat, s.heap.size ≤ q → A q := fun q h => by rw [← hAe]; exact Or.inr h
  have hS : va_S A s.heap s.heap [] := va_S.rf
  have hl := lv_entry ([.ref (ad 0), .int i, .int g]) (n := 4) (Nat.le_of_ble_eq_true rfl)
  rw [lg_entry_eq]
  generalize (lg_sl ([.ref (ad 0), .int i, .int g]) ++ List.replicate (4 - (lg_sl ([.ref (ad 0), .int i, .int g])).length) Slot.unset).toArray = ls at hl ⊢
  have hl : lv_has ls 4 [(0, .ref (ad 0)), (1, .int i), (2, .int g)] := hl
  have cut_54 : ∀ (v54_1 : Int32) (v54_2 : Int32) (u54_0 : Int32) (ls : Array Slot) (H : Heap) (locs : List Loc) (_ : i = v54_1) (_ : g = v54_2) (_ : u54_0 = nI (kput n t G i g)) (_ : lv_has ls 4 [(0, .ref (ad 0)), (1, .int v54_1), (2, .int v54_2)]) (_ : va_P (dC, dI) vwCl (mW ad cI cJ cB th n t kp ma my rk G F T M WG GO Y V AT NX) H) (_ : va_D A (mW ad cI cJ cB th n t kp ma my rk G F T M WG GO Y V AT NX)) (_ : va_S A s.heap H locs), W p l e (headSpec wsX7_put ({ frames := 1, cells := 0, slots := 0, locals := 22 })).room s m ([.ref (ad 0), .int i, .int g] : List Value).toArray below meth c H locs 0 0 (MQ below (wr_Q (dC, dI) A (fun r W1 => r = some (.int (nI (if kput n t G i g = 0 then vput t G i else 0))) ∧ W1 = (mW ad cI cJ cB (kput n t G i g) n t kp ma my rk (if kput n t G i g = 0 then gput t G i g else G) F T M WG GO Y V AT NX))) ([.ref (ad 0), .int i, .int g] : List Value).toArray s 0 0 A) (F0 m 54 ls [.int u54_0, .ref (ad 0)]) := by
    rintro v54_1 v54_2 u54_0 ls H locs rfl rfl rfl hl hP hD hS
    refine va_put (D := (dC, dI)) (ci := 6) (v := .int (nI (kput n t G i g))) (ty := .int) (C := RX7) (T := TX7) (N := 17) hx hb hts hinX7 tyX7 tyX7_ok nmX7 hown hK hP hD hS 0 rfl rfl 0 (by decide) (hts (.fieldLink RX7 50 "ReshuffleSearchModel" "thrown" "I") (by decide +kernel)) (fun _ h9 => h9) rfl (by decide +kernel) (rfl) (rfl) (Nat.le_of_ble_eq_true rfl) dX7_put_54 (fun H locs hP hD hS => ?_)
    have hP : va_P (dC, dI) vwCl (mW ad cI cJ cB (kput n t G i g) n t kp ma my rk G F T M WG GO Y V AT NX) H := hP
    have hD : va_D A (mW ad cI cJ cB (kput n t G i g) n t kp ma my rk G F T M WG GO Y V AT NX) := hD
    refine lv_aload_n hx hb dX7_put_57 rfl (lv_at hl 0 rfl) ?_
    refine va_get (D := (dC, dI)) (ci := 6) (v := .int (nI (kput n t G i g))) (C := RX7) (T := TX7) (N := 17) hx hb hts hinX7 hown hK hP 0 rfl rfl 0 (by decide) (hts (.fieldLink RX7 50 "ReshuffleSearchModel" "thrown" "I") (by decide +kernel)) (fun _ h9 => h9) rfl dX7_put_58 ?_
    refine wk_if_le (tgt := 66) hx hb (by have := kput_le (n := n) (t := t) (G := G) (i := i) (g := g); omega) dX7_put_61 (by decide) (fun c_61 => ?_) (fun c_61 => ?_)
    · obtain ⟨s0, g0, hs0, hi, hg1, hg2, hg, hfz, hbx⟩ := kput0 hn0.2 c_61
      have hl : lv_has ls 4 [(0, .ref (ad 0)), (1, .int (nI s0)), (2, .int (nI g0))] := by rw [hi, hg] at hl; exact hl
      refine lv_aload_n hx hb dX7_put_66 rfl (lv_at hl 0 rfl) ?_
      refine lv_iload_n hx hb dX7_put_67 rfl (lv_at hl 1 rfl) ?_
      refine pu_go (va_runV (As := [.int (nI s0)]) (rest := []) ⟨hx, hb, hml, hown, hts⟩ (c_X7_heightOf l dC dI (mW ad cI cJ cB (kput n t G i g) n t kp ma my rk G F T M WG GO Y V AT NX) [(cI, .int), (cJ, .long), (cB, .byte)] (ad 0) _ rfl t rfl ht0 (ad 3) cI G rfl rfl rfl s0 (by first | omega | assumption) hG) (cwV 1 hts gX7_put_X7_heightOf rfl rfl rfl (by decide +kernel) ⟨Nat.le_of_ble_eq_true rfl, Nat.le_of_ble_eq_true rfl⟩) ⟨fun a U g mk q => ⟨q.1, q.2.1, va_K.moved (u := U) (U := U.calling g mk a) (Vm.Alike.refl U.vm) q.2.2⟩, va_recv hK hP (ci := 6) (q0 := 0) rfl rfl, fun U hU hW => ⟨rfl, by rw [hU]; exact hP, va_K.moved hW.alike hK⟩⟩ rfl rfl hl.1 rfl (lv_room (Nat.le_of_ble_eq_true rfl)) dX7_put_68 ⟨Nat.le_refl _, Nat.le_refl _⟩) ?_
      refine lv_istore_n (lv' := [(3, .int (nI (fz (fun j => G (4 * s0 + j)) t 0))), (0, .ref (ad 0)), (1, .int (nI s0)), (2, .int (nI g0))]) hx hb dX7_put_71 rfl hl (by decide) rfl (fun ls hl => ?_)
      refine lv_aload_n hx hb dX7_put_72 rfl (lv_at hl 1 rfl) ?_
      refine va_get (D := (dC, dI)) (ci := 6) (v := .ref (ad 3)) (C := RX7) (T := TX7) (N := 17) hx hb hts hinX7 hown hK hP 0 rfl rfl 3 (by decide) (hts (.fieldLink RX7 7 "ReshuffleSearchModel" "group" "[I") (by decide +kernel)) (fun _ h9 => h9) rfl dX7_put_73 ?_
      refine lv_iconst (v := nI 4) hx hb dX7_put_76 (by decide +kernel) ?_
      refine lv_iload_n hx hb dX7_put_77 rfl (lv_at hl 2 rfl) ?_
      refine wk_imul hx hb dX7_put_78 ?_
      refine lv_iload_n hx hb dX7_put_79 rfl (lv_at hl 0 rfl) ?_
      refine wk_iadd hx hb dX7_put_80 ?_
      refine lv_iload_n hx hb dX7_put_81 rfl (lv_at hl 3 rfl) ?_
      refine wk_iast hx hb hK hP hD hS 1 0 rfl rfl (by omega) dX7_put_82 (fun H locs hP hD hS => ?_)
      have hP : va_P (dC, dI) vwCl (mW ad cI cJ cB (kput n t G i g) n t kp ma my rk (upN G ((4 * s0) + (fz (fun j => G (4 * s0 + j)) t 0)) g0) F T M WG GO Y V AT NX) H := hP
      have hD : va_D A (mW ad cI cJ cB (kput n t G i g) n t kp ma my rk (upN G ((4 * s0) + (fz (fun j => G (4 * s0 + j)) t 0)) g0) F T M WG GO Y V AT NX) := hD
      refine lv_iload_n hx hb dX7_put_83 rfl (lv_at hl 0 rfl) ?_
      refine lv_iconst (v := nI 1) hx hb dX7_put_84 (by decide +kernel) ?_
      refine wk_iadd hx hb dX7_put_85 ?_
      exact W.iret hx hb hr (fun t9 ht hW => ⟨some (.int (nI ((fz (fun j => G (4 * s0 + j)) t 0) + 1))), (mW ad cI cJ cB (kput n t G i g) n t kp ma my rk (upN G ((4 * s0) + (fz (fun j => G (4 * s0 + j)) t 0)) g0) F T M WG GO Y V AT NX), rfl, ⟨by rw [if_pos c_61]; unfold vput; rw [hi, tn (by omega)], by rw [if_pos c_61, c_61]; unfold gput; rw [hi, hg, tn (by omega), tn (by omega)]⟩, by rw [ht]; exact hP, hD, hS.F ht⟩) hS.2.2 dX7_put_86
    · refine lv_iconst (v := nI 0) hx hb dX7_put_64 (by decide +kernel) ?_
      exact W.iret hx hb hr (fun t9 ht hW => ⟨some (.int (nI 0)), (mW ad cI cJ cB (kput n t G i g) n t kp ma my rk G F T M WG GO Y V AT NX), rfl, ⟨by rw [if_neg (by omega)], by rw [if_neg (by omega)]⟩, by rw [ht]; exact hP, hD, hS.F ht⟩) hS.2.2 dX7_put_65
  refine lv_aload_n hx hb dX7_put_0 rfl (lv_at hl 0 rfl) ?_
  refine lv_aload_n hx hb dX7_put_1 rfl (lv_at hl 0 rfl) ?_
  refine lv_iload_n hx hb dX7_put_2 rfl (lv_at hl 1 rfl) ?_
  refine pu_go (va_runV (As := [.int i]) (rest := [.ref (ad 0)]) ⟨hx, hb, hml, hown, hts⟩ (c_X7_isStack l dC dI (mW ad cI cJ cB th n t kp ma my rk G F T M WG GO Y V AT NX) [(cI, .int), (cJ, .long), (cB, .byte)] (ad 0) _ rfl n rfl hn0 i) (cwV 1 hts gX7_put_X7_isStack rfl rfl rfl (by decide +kernel) ⟨Nat.le_of_ble_eq_true rfl, Nat.le_of_ble_eq_true rfl⟩) ⟨fun a U g mk q => ⟨q.1, q.2.1, va_K.moved (u := U) (U := U.calling g mk a) (Vm.Alike.refl U.vm) q.2.2⟩, va_recv hK hP (ci := 6) (q0 := 0) rfl rfl, fun U hU hW => ⟨rfl, by rw [hU]; exact hP, va_K.moved hW.alike hK⟩⟩ rfl rfl hl.1 rfl (lv_room (Nat.le_of_ble_eq_true rfl)) dX7_put_3 ⟨Nat.le_refl _, Nat.le_refl _⟩) ?_
  refine wk_bn_ne (tgt := 13) hx hb dX7_put_6 (by decide) (fun c_6 => ?_) (fun c_6 => ?_)
  · obtain ⟨s0, hs0, hi⟩ := stk_nat (by omega) c_6
    have hl : lv_has ls 4 [(0, .ref (ad 0)), (1, .int (nI s0)), (2, .int g)] := by rw [hi] at hl; exact hl
    refine lv_iload_n hx hb dX7_put_13 rfl (lv_at hl 2 rfl) ?_
    refine lv_iconst (v := nI 1) hx hb dX7_put_14 (by decide +kernel) ?_
    refine lv_icmp_lt (tgt := 24) hx hb dX7_put_15 (by decide) (fun c_15 => ?_) (fun c_15 => ?_)
    · refine lv_iconst (v := nI 2) hx hb dX7_put_24 (by decide +kernel) ?_
      refine lv_goto (tgt := 54) hx hb dX7_put_25 (by decide) ?_
      exact cut_54 _ _ _ ls _ _ (hi) (rfl) (by unfold kput; rw [if_neg (fun q => q c_6), if_pos (by first | exact Or.inl c_15 | exact Or.inr (Int32.not_le.mp c_21))]) (lv_sub hl [0, 1, 2] rfl) (hP) (hD) hS
    · refine lv_iload_n hx hb dX7_put_18 rfl (lv_at hl 2 rfl) ?_
      refine lv_bipush (v := nI 20) hx hb dX7_put_19 (by decide +kernel) ?_
      refine lv_icmp_le (tgt := 28) hx hb dX7_put_21 (by decide) (fun c_21 => ?_) (fun c_21 => ?_)
      · refine lv_aload_n hx hb dX7_put_28 rfl (lv_at hl 0 rfl) ?_
        refine lv_iload_n hx hb dX7_put_29 rfl (lv_at hl 1 rfl) ?_
        refine pu_go (va_runV (As := [.int (nI s0)]) (rest := [.ref (ad 0)]) ⟨hx, hb, hml, hown, hts⟩ (c_X7_heightOf l dC dI (mW ad cI cJ cB th n t kp ma my rk G F T M WG GO Y V AT NX) [(cI, .int), (cJ, .long), (cB, .byte)] (ad 0) _ rfl t rfl ht0 (ad 3) cI G rfl rfl rfl s0 (by first | omega | assumption) hG) (cwV 1 hts gX7_put_X7_heightOf rfl rfl rfl (by decide +kernel) ⟨Nat.le_of_ble_eq_true rfl, Nat.le_of_ble_eq_true rfl⟩) ⟨fun a U g mk q => ⟨q.1, q.2.1, va_K.moved (u := U) (U := U.calling g mk a) (Vm.Alike.refl U.vm) q.2.2⟩, va_recv hK hP (ci := 6) (q0 := 0) rfl rfl, fun U hU hW => ⟨rfl, by rw [hU]; exact hP, va_K.moved hW.alike hK⟩⟩ rfl rfl hl.1 rfl (lv_room (Nat.le_of_ble_eq_true rfl)) dX7_put_30 ⟨Nat.le_refl _, Nat.le_refl _⟩) ?_
        refine lv_aload_n hx hb dX7_put_33 rfl (lv_at hl 0 rfl) ?_
        refine va_get (D := (dC, dI)) (ci := 6) (v := .int (nI t)) (C := RX7) (T := TX7) (N := 17) hx hb hts hinX7 hown hK hP 0 rfl rfl 2 (by decide) (hts (.fieldLink RX7 47 "ReshuffleSearchModel" "tiers" "I") (by decide +kernel)) (fun _ h9 => h9) rfl dX7_put_34 ?_
        refine wk_icmp_eq (tgt := 49) hx hb (by have := (fz_ok (fun j => G (4 * s0 + j)) t 0).2.1; omega) (by omega) dX7_put_37 (by decide) (fun c_37 => ?_) (fun c_37 => ?_)
        · refine lv_iconst (v := nI 3) hx hb dX7_put_49 (by decide +kernel) ?_
          refine lv_goto (tgt := 54) hx hb dX7_put_50 (by decide) ?_
          exact cut_54 _ _ _ ls _ _ (hi) (rfl) (by unfold kput; rw [if_neg (fun q => q c_6), if_neg (by rintro (q | q); exact c_15 q; exact Int32.not_le.mpr q c_21), if_pos (by rw [hi, tn (by omega)]; first | exact Or.inl c_37 | exact Or.inr c_46)]) (lv_sub hl [0, 1, 2] rfl) (hP) (hD) hS
        · refine lv_aload_n hx hb dX7_put_40 rfl (lv_at hl 0 rfl) ?_
          refine pu_go (va_runV (As := []) (rest := [.ref (ad 0)]) ⟨hx, hb, hml, hown, hts⟩ (c_X7_boxes l dC dI (mW ad cI cJ cB th n t kp ma my rk G F T M WG GO Y V AT NX) [(cI, .int), (cJ, .long), (cB, .byte)] (ad 0) _ rfl (ad 3) cI G rfl rfl rfl hG) (cwV 0 hts gX7_put_X7_boxes rfl rfl rfl (by decide +kernel) ⟨Nat.le_of_ble_eq_true rfl, Nat.le_of_ble_eq_true rfl⟩) ⟨fun a U g mk q => ⟨q.1, q.2.1, va_K.moved (u := U) (U := U.calling g mk a) (Vm.Alike.refl U.vm) q.2.2⟩, va_recv hK hP (ci := 6) (q0 := 0) rfl rfl, fun U hU hW => ⟨rfl, by rw [hU]; exact hP, va_K.moved hW.alike hK⟩⟩ rfl rfl hl.1 rfl (lv_room (Nat.le_of_ble_eq_true rfl)) dX7_put_41 ⟨Nat.le_refl _, Nat.le_refl _⟩) ?_
          refine lv_bipush (v := nI 6) hx hb dX7_put_44 (by decide +kernel) ?_
          refine wk_icmp_ne (tgt := 53) hx hb (by have := bxs_le G 16; omega) (by omega) dX7_put_46 (by decide) (fun c_46 => ?_) (fun c_46 => ?_)
          · refine lv_iconst (v := nI 0) hx hb dX7_put_53 (by decide +kernel) ?_
            exact cut_54 _ _ _ ls _ _ (hi) (rfl) (by unfold kput; rw [if_neg (fun q => q c_6), if_neg (by rintro (q | q); exact c_15 q; exact Int32.not_le.mpr q c_21), if_neg (by rw [hi, tn (by omega)]; rintro (q | q); exact c_37 q; exact c_46 q)]) (lv_sub hl [0, 1, 2] rfl) (hP) (hD) hS
          · refine lv_iconst (v := nI 3) hx hb dX7_put_49 (by decide +kernel) ?_
            refine lv_goto (tgt := 54) hx hb dX7_put_50 (by decide) ?_
            exact cut_54 _ _ _ ls _ _ (hi) (rfl) (by unfold kput; rw [if_neg (fun q => q c_6), if_neg (by rintro (q | q); exact c_15 q; exact Int32.not_le.mpr q c_21), if_pos (by rw [hi, tn (by omega)]; first | exact Or.inl c_37 | exact Or.inr c_46)]) (lv_sub hl [0, 1, 2] rfl) (hP) (hD) hS
      · refine lv_iconst (v := nI 2) hx hb dX7_put_24 (by decide +kernel) ?_
        refine lv_goto (tgt := 54) hx hb dX7_put_25 (by decide) ?_
        exact cut_54 _ _ _ ls _ _ (hi) (rfl) (by unfold kput; rw [if_neg (fun q => q c_6), if_pos (by first | exact Or.inl c_15 | exact Or.inr (Int32.not_le.mp c_21))]) (lv_sub hl [0, 1, 2] rfl) (hP) (hD) hS
  · refine lv_iconst (v := nI 1) hx hb dX7_put_9 (by decide +kernel) ?_
    refine lv_goto (tgt := 54) hx hb dX7_put_10 (by decide) ?_
    exact cut_54 _ _ _ ls _ _ (rfl) (rfl) (by unfold kput; rw [if_pos c_6]) (lv_sub hl [0, 1, 2] rfl) (hP) (hD) hS
set_option maxHeartbeats 4000000 in
set_option maxRecDepth 100000 in
theorem c_X7_off (l : Launch) (dC : Nat → ClassId) (dI : Nat → Nat → Nat) (ad : Nat → Nat) (cI cJ cB : ClassId) (th n t kp ma my rk : Nat) (G F T M WG GO Y V AT NX : Nat → Nat) (hn0 : 2 ≤ n ∧ n ≤ 4) (ht0 : 2 ≤ t ∧ t ≤ 4) (hG : ∀ j, G j < 2147483648) (i : Int32) (sz : Nat) : Met l yX7_off wsX7_off ({ frames := 1, cells := 0, slots := 0, locals := 22 }) (va_Pc [.ref (ad 0), .int i] (wr_P (dC, dI) [(cI, .int), (cJ, .long), (cB, .byte)] (mW ad cI cJ cB th n t kp ma my rk G F T M WG GO Y V AT NX) sz)) (wr_Q (dC, dI) (va_A (mW ad cI cJ cB th n t kp ma my rk G F T M WG GO Y V AT NX) sz) (fun r W1 => r = some (.int (nI (if koff n t G i = 0 then voff t G i else 0))) ∧ W1 = (mW ad cI cJ cB (koff n t G i) n t kp ma my rk (if koff n t G i = 0 then goff t G i else G) F T M WG GO Y V AT NX))) 0 0 (va_A (mW ad cI cJ cB th n t kp ma my rk G F T M WG GO Y V AT NX) sz) := by
  refine Met.ofW (cc := cX7_off) (maxL := 4) (ret := (some .int)) (by decide) rfl ?_
  intro p e s m args below meth c s₁ B hml hv
  obtain ⟨rfl, hsz, hP, hK, hD0⟩ := hv
  have hx := B.exec
  have hb := B.bytes
  have hr := B.returns
  have hts := atoms_spec (ws := wsX7_off) B.pre
  have hown : s.vm.findClass RX7 = some m.cls := findClass_of_methodNamed B.named
  have hlocks := B.notSynchronized
  have hinX7 : ∀ w ∈ u_ws RX7 TX7 17, w ∈ wsX7_off := by decide +kernel
  subst hsz
  have hD := hD0.self (sz := s.heap.size)
  generalize hAe : va_A (mW ad cI cJ cB th n t kp ma my rk G F T M WG GO Y V AT NX) s.heap.size = A at hD ⊢
  have hA : ∀ q : Nat, s.heap.size ≤ q → A q := fun q h => by rw [← hAe]; exact Or.inr h
  have hS : va_S A s.heap s.heap [] := va_S.rf
  have hl := lv_entry ([.ref (ad 0), .int i]) (n := 4) (Nat.le_of_ble_eq_true rfl)
  rw [lg_entry_eq]
  generalize (lg_sl ([.ref (ad 0), .int i]) ++ List.replicate (4 - (lg_sl ([.ref (ad 0), .int i])).length) Slot.unset).toArray = ls at hl ⊢
  have hl : lv_has ls 4 [(0, .ref (ad 0)), (1, .int i)] := hl
  have cut_26 : ∀ (v26_1 : Int32) (u26_0 : Int32) (ls : Array Slot) (H : Heap) (locs : List Loc) (_ : i = v26_1) (_ : u26_0 = nI (koff n t G i)) (_ : lv_has ls 4 [(0, .ref (ad 0)), (1, .int v26_1)]) (_ : va_P (dC, dI) vwCl (mW ad cI cJ cB th n t kp ma my rk G F T M WG GO Y V AT NX) H) (_ : va_D A (mW ad cI cJ cB th n t kp ma my rk G F T M WG GO Y V AT NX)) (_ : va_S A s.heap H locs), W p l e (headSpec wsX7_off ({ frames := 1, cells := 0, slots := 0, locals := 22 })).room s m ([.ref (ad 0), .int i] : List Value).toArray below meth c H locs 0 0 (MQ below (wr_Q (dC, dI) A (fun r W1 => r = some (.int (nI (if koff n t G i = 0 then voff t G i else 0))) ∧ W1 = (mW ad cI cJ cB (koff n t G i) n t kp ma my rk (if koff n t G i = 0 then goff t G i else G) F T M WG GO Y V AT NX))) ([.ref (ad 0), .int i] : List Value).toArray s 0 0 A) (F0 m 26 ls [.int u26_0, .ref (ad 0)]) := by
    rintro v26_1 u26_0 ls H locs rfl rfl hl hP hD hS
    refine va_put (D := (dC, dI)) (ci := 6) (v := .int (nI (koff n t G i))) (ty := .int) (C := RX7) (T := TX7) (N := 17) hx hb hts hinX7 tyX7 tyX7_ok nmX7 hown hK hP hD hS 0 rfl rfl 0 (by decide) (hts (.fieldLink RX7 50 "ReshuffleSearchModel" "thrown" "I") (by decide +kernel)) (fun _ h9 => h9) rfl (by decide +kernel) (rfl) (rfl) (Nat.le_of_ble_eq_true rfl) dX7_off_26 (fun H locs hP hD hS => ?_)
    have hP : va_P (dC, dI) vwCl (mW ad cI cJ cB (koff n t G i) n t kp ma my rk G F T M WG GO Y V AT NX) H := hP
    have hD : va_D A (mW ad cI cJ cB (koff n t G i) n t kp ma my rk G F T M WG GO Y V AT NX) := hD
    refine lv_aload_n hx hb dX7_off_29 rfl (lv_at hl 0 rfl) ?_
    refine va_get (D := (dC, dI)) (ci := 6) (v := .int (nI (koff n t G i))) (C := RX7) (T := TX7) (N := 17) hx hb hts hinX7 hown hK hP 0 rfl rfl 0 (by decide) (hts (.fieldLink RX7 50 "ReshuffleSearchModel" "thrown" "I") (by decide +kernel)) (fun _ h9 => h9) rfl dX7_off_30 ?_
    refine wk_if_le (tgt := 38) hx hb (by have := koff_le (n := n) (t := t) (G := G) (i := i); omega) dX7_off_33 (by decide) (fun c_33 => ?_) (fun c_33 => ?_)
    · obtain ⟨s0, hs0, hi, hfz⟩ := koff0 hn0.2 c_33
      have hfl := (fz_ok (fun j => G (4 * s0 + j)) t 0).2.1
      have hl : lv_has ls 4 [(0, .ref (ad 0)), (1, .int (nI s0))] := by rw [hi] at hl; exact hl
      refine lv_aload_n hx hb dX7_off_38 rfl (lv_at hl 0 rfl) ?_
      refine lv_iload_n hx hb dX7_off_39 rfl (lv_at hl 1 rfl) ?_
      refine pu_go (va_runV (As := [.int (nI s0)]) (rest := []) ⟨hx, hb, hml, hown, hts⟩ (c_X7_heightOf l dC dI (mW ad cI cJ cB (koff n t G i) n t kp ma my rk G F T M WG GO Y V AT NX) [(cI, .int), (cJ, .long), (cB, .byte)] (ad 0) _ rfl t rfl ht0 (ad 3) cI G rfl rfl rfl s0 (by first | omega | assumption) hG) (cwV 1 hts gX7_off_X7_heightOf rfl rfl rfl (by decide +kernel) ⟨Nat.le_of_ble_eq_true rfl, Nat.le_of_ble_eq_true rfl⟩) ⟨fun a U g mk q => ⟨q.1, q.2.1, va_K.moved (u := U) (U := U.calling g mk a) (Vm.Alike.refl U.vm) q.2.2⟩, va_recv hK hP (ci := 6) (q0 := 0) rfl rfl, fun U hU hW => ⟨rfl, by rw [hU]; exact hP, va_K.moved hW.alike hK⟩⟩ rfl rfl hl.1 rfl (lv_room (Nat.le_of_ble_eq_true rfl)) dX7_off_40 ⟨Nat.le_refl _, Nat.le_refl _⟩) ?_
      refine lv_iconst (v := nI 1) hx hb dX7_off_43 (by decide +kernel) ?_
      refine wk_isub hx hb (by omega) dX7_off_44 ?_
      refine lv_istore_n (lv' := [(2, .int (nI ((fz (fun j => G (4 * s0 + j)) t 0) - 1))), (0, .ref (ad 0)), (1, .int (nI s0))]) hx hb dX7_off_45 rfl hl (by decide) rfl (fun ls hl => ?_)
      refine lv_aload_n hx hb dX7_off_46 rfl (lv_at hl 1 rfl) ?_
      refine va_get (D := (dC, dI)) (ci := 6) (v := .ref (ad 3)) (C := RX7) (T := TX7) (N := 17) hx hb hts hinX7 hown hK hP 0 rfl rfl 3 (by decide) (hts (.fieldLink RX7 7 "ReshuffleSearchModel" "group" "[I") (by decide +kernel)) (fun _ h9 => h9) rfl dX7_off_47 ?_
      refine lv_iconst (v := nI 4) hx hb dX7_off_50 (by decide +kernel) ?_
      refine lv_iload_n hx hb dX7_off_51 rfl (lv_at hl 2 rfl) ?_
      refine wk_imul hx hb dX7_off_52 ?_
      refine lv_iload_n hx hb dX7_off_53 rfl (lv_at hl 0 rfl) ?_
      refine wk_iadd hx hb dX7_off_54 ?_
      refine wk_iald hx hb hK hP 1 0 rfl rfl (by omega) dX7_off_55 ?_
      refine lv_istore_n (lv' := [(3, .int (nI (G ((4 * s0) + ((fz (fun j => G (4 * s0 + j)) t 0) - 1))))), (2, .int (nI ((fz (fun j => G (4 * s0 + j)) t 0) - 1))), (0, .ref (ad 0)), (1, .int (nI s0))]) hx hb dX7_off_56 rfl hl (by decide) rfl (fun ls hl => ?_)
      refine lv_aload_n hx hb dX7_off_57 rfl (lv_at hl 2 rfl) ?_
      refine va_get (D := (dC, dI)) (ci := 6) (v := .ref (ad 3)) (C := RX7) (T := TX7) (N := 17) hx hb hts hinX7 hown hK hP 0 rfl rfl 3 (by decide) (hts (.fieldLink RX7 7 "ReshuffleSearchModel" "group" "[I") (by decide +kernel)) (fun _ h9 => h9) rfl dX7_off_58 ?_
      refine lv_iconst (v := nI 4) hx hb dX7_off_61 (by decide +kernel) ?_
      refine lv_iload_n hx hb dX7_off_62 rfl (lv_at hl 3 rfl) ?_
      refine wk_imul hx hb dX7_off_63 ?_
      refine lv_iload_n hx hb dX7_off_64 rfl (lv_at hl 1 rfl) ?_
      refine wk_iadd hx hb dX7_off_65 ?_
      refine lv_iconst (v := nI 0) hx hb dX7_off_66 (by decide +kernel) ?_
      refine wk_iast hx hb hK hP hD hS 1 0 rfl rfl (by omega) dX7_off_67 (fun H locs hP hD hS => ?_)
      have hP : va_P (dC, dI) vwCl (mW ad cI cJ cB (koff n t G i) n t kp ma my rk (upN G ((4 * s0) + ((fz (fun j => G (4 * s0 + j)) t 0) - 1)) 0) F T M WG GO Y V AT NX) H := hP
      have hD : va_D A (mW ad cI cJ cB (koff n t G i) n t kp ma my rk (upN G ((4 * s0) + ((fz (fun j => G (4 * s0 + j)) t 0) - 1)) 0) F T M WG GO Y V AT NX) := hD
      refine lv_iload_n hx hb dX7_off_68 rfl (lv_at hl 0 rfl) ?_
      exact W.iret hx hb hr (fun t9 ht hW => ⟨some (.int (nI (G ((4 * s0) + ((fz (fun j => G (4 * s0 + j)) t 0) - 1))))), (mW ad cI cJ cB (koff n t G i) n t kp ma my rk (upN G ((4 * s0) + ((fz (fun j => G (4 * s0 + j)) t 0) - 1)) 0) F T M WG GO Y V AT NX), rfl, ⟨by rw [if_pos c_33]; unfold voff; rw [hi, tn (by omega)], by rw [if_pos c_33, c_33]; unfold goff; rw [hi, tn (by omega)]⟩, by rw [ht]; exact hP, hD, hS.F ht⟩) hS.2.2 dX7_off_69
    · refine lv_iconst (v := nI 0) hx hb dX7_off_36 (by decide +kernel) ?_
      exact W.iret hx hb hr (fun t9 ht hW => ⟨some (.int (nI 0)), (mW ad cI cJ cB (koff n t G i) n t kp ma my rk G F T M WG GO Y V AT NX), rfl, ⟨by rw [if_neg (by omega)], by rw [if_neg (by omega)]⟩, by rw [ht]; exact hP, hD, hS.F ht⟩) hS.2.2 dX7_off_37
  refine lv_aload_n hx hb dX7_off_0 rfl (lv_at hl 0 rfl) ?_
  refine lv_aload_n hx hb dX7_off_1 rfl (lv_at hl 0 rfl) ?_
  refine lv_iload_n hx hb dX7_off_2 rfl (lv_at hl 1 rfl) ?_
  refine pu_go (va_runV (As := [.int i]) (rest := [.ref (ad 0)]) ⟨hx, hb, hml, hown, hts⟩ (c_X7_isStack l dC dI (mW ad cI cJ cB th n t kp ma my rk G F T M WG GO Y V AT NX) [(cI, .int), (cJ, .long), (cB, .byte)] (ad 0) _ rfl n rfl hn0 i) (cwV 1 hts gX7_off_X7_isStack rfl rfl rfl (by decide +kernel) ⟨Nat.le_of_ble_eq_true rfl, Nat.le_of_ble_eq_true rfl⟩) ⟨fun a U g mk q => ⟨q.1, q.2.1, va_K.moved (u := U) (U := U.calling g mk a) (Vm.Alike.refl U.vm) q.2.2⟩, va_recv hK hP (ci := 6) (q0 := 0) rfl rfl, fun U hU hW => ⟨rfl, by rw [hU]; exact hP, va_K.moved hW.alike hK⟩⟩ rfl rfl hl.1 rfl (lv_room (Nat.le_of_ble_eq_true rfl)) dX7_off_3 ⟨Nat.le_refl _, Nat.le_refl _⟩) ?_
  refine wk_bn_ne (tgt := 13) hx hb dX7_off_6 (by decide) (fun c_6 => ?_) (fun c_6 => ?_)
  · obtain ⟨s0, hs0, hi⟩ := stk_nat (by omega) c_6
    have hfl := (fz_ok (fun j => G (4 * s0 + j)) t 0).2.1
    have hl : lv_has ls 4 [(0, .ref (ad 0)), (1, .int (nI s0))] := by rw [hi] at hl; exact hl
    refine lv_aload_n hx hb dX7_off_13 rfl (lv_at hl 0 rfl) ?_
    refine lv_iload_n hx hb dX7_off_14 rfl (lv_at hl 1 rfl) ?_
    refine pu_go (va_runV (As := [.int (nI s0)]) (rest := [.ref (ad 0)]) ⟨hx, hb, hml, hown, hts⟩ (c_X7_heightOf l dC dI (mW ad cI cJ cB th n t kp ma my rk G F T M WG GO Y V AT NX) [(cI, .int), (cJ, .long), (cB, .byte)] (ad 0) _ rfl t rfl ht0 (ad 3) cI G rfl rfl rfl s0 (by first | omega | assumption) hG) (cwV 1 hts gX7_off_X7_heightOf rfl rfl rfl (by decide +kernel) ⟨Nat.le_of_ble_eq_true rfl, Nat.le_of_ble_eq_true rfl⟩) ⟨fun a U g mk q => ⟨q.1, q.2.1, va_K.moved (u := U) (U := U.calling g mk a) (Vm.Alike.refl U.vm) q.2.2⟩, va_recv hK hP (ci := 6) (q0 := 0) rfl rfl, fun U hU hW => ⟨rfl, by rw [hU]; exact hP, va_K.moved hW.alike hK⟩⟩ rfl rfl hl.1 rfl (lv_room (Nat.le_of_ble_eq_true rfl)) dX7_off_15 ⟨Nat.le_refl _, Nat.le_refl _⟩) ?_
    refine wk_if_ne (tgt := 25) hx hb (by omega) dX7_off_18 (by decide) (fun c_18 => ?_) (fun c_18 => ?_)
    · refine lv_iconst (v := nI 0) hx hb dX7_off_25 (by decide +kernel) ?_
      exact cut_26 _ _ ls _ _ (hi) (by unfold koff; rw [if_neg (fun q => q c_6), if_neg (by rw [hi, tn (by omega)]; exact c_18)]) (lv_sub hl [0, 1] rfl) (hP) (hD) hS
    · refine lv_iconst (v := nI 2) hx hb dX7_off_21 (by decide +kernel) ?_
      refine lv_goto (tgt := 26) hx hb dX7_off_22 (by decide) ?_
      exact cut_26 _ _ ls _ _ (hi) (by unfold koff; rw [if_neg (fun q => q c_6), if_pos (by rw [hi, tn (by omega)]; exact c_18)]) (lv_sub hl [0, 1] rfl) (hP) (hD) hS
  · refine lv_iconst (v := nI 1) hx hb dX7_off_9 (by decide +kernel) ?_
    refine lv_goto (tgt := 26) hx hb dX7_off_10 (by decide) ?_
    exact cut_26 _ _ ls _ _ (rfl) (by unfold koff; rw [if_pos c_6]) (lv_sub hl [0, 1] rfl) (hP) (hD) hS
