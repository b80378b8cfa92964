set_option maxHeartbeats 4000000 in
set_option maxRecDepth 100000 in
theorem c_X7_at (l : Launch) (dC : Nat → ClassId) (dI : Nat → Nat → Nat) (ad : Nat → Nat) (cI cJ cB : ClassId) (th n t kp ma my rk : Nat) (G F T M WG GO Y V AT NX : Nat → Nat) (hn0 : 2 ≤ n ∧ n ≤ 4) (ht0 : 2 ≤ t ∧ t ≤ 4) (i j : Int32) (sz : Nat) : Met l yX7_at wsX7_at ({ frames := 1, cells := 0, slots := 0, locals := 21 }) (va_Pc [.ref (ad 0), .int i, .int j] (wr_P (dC, dI) [(cI, .int), (cJ, .long), (cB, .byte)] (mW ad cI cJ cB th n t kp ma my rk G F T M WG GO Y V AT NX) sz)) (wr_Q (dC, dI) (va_A (mW ad cI cJ cB th n t kp ma my rk G F T M WG GO Y V AT NX) sz) (fun r W1 => r = some (.int (nI (if kat n t i j = 0 then G (4 * i.toNatClampNeg + j.toNatClampNeg) else 0))) ∧ W1 = (mW ad cI cJ cB (kat n t i j) n t kp ma my rk G F T M WG GO Y V AT NX))) 0 0 (va_A (mW ad cI cJ cB th n t kp ma my rk G F T M WG GO Y V AT NX) sz) := by
  refine Met.ofW (cc := cX7_at) (maxL := 3) (ret := (some .int)) (by decide) rfl ?_
  intro p e s m args below meth c s₁ B hml hv
  obtain ⟨rfl, hsz, hP, hK, hD0⟩ := hv
  have hx := B.exec
  have hb := B.bytes
  have hr := B.returns
  have hts := atoms_spec (ws := wsX7_at) B.pre
  have hown : s.vm.findClass RX7 = some m.cls := findClass_of_methodNamed B.named
  have hlocks := B.notSynchronized
  have hinX7 : ∀ w ∈ u_ws RX7 TX7 17, w ∈ wsX7_at := by decide +kernel
  subst hsz
  have hD := hD0.self (sz := s.heap.size)
  generalize hAe : va_A (mW ad cI cJ cB th n t kp ma my rk G F T M WG GO Y V AT NX) s.heap.size = A at hD ⊢
  have hA : ∀ q : Nat, s.heap.size ≤ q → A q := fun q h => by rw [← hAe]; exact Or.inr h
  have hS : va_S A s.heap s.heap [] := va_S.rf
  have hl := lv_entry ([.ref (ad 0), .int i, .int j]) (n := 3) (Nat.le_of_ble_eq_true rfl)
  rw [lg_entry_eq]
  generalize (lg_sl ([.ref (ad 0), .int i, .int j]) ++ List.replicate (3 - (lg_sl ([.ref (ad 0), .int i, .int j])).length) Slot.unset).toArray = ls at hl ⊢
  have hl : lv_has ls 3 [(0, .ref (ad 0)), (1, .int i), (2, .int j)] := hl
  have cut_26 : ∀ (v26_1 : Int32) (v26_2 : Int32) (u26_0 : Int32) (ls : Array Slot) (H : Heap) (locs : List Loc) (_ : i = v26_1) (_ : j = v26_2) (_ : u26_0 = nI (kat n t i j)) (_ : lv_has ls 3 [(0, .ref (ad 0)), (1, .int v26_1), (2, .int v26_2)]) (_ : va_P (dC, dI) vwCl (mW ad cI cJ cB th n t kp ma my rk G F T M WG GO Y V AT NX) H) (_ : va_D A (mW ad cI cJ cB th n t kp ma my rk G F T M WG GO Y V AT NX)) (_ : va_S A s.heap H locs), W p l e (headSpec wsX7_at ({ frames := 1, cells := 0, slots := 0, locals := 21 })).room s m ([.ref (ad 0), .int i, .int j] : List Value).toArray below meth c H locs 0 0 (MQ below (wr_Q (dC, dI) A (fun r W1 => r = some (.int (nI (if kat n t i j = 0 then G (4 * i.toNatClampNeg + j.toNatClampNeg) else 0))) ∧ W1 = (mW ad cI cJ cB (kat n t i j) n t kp ma my rk G F T M WG GO Y V AT NX))) ([.ref (ad 0), .int i, .int j] : List Value).toArray s 0 0 A) (F0 m 26 ls [.int u26_0, .ref (ad 0)]) := by
    rintro v26_1 v26_2 u26_0 ls H locs rfl rfl rfl hl hP hD hS
    refine va_put (D := (dC, dI)) (ci := 6) (v := .int (nI (kat n t i j))) (ty := .int) (C := RX7) (T := TX7) (N := 17) hx hb hts hinX7 tyX7 tyX7_ok nmX7 hown hK hP hD hS 0 rfl rfl 0 (by decide) (hts (.fieldLink RX7 50 "ReshuffleSearchModel" "thrown" "I") (by decide +kernel)) (fun _ h9 => h9) rfl (by decide +kernel) (rfl) (rfl) (Nat.le_of_ble_eq_true rfl) dX7_at_26 (fun H locs hP hD hS => ?_)
    have hP : va_P (dC, dI) vwCl (mW ad cI cJ cB (kat n t i j) n t kp ma my rk G F T M WG GO Y V AT NX) H := hP
    have hD : va_D A (mW ad cI cJ cB (kat n t i j) n t kp ma my rk G F T M WG GO Y V AT NX) := hD
    refine lv_aload_n hx hb dX7_at_29 rfl (lv_at hl 0 rfl) ?_
    refine va_get (D := (dC, dI)) (ci := 6) (v := .int (nI (kat n t i j))) (C := RX7) (T := TX7) (N := 17) hx hb hts hinX7 hown hK hP 0 rfl rfl 0 (by decide) (hts (.fieldLink RX7 50 "ReshuffleSearchModel" "thrown" "I") (by decide +kernel)) (fun _ h9 => h9) rfl dX7_at_30 ?_
    refine wk_if_le (tgt := 40) hx hb (by have := kat_le (n := n) (t := t) (i := i) (j := j); omega) dX7_at_33 (by decide) (fun c_33 => ?_) (fun c_33 => ?_)
    · obtain ⟨a, b, ha, hi, hb9, hj⟩ := kat0 hn0.2 ht0.2 c_33
      have hl : lv_has ls 3 [(0, .ref (ad 0)), (1, .int (nI a)), (2, .int (nI b))] := by rw [hi, hj] at hl; exact hl
      refine lv_aload_n hx hb dX7_at_40 rfl (lv_at hl 0 rfl) ?_
      refine va_get (D := (dC, dI)) (ci := 6) (v := .ref (ad 3)) (C := RX7) (T := TX7) (N := 17) hx hb hts hinX7 hown hK hP 0 rfl rfl 3 (by decide) (hts (.fieldLink RX7 7 "ReshuffleSearchModel" "group" "[I") (by decide +kernel)) (fun _ h9 => h9) rfl dX7_at_41 ?_
      refine lv_iconst (v := nI 4) hx hb dX7_at_44 (by decide +kernel) ?_
      refine lv_iload_n hx hb dX7_at_45 rfl (lv_at hl 1 rfl) ?_
      refine wk_imul hx hb dX7_at_46 ?_
      refine lv_iload_n hx hb dX7_at_47 rfl (lv_at hl 2 rfl) ?_
      refine wk_iadd hx hb dX7_at_48 ?_
      refine wk_iald hx hb hK hP 1 0 rfl rfl (by omega) dX7_at_49 ?_
      exact W.iret hx hb hr (fun t9 ht hW => ⟨some (.int (nI (G ((4 * a) + b)))), (mW ad cI cJ cB (kat n t i j) n t kp ma my rk G F T M WG GO Y V AT NX), rfl, ⟨by rw [if_pos c_33, hi, hj, tn (by omega), tn (by omega)], rfl⟩, by rw [ht]; exact hP, hD, hS.F ht⟩) hS.2.2 dX7_at_50
    · refine lv_iconst (v := nI 0) hx hb dX7_at_36 (by decide +kernel) ?_
      refine lv_goto (tgt := 50) hx hb dX7_at_37 (by decide) ?_
      exact W.iret hx hb hr (fun t9 ht hW => ⟨some (.int (nI 0)), (mW ad cI cJ cB (kat n t i j) n t kp ma my rk G F T M WG GO Y V AT NX), rfl, ⟨by rw [if_neg (by omega)], rfl⟩, by rw [ht]; exact hP, hD, hS.F ht⟩) hS.2.2 dX7_at_50
  refine lv_aload_n hx hb dX7_at_0 rfl (lv_at hl 0 rfl) ?_
  refine lv_aload_n hx hb dX7_at_1 rfl (lv_at hl 0 rfl) ?_
  refine lv_iload_n hx hb dX7_at_2 rfl (lv_at hl 1 rfl) ?_
  refine pu_go (va_runV (As := [.int i]) (rest := [.ref (ad 0)]) ⟨hx, hb, hml, hown, hts⟩ (c_X7_isStack l dC dI (mW ad cI cJ cB th n t kp ma my rk G F T M WG GO Y V AT NX) [(cI, .int), (cJ, .long), (cB, .byte)] (ad 0) _ rfl n rfl hn0 i) (cwV 1 hts gX7_at_X7_isStack rfl rfl rfl (by decide +kernel) ⟨Nat.le_of_ble_eq_true rfl, Nat.le_of_ble_eq_true rfl⟩) ⟨fun a U g mk q => ⟨q.1, q.2.1, va_K.moved (u := U) (U := U.calling g mk a) (Vm.Alike.refl U.vm) q.2.2⟩, va_recv hK hP (ci := 6) (q0 := 0) rfl rfl, fun U hU hW => ⟨rfl, by rw [hU]; exact hP, va_K.moved hW.alike hK⟩⟩ rfl rfl hl.1 rfl (lv_room (Nat.le_of_ble_eq_true rfl)) dX7_at_3 ⟨Nat.le_refl _, Nat.le_refl _⟩) ?_
  refine wk_bn_eq (tgt := 25) hx hb dX7_at_6 (by decide) (fun c_6 => ?_) (fun c_6 => ?_)
  · refine lv_iconst (v := nI 1) hx hb dX7_at_25 (by decide +kernel) ?_
    exact cut_26 _ _ _ ls _ _ (rfl) (rfl) (by unfold kat; rw [if_neg (fun q => by first | exact c_6 q.1 | exact q.2.1 c_10 | exact Int32.not_le.mpr q.2.2 c_18)]) (lv_sub hl [0, 1, 2] rfl) (hP) (hD) hS
  · refine lv_iload_n hx hb dX7_at_9 rfl (lv_at hl 2 rfl) ?_
    refine lv_if_lt (tgt := 25) hx hb dX7_at_10 (by decide) (fun c_10 => ?_) (fun c_10 => ?_)
    · refine lv_iconst (v := nI 1) hx hb dX7_at_25 (by decide +kernel) ?_
      exact cut_26 _ _ _ ls _ _ (rfl) (rfl) (by unfold kat; rw [if_neg (fun q => by first | exact c_6 q.1 | exact q.2.1 c_10 | exact Int32.not_le.mpr q.2.2 c_18)]) (lv_sub hl [0, 1, 2] rfl) (hP) (hD) hS
    · refine lv_iload_n hx hb dX7_at_13 rfl (lv_at hl 2 rfl) ?_
      refine lv_aload_n hx hb dX7_at_14 rfl (lv_at hl 0 rfl) ?_
      refine va_get (D := (dC, dI)) (ci := 6) (v := .int (nI t)) (C := RX7) (T := TX7) (N := 17) hx hb hts hinX7 hown hK hP 0 rfl rfl 2 (by decide) (hts (.fieldLink RX7 47 "ReshuffleSearchModel" "tiers" "I") (by decide +kernel)) (fun _ h9 => h9) rfl dX7_at_15 ?_
      refine lv_icmp_ge (tgt := 25) hx hb dX7_at_18 (by decide) (fun c_18 => ?_) (fun c_18 => ?_)
      · refine lv_iconst (v := nI 1) hx hb dX7_at_25 (by decide +kernel) ?_
        exact cut_26 _ _ _ ls _ _ (rfl) (rfl) (by unfold kat; rw [if_neg (fun q => by first | exact c_6 q.1 | exact q.2.1 c_10 | exact Int32.not_le.mpr q.2.2 c_18)]) (lv_sub hl [0, 1, 2] rfl) (hP) (hD) hS
      · refine lv_iconst (v := nI 0) hx hb dX7_at_21 (by decide +kernel) ?_
        refine lv_goto (tgt := 26) hx hb dX7_at_22 (by decide) ?_
        exact cut_26 _ _ _ ls _ _ (rfl) (rfl) (by unfold kat; rw [if_pos ⟨c_6, c_10, Int32.not_le.mp c_18⟩]) (lv_sub hl [0, 1, 2] rfl) (hP) (hD) hS
set_option maxHeartbeats 4000000 in
set_option maxRecDepth 100000 in
theorem c_X7_travel (l : Launch) (dC : Nat → ClassId) (dI : Nat → Nat → Nat) (ad : Nat → Nat) (cI cJ cB : ClassId) (th n t kp ma my rk : Nat) (G F T M WG GO Y V AT NX : Nat → Nat) (hn0 : 2 ≤ n ∧ n ≤ 4) (i j : Int32) (sz : Nat) : Met l yX7_travel wsX7_travel ({ frames := 1, cells := 0, slots := 0, locals := 21 }) (va_Pc [.ref (ad 0), .int i, .int j] (wr_P (dC, dI) [(cI, .int), (cJ, .long), (cB, .byte)] (mW ad cI cJ cB th n t kp ma my rk G F T M WG GO Y V AT NX) sz)) (wr_Q (dC, dI) (va_A (mW ad cI cJ cB th n t kp ma my rk G F T M WG GO Y V AT NX) sz) (fun r W1 => r = some (.int (nI (if ktr n i j = 0 then vtr i.toNatClampNeg j.toNatClampNeg else 0))) ∧ W1 = (mW ad cI cJ cB (ktr n i j) n t kp ma my rk G F T M WG GO Y V AT NX))) 0 0 (va_A (mW ad cI cJ cB th n t kp ma my rk G F T M WG GO Y V AT NX) sz) := by
  refine Met.ofW (cc := cX7_travel) (maxL := 3) (ret := (some .int)) (by decide) rfl ?_
  intro p e s m args below meth c s₁ B hml hv
  obtain ⟨rfl, hsz, hP, hK, hD0⟩ := hv
  have hx := B.exec
  have hb := B.bytes
  have hr := B.returns
  have hts := atoms_spec (ws := wsX7_travel) B.pre
  have hown : s.vm.findClass RX7 = some m.cls := findClass_of_methodNamed B.named
  have hlocks := B.notSynchronized
  have hinX7 : ∀ w ∈ u_ws RX7 TX7 17, w ∈ wsX7_travel := by decide +kernel
  subst hsz
  have hD := hD0.self (sz := s.heap.size)
  generalize hAe : va_A (mW ad cI cJ cB th n t kp ma my rk G F T M WG GO Y V AT NX) s.heap.size = A at hD ⊢
  have hA : ∀ q : Nat, s.heap.size ≤ q → A q := fun q h => by rw [← hAe]; exact Or.inr h
  have hS : va_S A s.heap s.heap [] := va_S.rf
  have hl := lv_entry ([.ref (ad 0), .int i, .int j]) (n := 3) (Nat.le_of_ble_eq_true rfl)
  rw [lg_entry_eq]
  generalize (lg_sl ([.ref (ad 0), .int i, .int j]) ++ List.replicate (3 - (lg_sl ([.ref (ad 0), .int i, .int j])).length) Slot.unset).toArray = ls at hl ⊢
  have hl : lv_has ls 3 [(0, .ref (ad 0)), (1, .int i), (2, .int j)] := hl
  have cut_22 : ∀ (v22_1 : Int32) (v22_2 : Int32) (u22_0 : Int32) (ls : Array Slot) (H : Heap) (locs : List Loc) (_ : i = v22_1) (_ : j = v22_2) (_ : u22_0 = nI (ktr n i j)) (_ : lv_has ls 3 [(0, .ref (ad 0)), (1, .int v22_1), (2, .int v22_2)]) (_ : va_P (dC, dI) vwCl (mW ad cI cJ cB th n t kp ma my rk G F T M WG GO Y V AT NX) H) (_ : va_D A (mW ad cI cJ cB th n t kp ma my rk G F T M WG GO Y V AT NX)) (_ : va_S A s.heap H locs), W p l e (headSpec wsX7_travel ({ frames := 1, cells := 0, slots := 0, locals := 21 })).room s m ([.ref (ad 0), .int i, .int j] : List Value).toArray below meth c H locs 0 0 (MQ below (wr_Q (dC, dI) A (fun r W1 => r = some (.int (nI (if ktr n i j = 0 then vtr i.toNatClampNeg j.toNatClampNeg else 0))) ∧ W1 = (mW ad cI cJ cB (ktr n i j) n t kp ma my rk G F T M WG GO Y V AT NX))) ([.ref (ad 0), .int i, .int j] : List Value).toArray s 0 0 A) (F0 m 22 ls [.int u22_0, .ref (ad 0)]) := by
    rintro v22_1 v22_2 u22_0 ls H locs rfl rfl rfl hl hP hD hS
    refine va_put (D := (dC, dI)) (ci := 6) (v := .int (nI (ktr n i j))) (ty := .int) (C := RX7) (T := TX7) (N := 17) hx hb hts hinX7 tyX7 tyX7_ok nmX7 hown hK hP hD hS 0 rfl rfl 0 (by decide) (hts (.fieldLink RX7 50 "ReshuffleSearchModel" "thrown" "I") (by decide +kernel)) (fun _ h9 => h9) rfl (by decide +kernel) (rfl) (rfl) (Nat.le_of_ble_eq_true rfl) dX7_travel_22 (fun H locs hP hD hS => ?_)
    have hP : va_P (dC, dI) vwCl (mW ad cI cJ cB (ktr n i j) n t kp ma my rk G F T M WG GO Y V AT NX) H := hP
    have hD : va_D A (mW ad cI cJ cB (ktr n i j) n t kp ma my rk G F T M WG GO Y V AT NX) := hD
    refine lv_aload_n hx hb dX7_travel_25 rfl (lv_at hl 0 rfl) ?_
    refine va_get (D := (dC, dI)) (ci := 6) (v := .int (nI (ktr n i j))) (C := RX7) (T := TX7) (N := 17) hx hb hts hinX7 hown hK hP 0 rfl rfl 0 (by decide) (hts (.fieldLink RX7 50 "ReshuffleSearchModel" "thrown" "I") (by decide +kernel)) (fun _ h9 => h9) rfl dX7_travel_26 ?_
    refine wk_if_le (tgt := 36) hx hb (by have := kat_le (n := n) (t := n) (i := i) (j := j); unfold ktr; unfold kat at this; omega) dX7_travel_29 (by decide) (fun c_29 => ?_) (fun c_29 => ?_)
    · obtain ⟨a, b, ha, hi, hb9, hj⟩ := ktr0 hn0.2 c_29
      have hl : lv_has ls 3 [(0, .ref (ad 0)), (1, .int (nI a)), (2, .int (nI b))] := by rw [hi, hj] at hl; exact hl
      refine lv_iload_n hx hb dX7_travel_36 rfl (lv_at hl 1 rfl) ?_
      refine lv_iload_n hx hb dX7_travel_37 rfl (lv_at hl 2 rfl) ?_
      refine pu_go (va_runS (As := [.int (nI a), .int (nI b)]) (rest := []) ⟨hx, hb, hml, hown, hts⟩ (c_X7_far l a b (by first | omega | assumption) (by first | omega | assumption)) (va_cwS 2 hts gX7_travel_X7_far rfl rfl rfl (by decide +kernel) ⟨Nat.le_of_ble_eq_true rfl, Nat.le_of_ble_eq_true rfl⟩) ⟨fun _ _ _ _ q => q, fun _ _ _ => ⟨rfl, trivial⟩⟩ rfl rfl hl.1 rfl (lv_room (Nat.le_of_ble_eq_true rfl)) dX7_travel_38 ⟨Nat.le_refl _, Nat.le_refl _⟩) ?_
      exact W.iret hx hb hr (fun t9 ht hW => ⟨some (.int (nI (2 + (a - b + (b - a))))), (mW ad cI cJ cB (ktr n i j) n t kp ma my rk G F T M WG GO Y V AT NX), rfl, ⟨by rw [if_pos c_29, hi, hj, tn (by omega), tn (by omega)]; rfl, rfl⟩, by rw [ht]; exact hP, hD, hS.F ht⟩) hS.2.2 dX7_travel_41
    · refine lv_iconst (v := nI 0) hx hb dX7_travel_32 (by decide +kernel) ?_
      refine lv_goto (tgt := 41) hx hb dX7_travel_33 (by decide) ?_
      exact W.iret hx hb hr (fun t9 ht hW => ⟨some (.int (nI 0)), (mW ad cI cJ cB (ktr n i j) n t kp ma my rk G F T M WG GO Y V AT NX), rfl, ⟨by rw [if_neg (by omega)], rfl⟩, by rw [ht]; exact hP, hD, hS.F ht⟩) hS.2.2 dX7_travel_41
  refine lv_aload_n hx hb dX7_travel_0 rfl (lv_at hl 0 rfl) ?_
  refine lv_aload_n hx hb dX7_travel_1 rfl (lv_at hl 0 rfl) ?_
  refine lv_iload_n hx hb dX7_travel_2 rfl (lv_at hl 1 rfl) ?_
  refine pu_go (va_runV (As := [.int i]) (rest := [.ref (ad 0)]) ⟨hx, hb, hml, hown, hts⟩ (c_X7_isStack l dC dI (mW ad cI cJ cB th n t kp ma my rk G F T M WG GO Y V AT NX) [(cI, .int), (cJ, .long), (cB, .byte)] (ad 0) _ rfl n rfl hn0 i) (cwV 1 hts gX7_travel_X7_isStack rfl rfl rfl (by decide +kernel) ⟨Nat.le_of_ble_eq_true rfl, Nat.le_of_ble_eq_true rfl⟩) ⟨fun a U g mk q => ⟨q.1, q.2.1, va_K.moved (u := U) (U := U.calling g mk a) (Vm.Alike.refl U.vm) q.2.2⟩, va_recv hK hP (ci := 6) (q0 := 0) rfl rfl, fun U hU hW => ⟨rfl, by rw [hU]; exact hP, va_K.moved hW.alike hK⟩⟩ rfl rfl hl.1 rfl (lv_room (Nat.le_of_ble_eq_true rfl)) dX7_travel_3 ⟨Nat.le_refl _, Nat.le_refl _⟩) ?_
  refine wk_bn_eq (tgt := 21) hx hb dX7_travel_6 (by decide) (fun c_6 => ?_) (fun c_6 => ?_)
  · refine lv_iconst (v := nI 1) hx hb dX7_travel_21 (by decide +kernel) ?_
    exact cut_22 _ _ _ ls _ _ (rfl) (rfl) (by unfold ktr; rw [if_neg (fun q => by first | exact c_6 q.1 | exact c_14 q.2)]) (lv_sub hl [0, 1, 2] rfl) (hP) (hD) hS
  · refine lv_aload_n hx hb dX7_travel_9 rfl (lv_at hl 0 rfl) ?_
    refine lv_iload_n hx hb dX7_travel_10 rfl (lv_at hl 2 rfl) ?_
    refine pu_go (va_runV (As := [.int j]) (rest := [.ref (ad 0)]) ⟨hx, hb, hml, hown, hts⟩ (c_X7_isStack l dC dI (mW ad cI cJ cB th n t kp ma my rk G F T M WG GO Y V AT NX) [(cI, .int), (cJ, .long), (cB, .byte)] (ad 0) _ rfl n rfl hn0 j) (cwV 1 hts gX7_travel_X7_isStack rfl rfl rfl (by decide +kernel) ⟨Nat.le_of_ble_eq_true rfl, Nat.le_of_ble_eq_true rfl⟩) ⟨fun a U g mk q => ⟨q.1, q.2.1, va_K.moved (u := U) (U := U.calling g mk a) (Vm.Alike.refl U.vm) q.2.2⟩, va_recv hK hP (ci := 6) (q0 := 0) rfl rfl, fun U hU hW => ⟨rfl, by rw [hU]; exact hP, va_K.moved hW.alike hK⟩⟩ rfl rfl hl.1 rfl (lv_room (Nat.le_of_ble_eq_true rfl)) dX7_travel_11 ⟨Nat.le_refl _, Nat.le_refl _⟩) ?_
    refine wk_bn_eq (tgt := 21) hx hb dX7_travel_14 (by decide) (fun c_14 => ?_) (fun c_14 => ?_)
    · refine lv_iconst (v := nI 1) hx hb dX7_travel_21 (by decide +kernel) ?_
      exact cut_22 _ _ _ ls _ _ (rfl) (rfl) (by unfold ktr; rw [if_neg (fun q => by first | exact c_6 q.1 | exact c_14 q.2)]) (lv_sub hl [0, 1, 2] rfl) (hP) (hD) hS
    · refine lv_iconst (v := nI 0) hx hb dX7_travel_17 (by decide +kernel) ?_
      refine lv_goto (tgt := 22) hx hb dX7_travel_18 (by decide) ?_
      exact cut_22 _ _ _ ls _ _ (rfl) (rfl) (by unfold ktr; rw [if_pos ⟨c_6, c_14⟩]) (lv_sub hl [0, 1, 2] rfl) (hP) (hD) hS
set_option maxHeartbeats 4000000 in
set_option maxRecDepth 100000 in
theorem c_X7_move (l : Launch) (dC : Nat → ClassId) (dI : Nat → Nat → Nat) (ad : Nat → Nat) (cI cJ cB : ClassId) (th n t kp ma my rk : Nat) (G F T M WG GO Y V AT NX : Nat → Nat) (hm0 : my ≤ 30) (hk0 : kp < 2) (i j : Int32) (sz : Nat) : Met l yX7_move wsX7_move ({ frames := 0, cells := 0, slots := 0, locals := 0 }) (va_Pc [.ref (ad 0), .int i, .int j] (wr_P (dC, dI) [(cI, .int), (cJ, .long), (cB, .byte)] (mW ad cI cJ cB th n t kp ma my rk G F T M WG GO Y V AT NX) sz)) (wr_Q (dC, dI) (va_A (mW ad cI cJ cB th n t kp ma my rk G F T M WG GO Y V AT NX) sz) (fun r W1 => r = some (.int (nI (if kmv kp my i j = 0 then vmv F T M i.toNatClampNeg j.toNatClampNeg else 0))) ∧ W1 = (mW ad cI cJ cB (kmv kp my i j) n t kp ma my rk G F T M WG GO Y V AT NX))) 0 0 (va_A (mW ad cI cJ cB th n t kp ma my rk G F T M WG GO Y V AT NX) sz) := by
  refine Met.ofW (cc := cX7_move) (maxL := 3) (ret := (some .int)) (by decide) rfl ?_
  intro p e s m args below meth c s₁ B hml hv
  obtain ⟨rfl, hsz, hP, hK, hD0⟩ := hv
  have hx := B.exec
  have hb := B.bytes
  have hr := B.returns
  have hts := atoms_spec (ws := wsX7_move) B.pre
  have hown : s.vm.findClass RX7 = some m.cls := findClass_of_methodNamed B.named
  have hlocks := B.notSynchronized
  have hinX7 : ∀ w ∈ u_ws RX7 TX7 17, w ∈ wsX7_move := by decide +kernel
  subst hsz
  have hD := hD0.self (sz := s.heap.size)
  generalize hAe : va_A (mW ad cI cJ cB th n t kp ma my rk G F T M WG GO Y V AT NX) s.heap.size = A at hD ⊢
  have hA : ∀ q : Nat, s.heap.size ≤ q → A q := fun q h => by rw [← hAe]; exact Or.inr h
  have hS : va_S A s.heap s.heap [] := va_S.rf
  have hl := lv_entry ([.ref (ad 0), .int i, .int j]) (n := 3) (Nat.le_of_ble_eq_true rfl)
  rw [lg_entry_eq]
  generalize (lg_sl ([.ref (ad 0), .int i, .int j]) ++ List.replicate (3 - (lg_sl ([.ref (ad 0), .int i, .int j])).length) Slot.unset).toArray = ls at hl ⊢
  have hl : lv_has ls 3 [(0, .ref (ad 0)), (1, .int i), (2, .int j)] := hl
  have cut_34 : ∀ (v34_1 : Int32) (v34_2 : Int32) (u34_0 : Int32) (ls : Array Slot) (H : Heap) (locs : List Loc) (_ : i = v34_1) (_ : j = v34_2) (_ : u34_0 = nI (kmv kp my i j)) (_ : lv_has ls 3 [(0, .ref (ad 0)), (1, .int v34_1), (2, .int v34_2)]) (_ : va_P (dC, dI) vwCl (mW ad cI cJ cB th n t kp ma my rk G F T M WG GO Y V AT NX) H) (_ : va_D A (mW ad cI cJ cB th n t kp ma my rk G F T M WG GO Y V AT NX)) (_ : va_S A s.heap H locs), W p l e (headSpec wsX7_move ({ frames := 0, cells := 0, slots := 0, locals := 0 })).room s m ([.ref (ad 0), .int i, .int j] : List Value).toArray below meth c H locs 0 0 (MQ below (wr_Q (dC, dI) A (fun r W1 => r = some (.int (nI (if kmv kp my i j = 0 then vmv F T M i.toNatClampNeg j.toNatClampNeg else 0))) ∧ W1 = (mW ad cI cJ cB (kmv kp my i j) n t kp ma my rk G F T M WG GO Y V AT NX))) ([.ref (ad 0), .int i, .int j] : List Value).toArray s 0 0 A) (F0 m 34 ls [.int u34_0, .ref (ad 0)]) := by
    rintro v34_1 v34_2 u34_0 ls H locs rfl rfl rfl hl hP hD hS
    refine va_put (D := (dC, dI)) (ci := 6) (v := .int (nI (kmv kp my i j))) (ty := .int) (C := RX7) (T := TX7) (N := 17) hx hb hts hinX7 tyX7 tyX7_ok nmX7 hown hK hP hD hS 0 rfl rfl 0 (by decide) (hts (.fieldLink RX7 50 "ReshuffleSearchModel" "thrown" "I") (by decide +kernel)) (fun _ h9 => h9) rfl (by decide +kernel) (rfl) (rfl) (Nat.le_of_ble_eq_true rfl) dX7_move_34 (fun H locs hP hD hS => ?_)
    have hP : va_P (dC, dI) vwCl (mW ad cI cJ cB (kmv kp my i j) n t kp ma my rk G F T M WG GO Y V AT NX) H := hP
    have hD : va_D A (mW ad cI cJ cB (kmv kp my i j) n t kp ma my rk G F T M WG GO Y V AT NX) := hD
    refine lv_aload_n hx hb dX7_move_37 rfl (lv_at hl 0 rfl) ?_
    refine va_get (D := (dC, dI)) (ci := 6) (v := .int (nI (kmv kp my i j))) (C := RX7) (T := TX7) (N := 17) hx hb hts hinX7 hown hK hP 0 rfl rfl 0 (by decide) (hts (.fieldLink RX7 50 "ReshuffleSearchModel" "thrown" "I") (by decide +kernel)) (fun _ h9 => h9) rfl dX7_move_38 ?_
    refine wk_if_le (tgt := 46) hx hb (by have := kmv_le (kp := kp) (my := my) (i := i) (j := j); omega) dX7_move_41 (by decide) (fun c_41 => ?_) (fun c_41 => ?_)
    · obtain ⟨-, a, b, ha, hi, hb9, hj⟩ := kmv0 (by omega) c_41
      have hl : lv_has ls 3 [(0, .ref (ad 0)), (1, .int (nI a)), (2, .int (nI b))] := by rw [hi, hj] at hl; exact hl
      refine lv_iload_n hx hb dX7_move_46 rfl (lv_at hl 2 rfl) ?_
      refine wk_if_ne (tgt := 59) hx hb (by omega) dX7_move_47 (by decide) (fun c_47 => ?_) (fun c_47 => ?_)
      · refine lv_iload_n hx hb dX7_move_59 rfl (lv_at hl 2 rfl) ?_
        refine lv_iconst (v := nI 1) hx hb dX7_move_60 (by decide +kernel) ?_
        refine wk_icmp_ne (tgt := 73) hx hb (by omega) (by omega) dX7_move_61 (by decide) (fun c_61 => ?_) (fun c_61 => ?_)
        · refine lv_aload_n hx hb dX7_move_73 rfl (lv_at hl 0 rfl) ?_
          refine va_get (D := (dC, dI)) (ci := 6) (v := .ref (ad 9)) (C := RX7) (T := TX7) (N := 17) hx hb hts hinX7 hown hK hP 0 rfl rfl 9 (by decide) (hts (.fieldLink RX7 19 "ReshuffleSearchModel" "moved" "[I") (by decide +kernel)) (fun _ h9 => h9) rfl dX7_move_74 ?_
          refine lv_iload_n hx hb dX7_move_77 rfl (lv_at hl 1 rfl) ?_
          refine wk_iald hx hb hK hP 4 0 rfl rfl (by omega) dX7_move_78 ?_
          exact W.iret hx hb hr (fun t9 ht hW => ⟨some (.int (nI (M a))), (mW ad cI cJ cB (kmv kp my i j) n t kp ma my rk G F T M WG GO Y V AT NX), rfl, ⟨by rw [if_pos c_41, hi, hj, tn (by omega), tn (by omega)]; unfold vmv; rw [if_neg c_47, if_neg c_61], rfl⟩, by rw [ht]; exact hP, hD, hS.F ht⟩) hS.2.2 dX7_move_79
        · refine lv_aload_n hx hb dX7_move_64 rfl (lv_at hl 0 rfl) ?_
          refine va_get (D := (dC, dI)) (ci := 6) (v := .ref (ad 8)) (C := RX7) (T := TX7) (N := 17) hx hb hts hinX7 hown hK hP 0 rfl rfl 8 (by decide) (hts (.fieldLink RX7 16 "ReshuffleSearchModel" "to" "[I") (by decide +kernel)) (fun _ h9 => h9) rfl dX7_move_65 ?_
          refine lv_iload_n hx hb dX7_move_68 rfl (lv_at hl 1 rfl) ?_
          refine wk_iald hx hb hK hP 3 0 rfl rfl (by omega) dX7_move_69 ?_
          refine lv_goto (tgt := 79) hx hb dX7_move_70 (by decide) ?_
          exact W.iret hx hb hr (fun t9 ht hW => ⟨some (.int (nI (T a))), (mW ad cI cJ cB (kmv kp my i j) n t kp ma my rk G F T M WG GO Y V AT NX), rfl, ⟨by rw [if_pos c_41, hi, hj, tn (by omega), tn (by omega)]; unfold vmv; rw [if_neg c_47, if_pos c_61], rfl⟩, by rw [ht]; exact hP, hD, hS.F ht⟩) hS.2.2 dX7_move_79
      · refine lv_aload_n hx hb dX7_move_50 rfl (lv_at hl 0 rfl) ?_
        refine va_get (D := (dC, dI)) (ci := 6) (v := .ref (ad 7)) (C := RX7) (T := TX7) (N := 17) hx hb hts hinX7 hown hK hP 0 rfl rfl 7 (by decide) (hts (.fieldLink RX7 13 "ReshuffleSearchModel" "from" "[I") (by decide +kernel)) (fun _ h9 => h9) rfl dX7_move_51 ?_
        refine lv_iload_n hx hb dX7_move_54 rfl (lv_at hl 1 rfl) ?_
        refine wk_iald hx hb hK hP 2 0 rfl rfl (by omega) dX7_move_55 ?_
        refine lv_goto (tgt := 79) hx hb dX7_move_56 (by decide) ?_
        exact W.iret hx hb hr (fun t9 ht hW => ⟨some (.int (nI (F a))), (mW ad cI cJ cB (kmv kp my i j) n t kp ma my rk G F T M WG GO Y V AT NX), rfl, ⟨by rw [if_pos c_41, hi, hj, tn (by omega), tn (by omega)]; unfold vmv; rw [if_pos c_47], rfl⟩, by rw [ht]; exact hP, hD, hS.F ht⟩) hS.2.2 dX7_move_79
    · refine lv_iconst (v := nI 0) hx hb dX7_move_44 (by decide +kernel) ?_
      exact W.iret hx hb hr (fun t9 ht hW => ⟨some (.int (nI 0)), (mW ad cI cJ cB (kmv kp my i j) n t kp ma my rk G F T M WG GO Y V AT NX), rfl, ⟨by rw [if_neg (by omega)], rfl⟩, by rw [ht]; exact hP, hD, hS.F ht⟩) hS.2.2 dX7_move_45
  refine lv_aload_n hx hb dX7_move_0 rfl (lv_at hl 0 rfl) ?_
  refine lv_aload_n hx hb dX7_move_1 rfl (lv_at hl 0 rfl) ?_
  refine va_get (D := (dC, dI)) (ci := 6) (v := .int (nI kp)) (C := RX7) (T := TX7) (N := 17) hx hb hts hinX7 hown hK hP 0 rfl rfl 4 (by decide) (hts (.fieldLink RX7 128 "ReshuffleSearchModel" "isKept" "Z") (by decide +kernel)) (fun _ h9 => h9) rfl dX7_move_2 ?_
  refine wk_if_eq (tgt := 33) hx hb (by omega) dX7_move_5 (by decide) (fun c_5 => ?_) (fun c_5 => ?_)
  · refine lv_iconst (v := nI 1) hx hb dX7_move_33 (by decide +kernel) ?_
    exact cut_34 _ _ _ ls _ _ (rfl) (rfl) (by unfold kmv; rw [if_neg (fun q => by first | exact q.1 c_5 | exact q.2.1.1 c_9 | exact Int32.not_le.mpr q.2.1.2 c_17 | exact q.2.2.1 c_21 | exact Int32.not_le.mpr q.2.2.2 c_26)]) (lv_sub hl [0, 1, 2] rfl) (hP) (hD) hS
  · refine lv_iload_n hx hb dX7_move_8 rfl (lv_at hl 1 rfl) ?_
    refine lv_if_lt (tgt := 33) hx hb dX7_move_9 (by decide) (fun c_9 => ?_) (fun c_9 => ?_)
    · refine lv_iconst (v := nI 1) hx hb dX7_move_33 (by decide +kernel) ?_
      exact cut_34 _ _ _ ls _ _ (rfl) (rfl) (by unfold kmv; rw [if_neg (fun q => by first | exact q.1 c_5 | exact q.2.1.1 c_9 | exact Int32.not_le.mpr q.2.1.2 c_17 | exact q.2.2.1 c_21 | exact Int32.not_le.mpr q.2.2.2 c_26)]) (lv_sub hl [0, 1, 2] rfl) (hP) (hD) hS
    · refine lv_iload_n hx hb dX7_move_12 rfl (lv_at hl 1 rfl) ?_
      refine lv_aload_n hx hb dX7_move_13 rfl (lv_at hl 0 rfl) ?_
      refine va_get (D := (dC, dI)) (ci := 6) (v := .int (nI my)) (C := RX7) (T := TX7) (N := 17) hx hb hts hinX7 hown hK hP 0 rfl rfl 6 (by decide) (hts (.fieldLink RX7 108 "ReshuffleSearchModel" "many" "I") (by decide +kernel)) (fun _ h9 => h9) rfl dX7_move_14 ?_
      refine lv_icmp_ge (tgt := 33) hx hb dX7_move_17 (by decide) (fun c_17 => ?_) (fun c_17 => ?_)
      · refine lv_iconst (v := nI 1) hx hb dX7_move_33 (by decide +kernel) ?_
        exact cut_34 _ _ _ ls _ _ (rfl) (rfl) (by unfold kmv; rw [if_neg (fun q => by first | exact q.1 c_5 | exact q.2.1.1 c_9 | exact Int32.not_le.mpr q.2.1.2 c_17 | exact q.2.2.1 c_21 | exact Int32.not_le.mpr q.2.2.2 c_26)]) (lv_sub hl [0, 1, 2] rfl) (hP) (hD) hS
      · refine lv_iload_n hx hb dX7_move_20 rfl (lv_at hl 2 rfl) ?_
        refine lv_if_lt (tgt := 33) hx hb dX7_move_21 (by decide) (fun c_21 => ?_) (fun c_21 => ?_)
        · refine lv_iconst (v := nI 1) hx hb dX7_move_33 (by decide +kernel) ?_
          exact cut_34 _ _ _ ls _ _ (rfl) (rfl) (by unfold kmv; rw [if_neg (fun q => by first | exact q.1 c_5 | exact q.2.1.1 c_9 | exact Int32.not_le.mpr q.2.1.2 c_17 | exact q.2.2.1 c_21 | exact Int32.not_le.mpr q.2.2.2 c_26)]) (lv_sub hl [0, 1, 2] rfl) (hP) (hD) hS
        · refine lv_iload_n hx hb dX7_move_24 rfl (lv_at hl 2 rfl) ?_
          refine lv_iconst (v := nI 3) hx hb dX7_move_25 (by decide +kernel) ?_
          refine lv_icmp_ge (tgt := 33) hx hb dX7_move_26 (by decide) (fun c_26 => ?_) (fun c_26 => ?_)
          · refine lv_iconst (v := nI 1) hx hb dX7_move_33 (by decide +kernel) ?_
            exact cut_34 _ _ _ ls _ _ (rfl) (rfl) (by unfold kmv; rw [if_neg (fun q => by first | exact q.1 c_5 | exact q.2.1.1 c_9 | exact Int32.not_le.mpr q.2.1.2 c_17 | exact q.2.2.1 c_21 | exact Int32.not_le.mpr q.2.2.2 c_26)]) (lv_sub hl [0, 1, 2] rfl) (hP) (hD) hS
          · refine lv_iconst (v := nI 0) hx hb dX7_move_29 (by decide +kernel) ?_
            refine lv_goto (tgt := 34) hx hb dX7_move_30 (by decide) ?_
            exact cut_34 _ _ _ ls _ _ (rfl) (rfl) (by unfold kmv; rw [if_pos ⟨c_5, ⟨c_9, Int32.not_le.mp c_17⟩, c_21, Int32.not_le.mp c_26⟩]) (lv_sub hl [0, 1, 2] rfl) (hP) (hD) hS
set_option maxHeartbeats 4000000 in
set_option maxRecDepth 100000 in
theorem c_X7_now (l : Launch) (dC : Nat → ClassId) (dI : Nat → Nat → Nat) (ad : Nat → Nat) (cI cJ cB : ClassId) (th n t kp ma my rk : Nat) (G F T M WG GO Y V AT NX : Nat → Nat) (hG : ∀ j, G j < 2147483648) (hGO : ∀ j, GO j < 2147483648) (hR : (nwr G GO 20).1 ≤ 6)  (sz : Nat) : Met l yX7_now wsX7_now ({ frames := 1, cells := 0, slots := 0, locals := 23 }) (va_Pc [.ref (ad 0)] (wr_P (dC, dI) [(cI, .int), (cJ, .long), (cB, .byte)] (mW ad cI cJ cB th n t kp ma my rk G F T M WG GO Y V AT NX) sz)) (wr_Q (dC, dI) (va_A (mW ad cI cJ cB th n t kp ma my rk G F T M WG GO Y V AT NX) sz) (fun r W1 => r = some (.long (lN (nwy G (nwr G GO 20).2 (nwr G GO 20).1 16))) ∧ W1 = (mW ad cI cJ cB th n t kp ma my ((nwr G GO 20).1) G F T M WG ((nwr G GO 20).2) Y V AT NX))) 0 0 (va_A (mW ad cI cJ cB th n t kp ma my rk G F T M WG GO Y V AT NX) sz) := by
  refine Met.ofW (cc := cX7_now) (maxL := 4) (ret := (some .long)) (by decide) rfl ?_
  intro p e s m args below meth c s₁ B hml hv
  obtain ⟨rfl, hsz, hP, hK, hD0⟩ := hv
  have hx := B.exec
  have hb := B.bytes
  have hr := B.returns
  have hts := atoms_spec (ws := wsX7_now) B.pre
  have hown : s.vm.findClass RX7 = some m.cls := findClass_of_methodNamed B.named
  have hlocks := B.notSynchronized
  have hinX7 : ∀ w ∈ u_ws RX7 TX7 17, w ∈ wsX7_now := by decide +kernel
  subst hsz
  have hD := hD0.self (sz := s.heap.size)
  generalize hAe : va_A (mW ad cI cJ cB th n t kp ma my rk G F T M WG GO Y V AT NX) s.heap.size = A at hD ⊢
  have hA : ∀ q : Nat, s.heap.size ≤ q → A q := fun q h => by rw [← hAe]; exact Or.inr h
  have hS : va_S A s.heap s.heap [] := va_S.rf
  have hl := lv_entry ([.ref (ad 0)]) (n := 4) (Nat.le_of_ble_eq_true rfl)
  rw [lg_entry_eq]
  generalize (lg_sl ([.ref (ad 0)]) ++ List.replicate (4 - (lg_sl ([.ref (ad 0)])).length) Slot.unset).toArray = ls at hl ⊢
  have hl : lv_has ls 4 [(0, .ref (ad 0))] := hl
  refine lv_aload_n hx hb dX7_now_0 rfl (lv_at hl 0 rfl) ?_
  refine lv_iconst (v := nI 0) hx hb dX7_now_1 (by decide +kernel) ?_
  refine va_put (D := (dC, dI)) (ci := 6) (v := .int (nI 0)) (ty := .int) (C := RX7) (T := TX7) (N := 17) hx hb hts hinX7 tyX7 tyX7_ok nmX7 hown hK hP hD hS 0 rfl rfl 11 (by decide) (hts (.fieldLink RX7 85 "ReshuffleSearchModel" "ranks" "I") (by decide +kernel)) (fun _ h9 => h9) rfl (by decide +kernel) (rfl) (rfl) (Nat.le_of_ble_eq_true rfl) dX7_now_2 (fun H locs hP hD hS => ?_)
  have hP : va_P (dC, dI) vwCl (mW ad cI cJ cB th n t kp ma my 0 G F T M WG GO Y V AT NX) H := hP
  have hD : va_D A (mW ad cI cJ cB th n t kp ma my 0 G F T M WG GO Y V AT NX) := hD
  refine lv_iconst (v := nI 1) hx hb dX7_now_5 (by decide +kernel) ?_
  refine lv_istore_n (lv' := [(1, .int (nI 1)), (0, .ref (ad 0))]) hx hb dX7_now_6 rfl hl (by decide) rfl (fun ls hl => ?_)
  have cut_7 : ∀ (n_7 : Nat) (k : Nat) (v7_1 : Int32) (ls : Array Slot) (H : Heap) (locs : List Loc) (hk : k ≤ 20) (hn_7 : 20 - k < n_7) (_ : v7_1 = nI (k + 1)) (_ : lv_has ls 4 [(0, .ref (ad 0)), (1, .int v7_1)]) (_ : va_P (dC, dI) vwCl (mW ad cI cJ cB th n t kp ma my ((nwr G GO k).1) G F T M WG ((nwr G GO k).2) Y V AT NX) H) (_ : va_D A (mW ad cI cJ cB th n t kp ma my ((nwr G GO k).1) G F T M WG ((nwr G GO k).2) Y V AT NX)) (_ : va_S A s.heap H locs), W p l e (headSpec wsX7_now ({ frames := 1, cells := 0, slots := 0, locals := 23 })).room s m ([.ref (ad 0)] : List Value).toArray below meth c H locs 0 0 (MQ below (wr_Q (dC, dI) A (fun r W1 => r = some (.long (lN (nwy G (nwr G GO 20).2 (nwr G GO 20).1 16))) ∧ W1 = (mW ad cI cJ cB th n t kp ma my ((nwr G GO 20).1) G F T M WG ((nwr G GO 20).2) Y V AT NX))) ([.ref (ad 0)] : List Value).toArray s 0 0 A) (F0 m 7 ls []) := by
    intro n_7
    induction n_7 with
    | zero => intros; omega
    | succ n_7 ih_7 =>
      rintro k v7_1 ls H locs hk hn_7 rfl hl hP hD hS
      have hq := nwr_mono G GO hk
      refine lv_iload_n hx hb dX7_now_7 rfl (lv_at hl 1 rfl) ?_
      refine lv_bipush (v := nI 21) hx hb dX7_now_8 (by decide +kernel) ?_
      refine wk_icmp_ge (tgt := 79) hx hb (by omega) (by omega) dX7_now_10 (by decide) (fun c_10 => ?_) (fun c_10 => ?_)
      · have hk20 : k = 20 := by omega
        subst hk20
        refine lv_lconst (v := lN 0) hx hb dX7_now_79 (by decide +kernel) ?_
        refine lv_lstore_n (lv' := [(1, .long (lN 0)), (0, .ref (ad 0))]) hx hb dX7_now_80 rfl hl (by decide) rfl (fun ls hl => ?_)
        refine lv_iconst (v := nI 0) hx hb dX7_now_81 (by decide +kernel) ?_
        refine lv_istore_n (lv' := [(3, .int (nI 0)), (1, .long (lN 0)), (0, .ref (ad 0))]) hx hb dX7_now_82 rfl hl (by decide) rfl (fun ls hl => ?_)
        have cut_83 : ∀ (n_83 : Nat) (k : Nat) (v83_1 : Int64) (v83_3 : Int32) (ls : Array Slot) (H : Heap) (locs : List Loc) (hk : k ≤ 16) (hn_83 : 16 - k < n_83) (_ : v83_1 = lN (nwy G (nwr G GO 20).2 (nwr G GO 20).1 k)) (_ : v83_3 = nI k) (_ : lv_has ls 4 [(0, .ref (ad 0)), (1, .long v83_1), (3, .int v83_3)]) (_ : va_P (dC, dI) vwCl (mW ad cI cJ cB th n t kp ma my ((nwr G GO 20).1) G F T M WG ((nwr G GO 20).2) Y V AT NX) H) (_ : va_D A (mW ad cI cJ cB th n t kp ma my ((nwr G GO 20).1) G F T M WG ((nwr G GO 20).2) Y V AT NX)) (_ : va_S A s.heap H locs), W p l e (headSpec wsX7_now ({ frames := 1, cells := 0, slots := 0, locals := 23 })).room s m ([.ref (ad 0)] : List Value).toArray below meth c H locs 0 0 (MQ below (wr_Q (dC, dI) A (fun r W1 => r = some (.long (lN (nwy G (nwr G GO 20).2 (nwr G GO 20).1 16))) ∧ W1 = (mW ad cI cJ cB th n t kp ma my ((nwr G GO 20).1) G F T M WG ((nwr G GO 20).2) Y V AT NX))) ([.ref (ad 0)] : List Value).toArray s 0 0 A) (F0 m 83 ls []) := by
          intro n_83
          induction n_83 with
          | zero => intros; omega
          | succ n_83 ih_83 =>
            rintro k v83_1 v83_3 ls H locs hk hn_83 rfl rfl hl hP hD hS
            have hq1 := nwy_lt (G := G) (GO := (nwr G GO 20).2) hR k
            have hq2 := rkf_le (nwr G GO 20).2 (G k) (nwr G GO 20).1
            refine lv_iload_n hx hb dX7_now_83 rfl (lv_at hl 2 rfl) ?_
            refine lv_bipush (v := nI 16) hx hb dX7_now_84 (by decide +kernel) ?_
            refine wk_icmp_ge (tgt := 126) hx hb (by omega) (by omega) dX7_now_86 (by decide) (fun c_86 => ?_) (fun c_86 => ?_)
            · refine lv_lload_n hx hb dX7_now_126 rfl (lv_at hl 1 rfl) ?_
              exact W.lret hx hb hr (fun t9 ht hW => ⟨some (.long (lN (nwy G (nwr G GO 20).2 (nwr G GO 20).1 k))), (mW ad cI cJ cB th n t kp ma my ((nwr G GO 20).1) G F T M WG ((nwr G GO 20).2) Y V AT NX), rfl, ⟨by rw [show k = 16 by omega], rfl⟩, by rw [ht]; exact hP, hD, hS.F ht⟩) hS.2.2 dX7_now_127
            · have cut_114 : ∀ (v114_3 : Int32) (u114_0 : Int64) (u114_1 : Int64) (ls : Array Slot) (H : Heap) (locs : List Loc) (_ : v114_3 = nI k) (_ : u114_0 = lN (nwv G (nwr G GO 20).2 (nwr G GO 20).1 k)) (_ : u114_1 = lN (nwy G (nwr G GO 20).2 (nwr G GO 20).1 k)) (_ : lv_has ls 4 [(0, .ref (ad 0)), (3, .int v114_3)]) (_ : va_P (dC, dI) vwCl (mW ad cI cJ cB th n t kp ma my ((nwr G GO 20).1) G F T M WG ((nwr G GO 20).2) Y V AT NX) H) (_ : va_D A (mW ad cI cJ cB th n t kp ma my ((nwr G GO 20).1) G F T M WG ((nwr G GO 20).2) Y V AT NX)) (_ : va_S A s.heap H locs), W p l e (headSpec wsX7_now ({ frames := 1, cells := 0, slots := 0, locals := 23 })).room s m ([.ref (ad 0)] : List Value).toArray below meth c H locs 0 0 (MQ below (wr_Q (dC, dI) A (fun r W1 => r = some (.long (lN (nwy G (nwr G GO 20).2 (nwr G GO 20).1 16))) ∧ W1 = (mW ad cI cJ cB th n t kp ma my ((nwr G GO 20).1) G F T M WG ((nwr G GO 20).2) Y V AT NX))) ([.ref (ad 0)] : List Value).toArray s 0 0 A) (F0 m 114 ls [.long u114_0, .long u114_1]) := by
                rintro v114_3 u114_0 u114_1 ls H locs rfl rfl rfl hl hP hD hS
                refine lv_iconst (v := nI 3) hx hb dX7_now_114 (by decide +kernel) ?_
                refine lv_iload_n hx hb dX7_now_115 rfl (lv_at hl 1 rfl) ?_
                refine wk_imul hx hb dX7_now_116 ?_
                refine wk_lshl hx hb (by omega) dX7_now_117 ?_
                refine lv_lor hx hb dX7_now_118 ?_
                refine wk_tl (v' := lN (nwy G (nwr G GO 20).2 (nwr G GO 20).1 (k + 1))) (nwy_or hR (by omega)) ?_
                refine lv_lstore_n (lv' := [(1, .long (lN (nwy G (nwr G GO 20).2 (nwr G GO 20).1 (k + 1)))), (0, .ref (ad 0)), (3, .int (nI k))]) hx hb dX7_now_119 rfl hl (by decide) rfl (fun ls hl => ?_)
                refine lv_iinc (v := nI (k + 1)) (lv' := [(3, .int (nI (k + 1))), (1, .long (lN (nwy G (nwr G GO 20).2 (nwr G GO 20).1 (k + 1)))), (0, .ref (ad 0))]) hx hb dX7_now_120 hl (k := 2) rfl (wk_inc _ 1 rfl) (by decide) rfl (fun ls hl => ?_)
                refine lv_goto (tgt := 83) hx hb dX7_now_123 (by decide) ?_
                exact ih_83 (k + 1) _ _ ls _ _ (by omega) (by omega) (rfl) (rfl) (lv_sub hl [2, 1, 0] rfl) (hP) (hD) hS
              refine lv_lload_n hx hb dX7_now_89 rfl (lv_at hl 1 rfl) ?_
              refine lv_aload_n hx hb dX7_now_90 rfl (lv_at hl 0 rfl) ?_
              refine va_get (D := (dC, dI)) (ci := 6) (v := .ref (ad 3)) (C := RX7) (T := TX7) (N := 17) hx hb hts hinX7 hown hK hP 0 rfl rfl 3 (by decide) (hts (.fieldLink RX7 7 "ReshuffleSearchModel" "group" "[I") (by decide +kernel)) (fun _ h9 => h9) rfl dX7_now_91 ?_
              refine lv_iload_n hx hb dX7_now_94 rfl (lv_at hl 2 rfl) ?_
              refine wk_iald hx hb hK hP 1 0 rfl rfl (by omega) dX7_now_95 ?_
              refine wk_if_le (tgt := 113) hx hb (hG _) dX7_now_96 (by decide) (fun c_96 => ?_) (fun c_96 => ?_)
              · refine lv_lconst (v := lN 0) hx hb dX7_now_113 (by decide +kernel) ?_
                exact cut_114 _ _ _ ls _ _ (rfl) (by unfold nwv; rw [if_neg (by omega)]) (rfl) (lv_sub hl [0, 2] rfl) (hP) (hD) hS
              · refine lv_aload_n hx hb dX7_now_99 rfl (lv_at hl 0 rfl) ?_
                refine lv_aload_n hx hb dX7_now_100 rfl (lv_at hl 0 rfl) ?_
                refine va_get (D := (dC, dI)) (ci := 6) (v := .ref (ad 3)) (C := RX7) (T := TX7) (N := 17) hx hb hts hinX7 hown hK hP 0 rfl rfl 3 (by decide) (hts (.fieldLink RX7 7 "ReshuffleSearchModel" "group" "[I") (by decide +kernel)) (fun _ h9 => h9) rfl dX7_now_101 ?_
                refine lv_iload_n hx hb dX7_now_104 rfl (lv_at hl 2 rfl) ?_
                refine wk_iald hx hb hK hP 1 0 rfl rfl (by omega) dX7_now_105 ?_
                refine pu_go (va_runV (As := [.int (nI (G k))]) (rest := [.long (lN (nwy G (nwr G GO 20).2 (nwr G GO 20).1 k))]) ⟨hx, hb, hml, hown, hts⟩ (c_X7_rankOf l dC dI (mW ad cI cJ cB th n t kp ma my ((nwr G GO 20).1) G F T M WG ((nwr G GO 20).2) Y V AT NX) [(cI, .int), (cJ, .long), (cB, .byte)] (ad 0) _ rfl (ad 12) cI ((nwr G GO 20).2) ((nwr G GO 20).1) rfl rfl rfl rfl (G k) (hG _) (by omega) (nwr_lt G GO hGO 20 (by omega))) (cwV 1 hts gX7_now_X7_rankOf rfl rfl rfl (by decide +kernel) ⟨Nat.le_of_ble_eq_true rfl, Nat.le_of_ble_eq_true rfl⟩) ⟨fun a U g mk q => ⟨q.1, q.2.1, va_K.moved (u := U) (U := U.calling g mk a) (Vm.Alike.refl U.vm) q.2.2⟩, va_recv hK hP (ci := 6) (q0 := 0) rfl rfl, fun U hU hW => ⟨rfl, by rw [hU]; exact hP, va_K.moved hW.alike hK⟩⟩ rfl rfl hl.1 rfl (lv_room (Nat.le_of_ble_eq_true rfl)) dX7_now_106 ⟨Nat.le_refl _, Nat.le_refl _⟩) ?_
                refine wk_i2l hx hb (by omega) dX7_now_109 ?_
                refine lv_goto (tgt := 114) hx hb dX7_now_110 (by decide) ?_
                exact cut_114 _ _ _ ls _ _ (rfl) (by unfold nwv; rw [if_pos c_96]) (rfl) (lv_sub hl [0, 2] rfl) (hP) (hD) hS
        exact cut_83 (16 + 1) 0 _ _ ls _ _ (by omega) (by omega) (rfl) (rfl) (lv_sub hl [2, 1, 0] rfl) (hP) (hD) hS
      · refine lv_iconst (v := nI 0) hx hb dX7_now_13 (by decide +kernel) ?_
        refine lv_istore_n (lv' := [(2, .int (nI 0)), (0, .ref (ad 0)), (1, .int (nI (k + 1)))]) hx hb dX7_now_14 rfl hl (by decide) rfl (fun ls hl => ?_)
        refine lv_iconst (v := nI 0) hx hb dX7_now_15 (by decide +kernel) ?_
        refine lv_istore_n (lv' := [(3, .int (nI 0)), (2, .int (nI 0)), (0, .ref (ad 0)), (1, .int (nI (k + 1)))]) hx hb dX7_now_16 rfl hl (by decide) rfl (fun ls hl => ?_)
        have cut_17 : ∀ (n_17 : Nat) (m9 : Nat) (v17_1 : Int32) (v17_2 : Int32) (v17_3 : Int32) (ls : Array Slot) (H : Heap) (locs : List Loc) (hm : m9 ≤ 16) (hn_17 : 16 - m9 < n_17) (_ : v17_1 = nI (k + 1)) (_ : v17_2 = nI (bn (anb (fun j => decide (G j = k + 1)) m9 = true))) (_ : v17_3 = nI m9) (_ : lv_has ls 4 [(0, .ref (ad 0)), (1, .int v17_1), (2, .int v17_2), (3, .int v17_3)]) (_ : va_P (dC, dI) vwCl (mW ad cI cJ cB th n t kp ma my ((nwr G GO k).1) G F T M WG ((nwr G GO k).2) Y V AT NX) H) (_ : va_D A (mW ad cI cJ cB th n t kp ma my ((nwr G GO k).1) G F T M WG ((nwr G GO k).2) Y V AT NX)) (_ : va_S A s.heap H locs), W p l e (headSpec wsX7_now ({ frames := 1, cells := 0, slots := 0, locals := 23 })).room s m ([.ref (ad 0)] : List Value).toArray below meth c H locs 0 0 (MQ below (wr_Q (dC, dI) A (fun r W1 => r = some (.long (lN (nwy G (nwr G GO 20).2 (nwr G GO 20).1 16))) ∧ W1 = (mW ad cI cJ cB th n t kp ma my ((nwr G GO 20).1) G F T M WG ((nwr G GO 20).2) Y V AT NX))) ([.ref (ad 0)] : List Value).toArray s 0 0 A) (F0 m 17 ls []) := by
          intro n_17
          induction n_17 with
          | zero => intros; omega
          | succ n_17 ih_17 =>
            rintro m9 v17_1 v17_2 v17_3 ls H locs hm hn_17 rfl rfl rfl hl hP hD hS
            refine lv_iload_n hx hb dX7_now_17 rfl (lv_at hl 3 rfl) ?_
            refine lv_bipush (v := nI 16) hx hb dX7_now_18 (by decide +kernel) ?_
            refine wk_icmp_ge (tgt := 49) hx hb (by omega) (by omega) dX7_now_20 (by decide) (fun c_20 => ?_) (fun c_20 => ?_)
            · have hm16 : m9 = 16 := by omega
              have cut_73 : ∀ (v73_1 : Int32) (ls : Array Slot) (H : Heap) (locs : List Loc) (_ : v73_1 = nI (k + 1)) (_ : lv_has ls 4 [(0, .ref (ad 0)), (1, .int v73_1)]) (_ : va_P (dC, dI) vwCl (mW ad cI cJ cB th n t kp ma my ((nwr G GO (k + 1)).1) G F T M WG ((nwr G GO (k + 1)).2) Y V AT NX) H) (_ : va_D A (mW ad cI cJ cB th n t kp ma my ((nwr G GO (k + 1)).1) G F T M WG ((nwr G GO (k + 1)).2) Y V AT NX)) (_ : va_S A s.heap H locs), W p l e (headSpec wsX7_now ({ frames := 1, cells := 0, slots := 0, locals := 23 })).room s m ([.ref (ad 0)] : List Value).toArray below meth c H locs 0 0 (MQ below (wr_Q (dC, dI) A (fun r W1 => r = some (.long (lN (nwy G (nwr G GO 20).2 (nwr G GO 20).1 16))) ∧ W1 = (mW ad cI cJ cB th n t kp ma my ((nwr G GO 20).1) G F T M WG ((nwr G GO 20).2) Y V AT NX))) ([.ref (ad 0)] : List Value).toArray s 0 0 A) (F0 m 73 ls []) := by
                rintro v73_1 ls H locs rfl hl hP hD hS
                refine lv_iinc (v := nI ((k + 1) + 1)) (lv' := [(1, .int (nI ((k + 1) + 1))), (0, .ref (ad 0))]) hx hb dX7_now_73 hl (k := 1) rfl (wk_inc _ 1 rfl) (by decide) rfl (fun ls hl => ?_)
                refine lv_goto (tgt := 7) hx hb dX7_now_76 (by decide) ?_
                exact ih_7 (k + 1) _ ls _ _ (by omega) (by omega) (rfl) (lv_sub hl [1, 0] rfl) (hP) (hD) hS
              refine lv_iload_n hx hb dX7_now_49 rfl (lv_at hl 2 rfl) ?_
              refine wk_bn_eq (tgt := 73) hx hb dX7_now_50 (by decide) (fun c_50 => ?_) (fun c_50 => ?_)
              · have hc9 : ¬ anb (fun j => decide (G j = k + 1)) 16 = true := by rw [hm16] at c_50; exact c_50
                exact cut_73 _ ls _ _ (rfl) (lv_sub hl [0, 1] rfl) (by rw [nwr_s]; first | (rw [if_pos hc9]; exact hP) | (rw [if_neg hc9]; exact hP)) (by rw [nwr_s]; first | (rw [if_pos hc9]; exact hD) | (rw [if_neg hc9]; exact hD)) hS
              · have hc9 : anb (fun j => decide (G j = k + 1)) 16 = true := by rw [hm16] at c_50; exact c_50
                have hq5 : (nwr G GO (k + 1)).1 = (nwr G GO k).1 + 1 := by rw [nwr_s, if_pos hc9]
                have hq6 := nwr_mono G GO (show k + 1 ≤ 20 by omega)
                refine lv_aload_n hx hb dX7_now_53 rfl (lv_at hl 0 rfl) ?_
                refine lv_dup hx hb dX7_now_54 rfl ?_
                refine va_get (D := (dC, dI)) (ci := 6) (v := .int (nI ((nwr G GO k).1))) (C := RX7) (T := TX7) (N := 17) hx hb hts hinX7 hown hK hP 0 rfl rfl 11 (by decide) (hts (.fieldLink RX7 85 "ReshuffleSearchModel" "ranks" "I") (by decide +kernel)) (fun _ h9 => h9) rfl dX7_now_55 ?_
                refine lv_iconst (v := nI 1) hx hb dX7_now_58 (by decide +kernel) ?_
                refine wk_iadd hx hb dX7_now_59 ?_
                refine va_put (D := (dC, dI)) (ci := 6) (v := .int (nI (((nwr G GO k).1) + 1))) (ty := .int) (C := RX7) (T := TX7) (N := 17) hx hb hts hinX7 tyX7 tyX7_ok nmX7 hown hK hP hD hS 0 rfl rfl 11 (by decide) (hts (.fieldLink RX7 85 "ReshuffleSearchModel" "ranks" "I") (by decide +kernel)) (fun _ h9 => h9) rfl (by decide +kernel) (rfl) (rfl) (Nat.le_of_ble_eq_true rfl) dX7_now_60 (fun H locs hP hD hS => ?_)
                have hP : va_P (dC, dI) vwCl (mW ad cI cJ cB th n t kp ma my (((nwr G GO k).1) + 1) G F T M WG ((nwr G GO k).2) Y V AT NX) H := hP
                have hD : va_D A (mW ad cI cJ cB th n t kp ma my (((nwr G GO k).1) + 1) G F T M WG ((nwr G GO k).2) Y V AT NX) := hD
                refine lv_aload_n hx hb dX7_now_63 rfl (lv_at hl 0 rfl) ?_
                refine va_get (D := (dC, dI)) (ci := 6) (v := .ref (ad 12)) (C := RX7) (T := TX7) (N := 17) hx hb hts hinX7 hown hK hP 0 rfl rfl 12 (by decide) (hts (.fieldLink RX7 25 "ReshuffleSearchModel" "groupOf" "[I") (by decide +kernel)) (fun _ h9 => h9) rfl dX7_now_64 ?_
                refine lv_aload_n hx hb dX7_now_67 rfl (lv_at hl 0 rfl) ?_
                refine va_get (D := (dC, dI)) (ci := 6) (v := .int (nI (((nwr G GO k).1) + 1))) (C := RX7) (T := TX7) (N := 17) hx hb hts hinX7 hown hK hP 0 rfl rfl 11 (by decide) (hts (.fieldLink RX7 85 "ReshuffleSearchModel" "ranks" "I") (by decide +kernel)) (fun _ h9 => h9) rfl dX7_now_68 ?_
                refine lv_iload_n hx hb dX7_now_71 rfl (lv_at hl 1 rfl) ?_
                refine wk_iast hx hb hK hP hD hS 6 0 rfl rfl (by omega) dX7_now_72 (fun H locs hP hD hS => ?_)
                have hP : va_P (dC, dI) vwCl (mW ad cI cJ cB th n t kp ma my (((nwr G GO k).1) + 1) G F T M WG (upN ((nwr G GO k).2) (((nwr G GO k).1) + 1) (k + 1)) Y V AT NX) H := hP
                have hD : va_D A (mW ad cI cJ cB th n t kp ma my (((nwr G GO k).1) + 1) G F T M WG (upN ((nwr G GO k).2) (((nwr G GO k).1) + 1) (k + 1)) Y V AT NX) := hD
                exact cut_73 _ ls _ _ (rfl) (lv_sub hl [0, 1] rfl) (by rw [nwr_s]; first | (rw [if_pos hc9]; exact hP) | (rw [if_neg hc9]; exact hP)) (by rw [nwr_s]; first | (rw [if_pos hc9]; exact hD) | (rw [if_neg hc9]; exact hD)) hS
            · have cut_42 : ∀ (v42_1 : Int32) (v42_3 : Int32) (u42_0 : Int32) (ls : Array Slot) (H : Heap) (locs : List Loc) (_ : v42_1 = nI (k + 1)) (_ : v42_3 = nI m9) (_ : u42_0 = nI (bn (anb (fun j => decide (G j = k + 1)) (m9 + 1) = true))) (_ : lv_has ls 4 [(0, .ref (ad 0)), (1, .int v42_1), (3, .int v42_3)]) (_ : va_P (dC, dI) vwCl (mW ad cI cJ cB th n t kp ma my ((nwr G GO k).1) G F T M WG ((nwr G GO k).2) Y V AT NX) H) (_ : va_D A (mW ad cI cJ cB th n t kp ma my ((nwr G GO k).1) G F T M WG ((nwr G GO k).2) Y V AT NX)) (_ : va_S A s.heap H locs), W p l e (headSpec wsX7_now ({ frames := 1, cells := 0, slots := 0, locals := 23 })).room s m ([.ref (ad 0)] : List Value).toArray below meth c H locs 0 0 (MQ below (wr_Q (dC, dI) A (fun r W1 => r = some (.long (lN (nwy G (nwr G GO 20).2 (nwr G GO 20).1 16))) ∧ W1 = (mW ad cI cJ cB th n t kp ma my ((nwr G GO 20).1) G F T M WG ((nwr G GO 20).2) Y V AT NX))) ([.ref (ad 0)] : List Value).toArray s 0 0 A) (F0 m 42 ls [.int u42_0]) := by
                rintro v42_1 v42_3 u42_0 ls H locs rfl rfl rfl hl hP hD hS
                refine lv_istore_n (lv' := [(2, .int (nI (bn (anb (fun j => decide (G j = k + 1)) (m9 + 1) = true)))), (0, .ref (ad 0)), (1, .int (nI (k + 1))), (3, .int (nI m9))]) hx hb dX7_now_42 rfl hl (by decide) rfl (fun ls hl => ?_)
                refine lv_iinc (v := nI (m9 + 1)) (lv' := [(3, .int (nI (m9 + 1))), (2, .int (nI (bn (anb (fun j => decide (G j = k + 1)) (m9 + 1) = true)))), (0, .ref (ad 0)), (1, .int (nI (k + 1)))]) hx hb dX7_now_43 hl (k := 3) rfl (wk_inc _ 1 rfl) (by decide) rfl (fun ls hl => ?_)
                refine lv_goto (tgt := 17) hx hb dX7_now_46 (by decide) ?_
                exact ih_17 (m9 + 1) _ _ _ ls _ _ (by omega) (by omega) (rfl) (rfl) (rfl) (lv_sub hl [2, 3, 1, 0] rfl) (hP) (hD) hS
              refine lv_iload_n hx hb dX7_now_23 rfl (lv_at hl 2 rfl) ?_
              refine wk_bn_ne (tgt := 37) hx hb dX7_now_24 (by decide) (fun c_24 => ?_) (fun c_24 => ?_)
              · refine lv_iconst (v := nI 1) hx hb dX7_now_37 (by decide +kernel) ?_
                refine lv_goto (tgt := 42) hx hb dX7_now_38 (by decide) ?_
                exact cut_42 _ _ _ ls _ _ (rfl) (rfl) (by rw [bn_t (by rw [anb_s, Bool.or_eq_true]; first | exact Or.inl c_24 | exact Or.inr (decide_eq_true c_34))]) (lv_sub hl [0, 1, 3] rfl) (hP) (hD) hS
              · refine lv_aload_n hx hb dX7_now_27 rfl (lv_at hl 0 rfl) ?_
                refine va_get (D := (dC, dI)) (ci := 6) (v := .ref (ad 3)) (C := RX7) (T := TX7) (N := 17) hx hb hts hinX7 hown hK hP 0 rfl rfl 3 (by decide) (hts (.fieldLink RX7 7 "ReshuffleSearchModel" "group" "[I") (by decide +kernel)) (fun _ h9 => h9) rfl dX7_now_28 ?_
                refine lv_iload_n hx hb dX7_now_31 rfl (lv_at hl 3 rfl) ?_
                refine wk_iald hx hb hK hP 1 0 rfl rfl (by omega) dX7_now_32 ?_
                refine lv_iload_n hx hb dX7_now_33 rfl (lv_at hl 1 rfl) ?_
                refine wk_icmp_ne (tgt := 41) hx hb (hG _) (by omega) dX7_now_34 (by decide) (fun c_34 => ?_) (fun c_34 => ?_)
                · refine lv_iconst (v := nI 0) hx hb dX7_now_41 (by decide +kernel) ?_
                  exact cut_42 _ _ _ ls _ _ (rfl) (rfl) (by rw [bn_f (fun q => by rw [anb_s, Bool.or_eq_true] at q; exact q.elim c_24 (fun z => c_34 (of_decide_eq_true z)))]) (lv_sub hl [0, 1, 3] rfl) (hP) (hD) hS
                · refine lv_iconst (v := nI 1) hx hb dX7_now_37 (by decide +kernel) ?_
                  refine lv_goto (tgt := 42) hx hb dX7_now_38 (by decide) ?_
                  exact cut_42 _ _ _ ls _ _ (rfl) (rfl) (by rw [bn_t (by rw [anb_s, Bool.or_eq_true]; first | exact Or.inl c_24 | exact Or.inr (decide_eq_true c_34))]) (lv_sub hl [0, 1, 3] rfl) (hP) (hD) hS
        exact cut_17 (16 + 1) 0 _ _ _ ls _ _ (by omega) (by omega) (rfl) (rfl) (rfl) (lv_sub hl [2, 3, 1, 0] rfl) (hP) (hD) hS
  exact cut_7 (20 + 1) 0 _ ls _ _ (by omega) (by omega) (rfl) (lv_sub hl [1, 0] rfl) (hP) (hD) hS
set_option maxHeartbeats 4000000 in
set_option maxRecDepth 100000 in
theorem c_X7_blocked (l : Launch) (dC : Nat → ClassId) (dI : Nat → Nat → Nat) (ad : Nat → Nat) (cI cJ cB : ClassId) (th n t kp ma my rk : Nat) (G F T M WG GO Y V AT NX : Nat → Nat) (hG : ∀ j, G j < 2147483648) (hGO : ∀ j, GO j < 2147483648) (hR : (nwr G GO 20).1 ≤ 6)  (sz : Nat) : Met l yX7_blocked wsX7_blocked ({ frames := 3, cells := 0, slots := 0, locals := 73 }) (va_Pc [.ref (ad 0)] (wr_P (dC, dI) [(cI, .int), (cJ, .long), (cB, .byte)] (mW ad cI cJ cB th n t kp ma my rk G F T M WG GO Y V AT NX) sz)) (wr_Q (dC, dI) (va_A (mW ad cI cJ cB th n t kp ma my rk G F T M WG GO Y V AT NX) sz) (fun r W1 => r = some (.int (nI (mbs (nwy G (nwr G GO 20).2 (nwr G GO 20).1 16) 16))) ∧ W1 = (mW ad cI cJ cB 0 n t kp ma my ((nwr G GO 20).1) G F T M WG ((nwr G GO 20).2) Y V AT NX))) 0 0 (va_A (mW ad cI cJ cB th n t kp ma my rk G F T M WG GO Y V AT NX) sz) := by
  refine Met.ofW (cc := cX7_blocked) (maxL := 1) (ret := (some .int)) (by decide) rfl ?_
  intro p e s m args below meth c s₁ B hml hv
  obtain ⟨rfl, hsz, hP, hK, hD0⟩ := hv
  have hx := B.exec
  have hb := B.bytes
  have hr := B.returns
  have hts := atoms_spec (ws := wsX7_blocked) B.pre
  have hown : s.vm.findClass RX7 = some m.cls := findClass_of_methodNamed B.named
  have hlocks := B.notSynchronized
  have hinX7 : ∀ w ∈ u_ws RX7 TX7 17, w ∈ wsX7_blocked := by decide +kernel
  subst hsz
  have hD := hD0.self (sz := s.heap.size)
  generalize hAe : va_A (mW ad cI cJ cB th n t kp ma my rk G F T M WG GO Y V AT NX) s.heap.size = A at hD ⊢
  have hA : ∀ q : Nat, s.heap.size ≤ q → A q := fun q h => by rw [← hAe]; exact Or.inr h
  have hS : va_S A s.heap s.heap [] := va_S.rf
  have hl := lv_entry ([.ref (ad 0)]) (n := 1) (Nat.le_of_ble_eq_true rfl)
  rw [lg_entry_eq]
  generalize (lg_sl ([.ref (ad 0)]) ++ List.replicate (1 - (lg_sl ([.ref (ad 0)])).length) Slot.unset).toArray = ls at hl ⊢
  have hl : lv_has ls 1 [(0, .ref (ad 0))] := hl
  have hq := nwy_48 (G := G) (GO := (nwr G GO 20).2) hR
  refine lv_aload_n hx hb dX7_blocked_0 rfl (lv_at hl 0 rfl) ?_
  refine lv_iconst (v := nI 0) hx hb dX7_blocked_1 (by decide +kernel) ?_
  refine va_put (D := (dC, dI)) (ci := 6) (v := .int (nI 0)) (ty := .int) (C := RX7) (T := TX7) (N := 17) hx hb hts hinX7 tyX7 tyX7_ok nmX7 hown hK hP hD hS 0 rfl rfl 0 (by decide) (hts (.fieldLink RX7 50 "ReshuffleSearchModel" "thrown" "I") (by decide +kernel)) (fun _ h9 => h9) rfl (by decide +kernel) (rfl) (rfl) (Nat.le_of_ble_eq_true rfl) dX7_blocked_2 (fun H locs hP hD hS => ?_)
  have hP : va_P (dC, dI) vwCl (mW ad cI cJ cB 0 n t kp ma my rk G F T M WG GO Y V AT NX) H := hP
  have hD : va_D A (mW ad cI cJ cB 0 n t kp ma my rk G F T M WG GO Y V AT NX) := hD
  refine lv_aload_n hx hb dX7_blocked_5 rfl (lv_at hl 0 rfl) ?_
  refine lv_aload_n hx hb dX7_blocked_6 rfl (lv_at hl 0 rfl) ?_
  have hFc := va_free (wc := (mW ad cI cJ cB 0 n t kp ma my rk G F T M WG GO Y V AT NX)) hD hS hA [0, 1, 2, 3, 4, 5, 6, 7, 8, 9, 10] rfl
  refine wr_go (va_runV (As := []) (rest := [.ref (ad 0)]) ⟨hx, hb, hml, hown, hts⟩ (c_X7_now l dC dI ad cI cJ cB 0 n t kp ma my rk G F T M WG GO Y V AT NX hG hGO hR H.size) (cwV 0 hts gX7_blocked_X7_now rfl rfl rfl (by decide +kernel) ⟨Nat.le_of_ble_eq_true rfl, Nat.le_of_ble_eq_true rfl⟩) ⟨wr_blind, va_recv hK hP (ci := 6) (q0 := 0) rfl rfl, fun U hU hW => ⟨rfl, by rw [hU], by rw [hU]; exact hP, va_K.moved hW.alike hK, hD.weaken (fun _ _ _ _ => trivial)⟩⟩ rfl rfl hl.1 rfl (lv_room (Nat.le_of_ble_eq_true rfl)) dX7_blocked_7 ⟨Nat.le_refl _, Nat.le_refl _⟩) hS hFc hFc (fun r9 W9 H locs hpost hP hD9 hz9 hk9 hS => ?_)
  have hD := hD9.weaken (fun _ _ _ h => hFc _ h)
  obtain ⟨rfl, rfl⟩ := hpost
  have hP : va_P (dC, dI) vwCl (mW ad cI cJ cB 0 n t kp ma my ((nwr G GO 20).1) G F T M WG ((nwr G GO 20).2) Y V AT NX) H := hP
  have hD : va_D A (mW ad cI cJ cB 0 n t kp ma my ((nwr G GO 20).1) G F T M WG ((nwr G GO 20).2) Y V AT NX) := hD
  refine W.eq (g2 := F0 m 10 ls [.long (lN (nwy G (nwr G GO 20).2 (nwr G GO 20).1 16)), .ref (ad 0)]) rfl ?_
  refine pu_go (va_runV (As := [.long (lN (nwy G (nwr G GO 20).2 (nwr G GO 20).1 16))]) (rest := []) ⟨hx, hb, hml, hown, hts⟩ (c_X7_blockedIn l dC dI (mW ad cI cJ cB 0 n t kp ma my ((nwr G GO 20).1) G F T M WG ((nwr G GO 20).2) Y V AT NX) [(cI, .int), (cJ, .long), (cB, .byte)] (ad 0) _ rfl (nwy G (nwr G GO 20).2 (nwr G GO 20).1 16) (by first | omega | assumption)) (cwV 1 hts gX7_blocked_X7_blockedIn rfl rfl rfl (by decide +kernel) ⟨Nat.le_of_ble_eq_true rfl, Nat.le_of_ble_eq_true rfl⟩) ⟨fun a U g mk q => ⟨q.1, q.2.1, va_K.moved (u := U) (U := U.calling g mk a) (Vm.Alike.refl U.vm) q.2.2⟩, va_recv hK hP (ci := 6) (q0 := 0) rfl rfl, fun U hU hW => ⟨rfl, by rw [hU]; exact hP, va_K.moved hW.alike hK⟩⟩ rfl rfl hl.1 rfl (lv_room (Nat.le_of_ble_eq_true rfl)) dX7_blocked_10 ⟨Nat.le_refl _, Nat.le_refl _⟩) ?_
  exact W.iret hx hb hr (fun t9 ht hW => ⟨some (.int (nI (mbs (nwy G (nwr G GO 20).2 (nwr G GO 20).1 16) 16))), (mW ad cI cJ cB 0 n t kp ma my ((nwr G GO 20).1) G F T M WG ((nwr G GO 20).2) Y V AT NX), rfl, ⟨rfl, rfl⟩, by rw [ht]; exact hP, hD, hS.F ht⟩) hS.2.2 dX7_blocked_13
set_option maxHeartbeats 4000000 in
set_option maxRecDepth 100000 in
theorem c_X7_count (l : Launch) (dC : Nat → ClassId) (dI : Nat → Nat → Nat) (ad : Nat → Nat) (cI cJ cB : ClassId) (th n t kp ma my rk : Nat) (G F T M WG GO Y V AT NX : Nat → Nat) (hG : ∀ j, G j < 2147483648) (hm0 : my ≤ 30) (hk0 : kp < 2) (hF : ∀ j, F j < 4) (hT : ∀ j, T j < 4) (w : Int32) (sz : Nat) : Met l yX7_count wsX7_count ({ frames := 1, cells := 0, slots := 0, locals := 22 }) (va_Pc [.ref (ad 0), .int w] (wr_P (dC, dI) [(cI, .int), (cJ, .long), (cB, .byte)] (mW ad cI cJ cB th n t kp ma my rk G F T M WG GO Y V AT NX) sz)) (wr_Q (dC, dI) (va_A (mW ad cI cJ cB th n t kp ma my rk G F T M WG GO Y V AT NX) sz) (fun r W1 => r = some (.int (vct n t kp ma my (bxs G 16) (trs F T my) w)) ∧ W1 = (mW ad cI cJ cB 0 n t kp ma my rk G F T M WG GO Y V AT NX))) 0 0 (va_A (mW ad cI cJ cB th n t kp ma my rk G F T M WG GO Y V AT NX) sz) := by
  refine Met.ofW (cc := cX7_count) (maxL := 4) (ret := (some .int)) (by decide) rfl ?_
  intro p e s m args below meth c s₁ B hml hv
  obtain ⟨rfl, hsz, hP, hK, hD0⟩ := hv
  have hx := B.exec
  have hb := B.bytes
  have hr := B.returns
  have hts := atoms_spec (ws := wsX7_count) B.pre
  have hown : s.vm.findClass RX7 = some m.cls := findClass_of_methodNamed B.named
  have hlocks := B.notSynchronized
  have hinX7 : ∀ w ∈ u_ws RX7 TX7 17, w ∈ wsX7_count := by decide +kernel
  subst hsz
  have hD := hD0.self (sz := s.heap.size)
  generalize hAe : va_A (mW ad cI cJ cB th n t kp ma my rk G F T M WG GO Y V AT NX) s.heap.size = A at hD ⊢
  have hA : ∀ q : Nat, s.heap.size ≤ q → A q := fun q h => by rw [← hAe]; exact Or.inr h
  have hS : va_S A s.heap s.heap [] := va_S.rf
  have hl := lv_entry ([.ref (ad 0), .int w]) (n := 4) (Nat.le_of_ble_eq_true rfl)
  rw [lg_entry_eq]
  generalize (lg_sl ([.ref (ad 0), .int w]) ++ List.replicate (4 - (lg_sl ([.ref (ad 0), .int w])).length) Slot.unset).toArray = ls at hl ⊢
  have hl : lv_has ls 4 [(0, .ref (ad 0)), (1, .int w)] := hl
  refine lv_aload_n hx hb dX7_count_0 rfl (lv_at hl 0 rfl) ?_
  refine lv_iconst (v := nI 0) hx hb dX7_count_1 (by decide +kernel) ?_
  refine va_put (D := (dC, dI)) (ci := 6) (v := .int (nI 0)) (ty := .int) (C := RX7) (T := TX7) (N := 17) hx hb hts hinX7 tyX7 tyX7_ok nmX7 hown hK hP hD hS 0 rfl rfl 0 (by decide) (hts (.fieldLink RX7 50 "ReshuffleSearchModel" "thrown" "I") (by decide +kernel)) (fun _ h9 => h9) rfl (by decide +kernel) (rfl) (rfl) (Nat.le_of_ble_eq_true rfl) dX7_count_2 (fun H locs hP hD hS => ?_)
  have hP : va_P (dC, dI) vwCl (mW ad cI cJ cB 0 n t kp ma my rk G F T M WG GO Y V AT NX) H := hP
  have hD : va_D A (mW ad cI cJ cB 0 n t kp ma my rk G F T M WG GO Y V AT NX) := hD
  have cut_48 : ∀ (tr9 : Nat) (v48_1 : Int32) (v48_2 : Int32) (ls : Array Slot) (H : Heap) (locs : List Loc) (htr : kp ≠ 0 → tr9 = trs F T my) (_ : w = v48_1) (_ : v48_2 = nI tr9) (_ : lv_has ls 4 [(0, .ref (ad 0)), (1, .int v48_1), (2, .int v48_2)]) (_ : va_P (dC, dI) vwCl (mW ad cI cJ cB 0 n t kp ma my rk G F T M WG GO Y V AT NX) H) (_ : va_D A (mW ad cI cJ cB 0 n t kp ma my rk G F T M WG GO Y V AT NX)) (_ : va_S A s.heap H locs), W p l e (headSpec wsX7_count ({ frames := 1, cells := 0, slots := 0, locals := 22 })).room s m ([.ref (ad 0), .int w] : List Value).toArray below meth c H locs 0 0 (MQ below (wr_Q (dC, dI) A (fun r W1 => r = some (.int (vct n t kp ma my (bxs G 16) (trs F T my) w)) ∧ W1 = (mW ad cI cJ cB 0 n t kp ma my rk G F T M WG GO Y V AT NX))) ([.ref (ad 0), .int w] : List Value).toArray s 0 0 A) (F0 m 48 ls []) := by
    rintro tr9 v48_1 v48_2 ls H locs htr rfl rfl hl hP hD hS
    refine lv_iload_n hx hb dX7_count_48 rfl (lv_at hl 1 rfl) ?_
    rcases sw6 w with h_49 | h_49 | h_49 | h_49 | h_49 | h_49 | h_49
    · refine wk_ti (v' := nI 0) h_49 ?_
      refine lv_tableIn (tgt := 88) hx hb dX7_count_49 (by decide) (by decide) (by rfl) (by decide) ?_
      refine lv_aload_n hx hb dX7_count_88 rfl (lv_at hl 0 rfl) ?_
      refine pu_go (va_runV (As := []) (rest := []) ⟨hx, hb, hml, hown, hts⟩ (c_X7_boxes l dC dI (mW ad cI cJ cB 0 n t kp ma my rk G F T M WG GO Y V AT NX) [(cI, .int), (cJ, .long), (cB, .byte)] (ad 0) _ rfl (ad 3) cI G rfl rfl rfl hG) (cwV 0 hts gX7_count_X7_boxes rfl rfl rfl (by decide +kernel) ⟨Nat.le_of_ble_eq_true rfl, Nat.le_of_ble_eq_true rfl⟩) ⟨fun a U g mk q => ⟨q.1, q.2.1, va_K.moved (u := U) (U := U.calling g mk a) (Vm.Alike.refl U.vm) q.2.2⟩, va_recv hK hP (ci := 6) (q0 := 0) rfl rfl, fun U hU hW => ⟨rfl, by rw [hU]; exact hP, va_K.moved hW.alike hK⟩⟩ rfl rfl hl.1 rfl (lv_room (Nat.le_of_ble_eq_true rfl)) dX7_count_89 ⟨Nat.le_refl _, Nat.le_refl _⟩) ?_
      exact W.iret hx hb hr (fun t9 ht hW => ⟨some (.int (nI (bxs G 16))), (mW ad cI cJ cB 0 n t kp ma my rk G F T M WG GO Y V AT NX), rfl, ⟨by rw [h_49]; rfl, rfl⟩, by rw [ht]; exact hP, hD, hS.F ht⟩) hS.2.2 dX7_count_92
    · refine wk_ti (v' := nI 1) h_49 ?_
      refine lv_tableIn (tgt := 93) hx hb dX7_count_49 (by decide) (by decide) (by rfl) (by decide) ?_
      refine lv_aload_n hx hb dX7_count_93 rfl (lv_at hl 0 rfl) ?_
      refine va_get (D := (dC, dI)) (ci := 6) (v := .int (nI n)) (C := RX7) (T := TX7) (N := 17) hx hb hts hinX7 hown hK hP 0 rfl rfl 1 (by decide) (hts (.fieldLink RX7 43 "ReshuffleSearchModel" "stacks" "I") (by decide +kernel)) (fun _ h9 => h9) rfl dX7_count_94 ?_
      exact W.iret hx hb hr (fun t9 ht hW => ⟨some (.int (nI n)), (mW ad cI cJ cB 0 n t kp ma my rk G F T M WG GO Y V AT NX), rfl, ⟨by rw [h_49]; rfl, rfl⟩, by rw [ht]; exact hP, hD, hS.F ht⟩) hS.2.2 dX7_count_97
    · refine wk_ti (v' := nI 2) h_49 ?_
      refine lv_tableIn (tgt := 98) hx hb dX7_count_49 (by decide) (by decide) (by rfl) (by decide) ?_
      refine lv_aload_n hx hb dX7_count_98 rfl (lv_at hl 0 rfl) ?_
      refine va_get (D := (dC, dI)) (ci := 6) (v := .int (nI t)) (C := RX7) (T := TX7) (N := 17) hx hb hts hinX7 hown hK hP 0 rfl rfl 2 (by decide) (hts (.fieldLink RX7 47 "ReshuffleSearchModel" "tiers" "I") (by decide +kernel)) (fun _ h9 => h9) rfl dX7_count_99 ?_
      exact W.iret hx hb hr (fun t9 ht hW => ⟨some (.int (nI t)), (mW ad cI cJ cB 0 n t kp ma my rk G F T M WG GO Y V AT NX), rfl, ⟨by rw [h_49]; rfl, rfl⟩, by rw [ht]; exact hP, hD, hS.F ht⟩) hS.2.2 dX7_count_102
    · refine wk_ti (v' := nI 3) h_49 ?_
      refine lv_tableIn (tgt := 103) hx hb dX7_count_49 (by decide) (by decide) (by rfl) (by decide) ?_
      refine lv_aload_n hx hb dX7_count_103 rfl (lv_at hl 0 rfl) ?_
      refine va_get (D := (dC, dI)) (ci := 6) (v := .int (nI kp)) (C := RX7) (T := TX7) (N := 17) hx hb hts hinX7 hown hK hP 0 rfl rfl 4 (by decide) (hts (.fieldLink RX7 128 "ReshuffleSearchModel" "isKept" "Z") (by decide +kernel)) (fun _ h9 => h9) rfl dX7_count_104 ?_
      refine wk_if_eq (tgt := 117) hx hb (by omega) dX7_count_107 (by decide) (fun c_107 => ?_) (fun c_107 => ?_)
      · refine lv_iconst (v := -1) hx hb dX7_count_117 (by decide +kernel) ?_
        exact W.iret hx hb hr (fun t9 ht hW => ⟨some (.int (-1)), (mW ad cI cJ cB 0 n t kp ma my rk G F T M WG GO Y V AT NX), rfl, ⟨by rw [h_49]; unfold vct; rw [if_neg (by decide), if_neg (by decide), if_neg (by decide), if_pos rfl, if_pos c_107], rfl⟩, by rw [ht]; exact hP, hD, hS.F ht⟩) hS.2.2 dX7_count_118
      · refine lv_aload_n hx hb dX7_count_110 rfl (lv_at hl 0 rfl) ?_
        refine va_get (D := (dC, dI)) (ci := 6) (v := .int (nI my)) (C := RX7) (T := TX7) (N := 17) hx hb hts hinX7 hown hK hP 0 rfl rfl 6 (by decide) (hts (.fieldLink RX7 108 "ReshuffleSearchModel" "many" "I") (by decide +kernel)) (fun _ h9 => h9) rfl dX7_count_111 ?_
        refine lv_goto (tgt := 118) hx hb dX7_count_114 (by decide) ?_
        exact W.iret hx hb hr (fun t9 ht hW => ⟨some (.int (nI my)), (mW ad cI cJ cB 0 n t kp ma my rk G F T M WG GO Y V AT NX), rfl, ⟨by rw [h_49]; unfold vct; rw [if_neg (by decide), if_neg (by decide), if_neg (by decide), if_pos rfl, if_neg c_107], rfl⟩, by rw [ht]; exact hP, hD, hS.F ht⟩) hS.2.2 dX7_count_118
    · refine wk_ti (v' := nI 4) h_49 ?_
      refine lv_tableIn (tgt := 119) hx hb dX7_count_49 (by decide) (by decide) (by rfl) (by decide) ?_
      refine lv_aload_n hx hb dX7_count_119 rfl (lv_at hl 0 rfl) ?_
      refine va_get (D := (dC, dI)) (ci := 6) (v := .int (nI kp)) (C := RX7) (T := TX7) (N := 17) hx hb hts hinX7 hown hK hP 0 rfl rfl 4 (by decide) (hts (.fieldLink RX7 128 "ReshuffleSearchModel" "isKept" "Z") (by decide +kernel)) (fun _ h9 => h9) rfl dX7_count_120 ?_
      refine wk_if_eq (tgt := 130) hx hb (by omega) dX7_count_123 (by decide) (fun c_123 => ?_) (fun c_123 => ?_)
      · refine lv_iconst (v := -1) hx hb dX7_count_130 (by decide +kernel) ?_
        exact W.iret hx hb hr (fun t9 ht hW => ⟨some (.int (-1)), (mW ad cI cJ cB 0 n t kp ma my rk G F T M WG GO Y V AT NX), rfl, ⟨by rw [h_49]; unfold vct; rw [if_neg (by decide), if_neg (by decide), if_neg (by decide), if_neg (by decide), if_pos rfl, if_pos c_123], rfl⟩, by rw [ht]; exact hP, hD, hS.F ht⟩) hS.2.2 dX7_count_131
      · refine lv_iload_n hx hb dX7_count_126 rfl (lv_at hl 2 rfl) ?_
        refine lv_goto (tgt := 131) hx hb dX7_count_127 (by decide) ?_
        exact W.iret hx hb hr (fun t9 ht hW => ⟨some (.int (nI tr9)), (mW ad cI cJ cB 0 n t kp ma my rk G F T M WG GO Y V AT NX), rfl, ⟨by rw [h_49]; unfold vct; rw [if_neg (by decide), if_neg (by decide), if_neg (by decide), if_neg (by decide), if_pos rfl, if_neg c_123, htr c_123], rfl⟩, by rw [ht]; exact hP, hD, hS.F ht⟩) hS.2.2 dX7_count_131
    · refine wk_ti (v' := nI 5) h_49 ?_
      refine lv_tableIn (tgt := 132) hx hb dX7_count_49 (by decide) (by decide) (by rfl) (by decide) ?_
      refine lv_aload_n hx hb dX7_count_132 rfl (lv_at hl 0 rfl) ?_
      refine va_get (D := (dC, dI)) (ci := 6) (v := .int (nI kp)) (C := RX7) (T := TX7) (N := 17) hx hb hts hinX7 hown hK hP 0 rfl rfl 4 (by decide) (hts (.fieldLink RX7 128 "ReshuffleSearchModel" "isKept" "Z") (by decide +kernel)) (fun _ h9 => h9) rfl dX7_count_133 ?_
      refine wk_if_eq (tgt := 146) hx hb (by omega) dX7_count_136 (by decide) (fun c_136 => ?_) (fun c_136 => ?_)
      · refine lv_iconst (v := -1) hx hb dX7_count_146 (by decide +kernel) ?_
        exact W.iret hx hb hr (fun t9 ht hW => ⟨some (.int (-1)), (mW ad cI cJ cB 0 n t kp ma my rk G F T M WG GO Y V AT NX), rfl, ⟨by rw [h_49]; unfold vct; rw [if_neg (by decide), if_neg (by decide), if_neg (by decide), if_neg (by decide), if_neg (by decide), if_pos rfl, if_pos c_136], rfl⟩, by rw [ht]; exact hP, hD, hS.F ht⟩) hS.2.2 dX7_count_147
      · refine lv_aload_n hx hb dX7_count_139 rfl (lv_at hl 0 rfl) ?_
        refine va_get (D := (dC, dI)) (ci := 6) (v := .int (nI ma)) (C := RX7) (T := TX7) (N := 17) hx hb hts hinX7 hown hK hP 0 rfl rfl 5 (by decide) (hts (.fieldLink RX7 136 "ReshuffleSearchModel" "manner" "I") (by decide +kernel)) (fun _ h9 => h9) rfl dX7_count_140 ?_
        refine lv_goto (tgt := 147) hx hb dX7_count_143 (by decide) ?_
        exact W.iret hx hb hr (fun t9 ht hW => ⟨some (.int (nI ma)), (mW ad cI cJ cB 0 n t kp ma my rk G F T M WG GO Y V AT NX), rfl, ⟨by rw [h_49]; unfold vct; rw [if_neg (by decide), if_neg (by decide), if_neg (by decide), if_neg (by decide), if_neg (by decide), if_pos rfl, if_neg c_136], rfl⟩, by rw [ht]; exact hP, hD, hS.F ht⟩) hS.2.2 dX7_count_147
    · refine lv_tableOut (tgt := 148) hx hb dX7_count_49 h_49.1 (by decide) ?_
      refine lv_iconst (v := -1) hx hb dX7_count_148 (by decide +kernel) ?_
      exact W.iret hx hb hr (fun t9 ht hW => ⟨some (.int (-1)), (mW ad cI cJ cB 0 n t kp ma my rk G F T M WG GO Y V AT NX), rfl, ⟨by unfold vct; obtain ⟨-, h0, h1, h2, h3, h4, h5⟩ := h_49; rw [if_neg h0, if_neg h1, if_neg h2, if_neg h3, if_neg h4, if_neg h5], rfl⟩, by rw [ht]; exact hP, hD, hS.F ht⟩) hS.2.2 dX7_count_149
  refine lv_iconst (v := nI 0) hx hb dX7_count_5 (by decide +kernel) ?_
  refine lv_istore_n (lv' := [(2, .int (nI 0)), (0, .ref (ad 0)), (1, .int w)]) hx hb dX7_count_6 rfl hl (by decide) rfl (fun ls hl => ?_)
  refine lv_iconst (v := nI 0) hx hb dX7_count_7 (by decide +kernel) ?_
  refine lv_istore_n (lv' := [(3, .int (nI 0)), (2, .int (nI 0)), (0, .ref (ad 0)), (1, .int w)]) hx hb dX7_count_8 rfl hl (by decide) rfl (fun ls hl => ?_)
  have cut_9 : ∀ (n_9 : Nat) (k : Nat) (v9_1 : Int32) (v9_2 : Int32) (v9_3 : Int32) (ls : Array Slot) (H : Heap) (locs : List Loc) (hk : k ≤ my) (hn_9 : my - k < n_9) (_ : w = v9_1) (_ : v9_2 = nI (trs F T k)) (_ : v9_3 = nI k) (_ : lv_has ls 4 [(0, .ref (ad 0)), (1, .int v9_1), (2, .int v9_2), (3, .int v9_3)]) (_ : va_P (dC, dI) vwCl (mW ad cI cJ cB 0 n t kp ma my rk G F T M WG GO Y V AT NX) H) (_ : va_D A (mW ad cI cJ cB 0 n t kp ma my rk G F T M WG GO Y V AT NX)) (_ : va_S A s.heap H locs), W p l e (headSpec wsX7_count ({ frames := 1, cells := 0, slots := 0, locals := 22 })).room s m ([.ref (ad 0), .int w] : List Value).toArray below meth c H locs 0 0 (MQ below (wr_Q (dC, dI) A (fun r W1 => r = some (.int (vct n t kp ma my (bxs G 16) (trs F T my) w)) ∧ W1 = (mW ad cI cJ cB 0 n t kp ma my rk G F T M WG GO Y V AT NX))) ([.ref (ad 0), .int w] : List Value).toArray s 0 0 A) (F0 m 9 ls []) := by
    intro n_9
    induction n_9 with
    | zero => intros; omega
    | succ n_9 ih_9 =>
      rintro k v9_1 v9_2 v9_3 ls H locs hk hn_9 rfl rfl rfl hl hP hD hS
      have hq1 := hF k
      have hq2 := hT k
      refine lv_iload_n hx hb dX7_count_9 rfl (lv_at hl 3 rfl) ?_
      refine lv_aload_n hx hb dX7_count_10 rfl (lv_at hl 0 rfl) ?_
      refine va_get (D := (dC, dI)) (ci := 6) (v := .int (nI my)) (C := RX7) (T := TX7) (N := 17) hx hb hts hinX7 hown hK hP 0 rfl rfl 6 (by decide) (hts (.fieldLink RX7 108 "ReshuffleSearchModel" "many" "I") (by decide +kernel)) (fun _ h9 => h9) rfl dX7_count_11 ?_
      refine wk_icmp_ge (tgt := 48) hx hb (by omega) (by omega) dX7_count_14 (by decide) (fun c_14 => ?_) (fun c_14 => ?_)
      · exact cut_48 (trs F T k) _ _ ls _ _ (fun _ => by rw [show k = my by omega]) (rfl) (rfl) (lv_sub hl [0, 1, 2] rfl) (hP) (hD) hS
      · refine lv_aload_n hx hb dX7_count_17 rfl (lv_at hl 0 rfl) ?_
        refine va_get (D := (dC, dI)) (ci := 6) (v := .int (nI kp)) (C := RX7) (T := TX7) (N := 17) hx hb hts hinX7 hown hK hP 0 rfl rfl 4 (by decide) (hts (.fieldLink RX7 128 "ReshuffleSearchModel" "isKept" "Z") (by decide +kernel)) (fun _ h9 => h9) rfl dX7_count_18 ?_
        refine wk_if_eq (tgt := 48) hx hb (by omega) dX7_count_21 (by decide) (fun c_21 => ?_) (fun c_21 => ?_)
        · exact cut_48 (trs F T k) _ _ ls _ _ (fun q => absurd c_21 q) (rfl) (rfl) (lv_sub hl [0, 1, 2] rfl) (hP) (hD) hS
        · refine lv_iload_n hx hb dX7_count_24 rfl (lv_at hl 2 rfl) ?_
          refine lv_aload_n hx hb dX7_count_25 rfl (lv_at hl 0 rfl) ?_
          refine va_get (D := (dC, dI)) (ci := 6) (v := .ref (ad 7)) (C := RX7) (T := TX7) (N := 17) hx hb hts hinX7 hown hK hP 0 rfl rfl 7 (by decide) (hts (.fieldLink RX7 13 "ReshuffleSearchModel" "from" "[I") (by decide +kernel)) (fun _ h9 => h9) rfl dX7_count_26 ?_
          refine lv_iload_n hx hb dX7_count_29 rfl (lv_at hl 3 rfl) ?_
          refine wk_iald hx hb hK hP 2 0 rfl rfl (by omega) dX7_count_30 ?_
          refine lv_aload_n hx hb dX7_count_31 rfl (lv_at hl 0 rfl) ?_
          refine va_get (D := (dC, dI)) (ci := 6) (v := .ref (ad 8)) (C := RX7) (T := TX7) (N := 17) hx hb hts hinX7 hown hK hP 0 rfl rfl 8 (by decide) (hts (.fieldLink RX7 16 "ReshuffleSearchModel" "to" "[I") (by decide +kernel)) (fun _ h9 => h9) rfl dX7_count_32 ?_
          refine lv_iload_n hx hb dX7_count_35 rfl (lv_at hl 3 rfl) ?_
          refine wk_iald hx hb hK hP 3 0 rfl rfl (by omega) dX7_count_36 ?_
          refine pu_go (va_runS (As := [.int (nI (F k)), .int (nI (T k))]) (rest := [.int (nI (trs F T k))]) ⟨hx, hb, hml, hown, hts⟩ (c_X7_far l (F k) (T k) (by first | omega | assumption) (by first | omega | assumption)) (va_cwS 2 hts gX7_count_X7_far rfl rfl rfl (by decide +kernel) ⟨Nat.le_of_ble_eq_true rfl, Nat.le_of_ble_eq_true rfl⟩) ⟨fun _ _ _ _ q => q, fun _ _ _ => ⟨rfl, trivial⟩⟩ rfl rfl hl.1 rfl (lv_room (Nat.le_of_ble_eq_true rfl)) dX7_count_37 ⟨Nat.le_refl _, Nat.le_refl _⟩) ?_
          refine wk_iadd hx hb dX7_count_40 ?_
          refine lv_istore_n (lv' := [(2, .int (nI ((trs F T k) + (2 + ((F k) - (T k) + ((T k) - (F k))))))), (0, .ref (ad 0)), (1, .int w), (3, .int (nI k))]) hx hb dX7_count_41 rfl hl (by decide) rfl (fun ls hl => ?_)
          refine lv_iinc (v := nI (k + 1)) (lv' := [(3, .int (nI (k + 1))), (2, .int (nI ((trs F T k) + (2 + ((F k) - (T k) + ((T k) - (F k))))))), (0, .ref (ad 0)), (1, .int w)]) hx hb dX7_count_42 hl (k := 3) rfl (wk_inc _ 1 rfl) (by decide) rfl (fun ls hl => ?_)
          refine lv_goto (tgt := 9) hx hb dX7_count_45 (by decide) ?_
          exact ih_9 (k + 1) _ _ _ ls _ _ (by omega) (by omega) (rfl) (rfl) (rfl) (lv_sub hl [2, 3, 1, 0] rfl) (hP) (hD) hS
  exact cut_9 (my + 1) 0 _ _ _ ls _ _ (by omega) (by omega) (rfl) (rfl) (rfl) (lv_sub hl [2, 3, 1, 0] rfl) (hP) (hD) hS
