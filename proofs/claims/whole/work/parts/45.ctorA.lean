set_option maxHeartbeats 4000000 in
set_option maxRecDepth 100000 in
theorem c_X1_init (l : Launch) (dC : Nat → ClassId) (dI : Nat → Nat → Nat) (cI cJ : ClassId) (h0 : Nat)  (sz : Nat) : Met l yX1_init wsX1_init ({ frames := 1, cells := 2, slots := 28, locals := 20 }) (va_Pc [.ref h0] (wc_P (dC, dI) [(cI, .int), (cJ, .long)] [(h0, .inr (2, [.null, .null]))] sz)) (wr_Q (dC, dI) (va_A [(h0, .inr (2, [.null, .null]))] sz) (fun r W1 => r = none ∧ ∃ a b, W1 = [(h0, .inr (2, [.ref a, .ref b])), (a, .inl (cI, 21, .inl (fun j => nI (z0 j)))), (b, .inl (cI, 7, .inl (fun j => nI (z0 j))))])) 2 28 (va_A [(h0, .inr (2, [.null, .null]))] sz) := by
  refine Met.ofW (cc := cX1_init) (maxL := 1) (ret := none) (by decide) rfl ?_
  intro p e s m args below meth c s₁ B hml hv
  obtain ⟨rfl, ⟨hsz, hP, hK, hD0⟩, hN⟩ := hv
  have hx := B.exec
  have hb := B.bytes
  have hr := B.returns
  have hts := atoms_spec (ws := wsX1_init) B.pre
  have hown : s.vm.findClass RX1 = some m.cls := findClass_of_methodNamed B.named
  have hlocks := B.notSynchronized
  have hin0 : meth.name = "<init>" := (name_of_methodNamed B.named B.method).1
  subst hsz
  have hD := hD0.self (sz := s.heap.size)
  generalize hAe : va_A [(h0, .inr (2, [.null, .null]))] s.heap.size = A at hD ⊢
  have hA : ∀ q : Nat, s.heap.size ≤ q → A q := fun q h => by rw [← hAe]; exact Or.inr h
  have hS : va_S A s.heap s.heap [] := va_S.rf
  have hl := lv_entry ([.ref h0]) (n := 1) (Nat.le_of_ble_eq_true rfl)
  rw [lg_entry_eq]
  generalize (lg_sl ([.ref h0]) ++ List.replicate (1 - (lg_sl ([.ref h0])).length) Slot.unset).toArray = ls at hl ⊢
  have hl : lv_has ls 1 [(0, .ref h0)] := hl
  have hinX1 : ∀ w ∈ u_ws RX1 TX1 2, w ∈ wsX1_init := by decide +kernel
  refine lv_aload_n hx hb dX1_init_0 rfl (lv_at hl 0 rfl) ?_
  refine W.objInit hx hb hown (hts (.methodLink RX1 3 objectInit) (by decide +kernel)) (hts (.instanceMethod objectInit) (by decide +kernel)) (hts (.code objectInit ⟨#[0xb1]⟩ 1 none) (by decide +kernel)) rfl (by rw [hml]; exact hl.1) rfl dX1_init_1 (Nat.le_of_ble_eq_true rfl) (Nat.le_of_ble_eq_true rfl) ?_
  refine W.eq (g2 := F0 m 4 ls []) rfl ?_
  refine lv_aload_n hx hb dX1_init_4 rfl (lv_at hl 0 rfl) ?_
  refine lv_bipush (v := nI 21) hx hb dX1_init_5 (by decide +kernel) ?_
  refine va_newa (atype := .int) (ty := .int) (N' := 21) (a0 := (21, .inl (fun j => nI (z0 j)))) hx hb (hts (.arrayClass .int) (by decide +kernel)) rfl hK hP hD hS hA (fun _ => vpz_i _ 21) (nI_pos (by decide)) (nI_clamp (by decide)) (Nat.le_of_ble_eq_true rfl) (Nat.le_of_ble_eq_true rfl) (Nat.le_of_ble_eq_true rfl) dX1_init_7 (fun q7 cA H hK9 hP hD hS => ?_)
  obtain rfl : cI = cA := ty_eq hK9 0 2 rfl rfl rfl
  have hP : va_P (dC, dI) vwCl [(h0, .inr (2, [.null, .null])), (q7, .inl (cI, 21, .inl (fun j => nI (z0 j))))] H := hP
  have hD : va_D A [(h0, .inr (2, [.null, .null])), (q7, .inl (cI, 21, .inl (fun j => nI (z0 j))))] := hD
  refine W.widen (k := 1) (n := 21) (by omega) (by omega) ?_
  refine va_putF (D := (dC, dI)) (ci := 2) (v := .ref q7) (ty := (.array .int)) (C := RX1) (T := TX1) (N := 2) hx hb hts hinX1 tyX1 tyX1_ok nmX1 hown hK hP hD hS 0 rfl rfl 0 (by decide) (hts (.fieldLink RX1 9 "ReshuffleSearch$Ranks" "rank" "[I") (by decide +kernel)) (fun _ h9 => h9) rfl hin0 rfl (by decide +kernel) rfl rfl (Nat.le_of_ble_eq_true rfl) dX1_init_9 (fun H locs hP hD hS => ?_)
  have hP : va_P (dC, dI) vwCl [(h0, .inr (2, [.ref q7, .null])), (q7, .inl (cI, 21, .inl (fun j => nI (z0 j))))] H := hP
  have hD : va_D A [(h0, .inr (2, [.ref q7, .null])), (q7, .inl (cI, 21, .inl (fun j => nI (z0 j))))] := hD
  refine lv_aload_n hx hb dX1_init_12 rfl (lv_at hl 0 rfl) ?_
  refine lv_bipush (v := nI 7) hx hb dX1_init_13 (by decide +kernel) ?_
  refine va_newa (atype := .int) (ty := .int) (N' := 7) (a0 := (7, .inl (fun j => nI (z0 j)))) hx hb (hts (.arrayClass .int) (by decide +kernel)) rfl hK hP hD hS hA (fun _ => vpz_i _ 7) (nI_pos (by decide)) (nI_clamp (by decide)) (Nat.le_of_ble_eq_true rfl) (Nat.le_of_ble_eq_true rfl) (Nat.le_of_ble_eq_true rfl) dX1_init_15 (fun q15 cA H hK9 hP hD hS => ?_)
  obtain rfl : cI = cA := ty_eq hK9 0 2 rfl rfl rfl
  have hP : va_P (dC, dI) vwCl [(h0, .inr (2, [.ref q7, .null])), (q7, .inl (cI, 21, .inl (fun j => nI (z0 j)))), (q15, .inl (cI, 7, .inl (fun j => nI (z0 j))))] H := hP
  have hD : va_D A [(h0, .inr (2, [.ref q7, .null])), (q7, .inl (cI, 21, .inl (fun j => nI (z0 j)))), (q15, .inl (cI, 7, .inl (fun j => nI (z0 j))))] := hD
  refine W.widen (k := 2) (n := 28) (by omega) (by omega) ?_
  refine va_putF (D := (dC, dI)) (ci := 2) (v := .ref q15) (ty := (.array .int)) (C := RX1) (T := TX1) (N := 2) hx hb hts hinX1 tyX1 tyX1_ok nmX1 hown hK hP hD hS 0 rfl rfl 1 (by decide) (hts (.fieldLink RX1 15 "ReshuffleSearch$Ranks" "group" "[I") (by decide +kernel)) (fun _ h9 => h9) rfl hin0 rfl (by decide +kernel) rfl rfl (Nat.le_of_ble_eq_true rfl) dX1_init_17 (fun H locs hP hD hS => ?_)
  have hP : va_P (dC, dI) vwCl [(h0, .inr (2, [.ref q7, .ref q15])), (q7, .inl (cI, 21, .inl (fun j => nI (z0 j)))), (q15, .inl (cI, 7, .inl (fun j => nI (z0 j))))] H := hP
  have hD : va_D A [(h0, .inr (2, [.ref q7, .ref q15])), (q7, .inl (cI, 21, .inl (fun j => nI (z0 j)))), (q15, .inl (cI, 7, .inl (fun j => nI (z0 j))))] := hD
  have hP9 := hP.sub (ws' := [(h0, .inr (2, [.ref q7, .ref q15])), (q7, .inl (cI, 21, .inl (fun j => nI (z0 j)))), (q15, .inl (cI, 7, .inl (fun j => nI (z0 j))))]) [0, 1, 2] rfl
  have hD9 := hD.sub (ws' := [(h0, .inr (2, [.ref q7, .ref q15])), (q7, .inl (cI, 21, .inl (fun j => nI (z0 j)))), (q15, .inl (cI, 7, .inl (fun j => nI (z0 j))))]) [0, 1, 2] (by decide) rfl
  exact W.vret hx hb hr (fun t9 ht hW => ⟨none, [(h0, .inr (2, [.ref q7, .ref q15])), (q7, .inl (cI, 21, .inl (fun j => nI (z0 j)))), (q15, .inl (cI, 7, .inl (fun j => nI (z0 j))))], rfl, ⟨rfl, q7, q15, rfl⟩, by rw [ht]; exact hP9, hD9, hS.F ht⟩) hS.2.2 dX1_init_20
set_option maxHeartbeats 4000000 in
set_option maxRecDepth 100000 in
theorem c_X4_init (l : Launch) (dC : Nat → ClassId) (dI : Nat → Nat → Nat) (cI cJ : ClassId) (h0 : Nat)  (sz : Nat) : Met l yX4_init wsX4_init ({ frames := 1, cells := 4, slots := 106, locals := 20 }) (va_Pc [.ref h0] (wc_P (dC, dI) [(cI, .int), (cJ, .long)] [(h0, .inr (4, [.null, .null, .null, .null, .int (nI 0), .int (nI 0)]))] sz)) (wr_Q (dC, dI) (va_A [(h0, .inr (4, [.null, .null, .null, .null, .int (nI 0), .int (nI 0)]))] sz) (fun r W1 => r = none ∧ ∃ a b c d, W1 = [(h0, .inr (4, [.ref a, .ref b, .ref c, .ref d, .int (-1), .int (-1)])), (a, .inl (cI, 30, .inl (fun j => nI (z0 j)))), (b, .inl (cI, 30, .inl (fun j => nI (z0 j)))), (c, .inl (cI, 30, .inl (fun j => nI (z0 j)))), (d, .inl (cI, 16, .inl (fun j => nI (z0 j))))])) 4 106 (va_A [(h0, .inr (4, [.null, .null, .null, .null, .int (nI 0), .int (nI 0)]))] sz) := by
  refine Met.ofW (cc := cX4_init) (maxL := 1) (ret := none) (by decide) rfl ?_
  intro p e s m args below meth c s₁ B hml hv
  obtain ⟨rfl, ⟨hsz, hP, hK, hD0⟩, hN⟩ := hv
  have hx := B.exec
  have hb := B.bytes
  have hr := B.returns
  have hts := atoms_spec (ws := wsX4_init) B.pre
  have hown : s.vm.findClass RX4 = some m.cls := findClass_of_methodNamed B.named
  have hlocks := B.notSynchronized
  have hin0 : meth.name = "<init>" := (name_of_methodNamed B.named B.method).1
  subst hsz
  have hD := hD0.self (sz := s.heap.size)
  generalize hAe : va_A [(h0, .inr (4, [.null, .null, .null, .null, .int (nI 0), .int (nI 0)]))] s.heap.size = A at hD ⊢
  have hA : ∀ q : Nat, s.heap.size ≤ q → A q := fun q h => by rw [← hAe]; exact Or.inr h
  have hS : va_S A s.heap s.heap [] := va_S.rf
  have hl := lv_entry ([.ref h0]) (n := 1) (Nat.le_of_ble_eq_true rfl)
  rw [lg_entry_eq]
  generalize (lg_sl ([.ref h0]) ++ List.replicate (1 - (lg_sl ([.ref h0])).length) Slot.unset).toArray = ls at hl ⊢
  have hl : lv_has ls 1 [(0, .ref h0)] := hl
  have hinX4 : ∀ w ∈ u_ws RX4 TX4 6, w ∈ wsX4_init := by decide +kernel
  refine lv_aload_n hx hb dX4_init_0 rfl (lv_at hl 0 rfl) ?_
  refine W.objInit hx hb hown (hts (.methodLink RX4 3 objectInit) (by decide +kernel)) (hts (.instanceMethod objectInit) (by decide +kernel)) (hts (.code objectInit ⟨#[0xb1]⟩ 1 none) (by decide +kernel)) rfl (by rw [hml]; exact hl.1) rfl dX4_init_1 (Nat.le_of_ble_eq_true rfl) (Nat.le_of_ble_eq_true rfl) ?_
  refine W.eq (g2 := F0 m 4 ls []) rfl ?_
  refine lv_aload_n hx hb dX4_init_4 rfl (lv_at hl 0 rfl) ?_
  refine lv_bipush (v := nI 30) hx hb dX4_init_5 (by decide +kernel) ?_
  refine va_newa (atype := .int) (ty := .int) (N' := 30) (a0 := (30, .inl (fun j => nI (z0 j)))) hx hb (hts (.arrayClass .int) (by decide +kernel)) rfl hK hP hD hS hA (fun _ => vpz_i _ 30) (nI_pos (by decide)) (nI_clamp (by decide)) (Nat.le_of_ble_eq_true rfl) (Nat.le_of_ble_eq_true rfl) (Nat.le_of_ble_eq_true rfl) dX4_init_7 (fun q7 cA H hK9 hP hD hS => ?_)
  obtain rfl : cI = cA := ty_eq hK9 0 2 rfl rfl rfl
  have hP : va_P (dC, dI) vwCl [(h0, .inr (4, [.null, .null, .null, .null, .int (nI 0), .int (nI 0)])), (q7, .inl (cI, 30, .inl (fun j => nI (z0 j))))] H := hP
  have hD : va_D A [(h0, .inr (4, [.null, .null, .null, .null, .int (nI 0), .int (nI 0)])), (q7, .inl (cI, 30, .inl (fun j => nI (z0 j))))] := hD
  refine W.widen (k := 1) (n := 30) (by omega) (by omega) ?_
  refine va_putF (D := (dC, dI)) (ci := 4) (v := .ref q7) (ty := (.array .int)) (C := RX4) (T := TX4) (N := 6) hx hb hts hinX4 tyX4 tyX4_ok nmX4 hown hK hP hD hS 0 rfl rfl 0 (by decide) (hts (.fieldLink RX4 9 "ReshuffleSearch$Way" "from" "[I") (by decide +kernel)) (fun _ h9 => h9) rfl hin0 rfl (by decide +kernel) rfl rfl (Nat.le_of_ble_eq_true rfl) dX4_init_9 (fun H locs hP hD hS => ?_)
  have hP : va_P (dC, dI) vwCl [(h0, .inr (4, [.ref q7, .null, .null, .null, .int (nI 0), .int (nI 0)])), (q7, .inl (cI, 30, .inl (fun j => nI (z0 j))))] H := hP
  have hD : va_D A [(h0, .inr (4, [.ref q7, .null, .null, .null, .int (nI 0), .int (nI 0)])), (q7, .inl (cI, 30, .inl (fun j => nI (z0 j))))] := hD
  refine lv_aload_n hx hb dX4_init_12 rfl (lv_at hl 0 rfl) ?_
  refine lv_bipush (v := nI 30) hx hb dX4_init_13 (by decide +kernel) ?_
  refine va_newa (atype := .int) (ty := .int) (N' := 30) (a0 := (30, .inl (fun j => nI (z0 j)))) hx hb (hts (.arrayClass .int) (by decide +kernel)) rfl hK hP hD hS hA (fun _ => vpz_i _ 30) (nI_pos (by decide)) (nI_clamp (by decide)) (Nat.le_of_ble_eq_true rfl) (Nat.le_of_ble_eq_true rfl) (Nat.le_of_ble_eq_true rfl) dX4_init_15 (fun q15 cA H hK9 hP hD hS => ?_)
  obtain rfl : cI = cA := ty_eq hK9 0 2 rfl rfl rfl
  have hP : va_P (dC, dI) vwCl [(h0, .inr (4, [.ref q7, .null, .null, .null, .int (nI 0), .int (nI 0)])), (q7, .inl (cI, 30, .inl (fun j => nI (z0 j)))), (q15, .inl (cI, 30, .inl (fun j => nI (z0 j))))] H := hP
  have hD : va_D A [(h0, .inr (4, [.ref q7, .null, .null, .null, .int (nI 0), .int (nI 0)])), (q7, .inl (cI, 30, .inl (fun j => nI (z0 j)))), (q15, .inl (cI, 30, .inl (fun j => nI (z0 j))))] := hD
  refine W.widen (k := 2) (n := 60) (by omega) (by omega) ?_
  refine va_putF (D := (dC, dI)) (ci := 4) (v := .ref q15) (ty := (.array .int)) (C := RX4) (T := TX4) (N := 6) hx hb hts hinX4 tyX4 tyX4_ok nmX4 hown hK hP hD hS 0 rfl rfl 1 (by decide) (hts (.fieldLink RX4 15 "ReshuffleSearch$Way" "to" "[I") (by decide +kernel)) (fun _ h9 => h9) rfl hin0 rfl (by decide +kernel) rfl rfl (Nat.le_of_ble_eq_true rfl) dX4_init_17 (fun H locs hP hD hS => ?_)
  have hP : va_P (dC, dI) vwCl [(h0, .inr (4, [.ref q7, .ref q15, .null, .null, .int (nI 0), .int (nI 0)])), (q7, .inl (cI, 30, .inl (fun j => nI (z0 j)))), (q15, .inl (cI, 30, .inl (fun j => nI (z0 j))))] H := hP
  have hD : va_D A [(h0, .inr (4, [.ref q7, .ref q15, .null, .null, .int (nI 0), .int (nI 0)])), (q7, .inl (cI, 30, .inl (fun j => nI (z0 j)))), (q15, .inl (cI, 30, .inl (fun j => nI (z0 j))))] := hD
  refine lv_aload_n hx hb dX4_init_20 rfl (lv_at hl 0 rfl) ?_
  refine lv_bipush (v := nI 30) hx hb dX4_init_21 (by decide +kernel) ?_
  refine va_newa (atype := .int) (ty := .int) (N' := 30) (a0 := (30, .inl (fun j => nI (z0 j)))) hx hb (hts (.arrayClass .int) (by decide +kernel)) rfl hK hP hD hS hA (fun _ => vpz_i _ 30) (nI_pos (by decide)) (nI_clamp (by decide)) (Nat.le_of_ble_eq_true rfl) (Nat.le_of_ble_eq_true rfl) (Nat.le_of_ble_eq_true rfl) dX4_init_23 (fun q23 cA H hK9 hP hD hS => ?_)
  obtain rfl : cI = cA := ty_eq hK9 0 2 rfl rfl rfl
  have hP : va_P (dC, dI) vwCl [(h0, .inr (4, [.ref q7, .ref q15, .null, .null, .int (nI 0), .int (nI 0)])), (q7, .inl (cI, 30, .inl (fun j => nI (z0 j)))), (q15, .inl (cI, 30, .inl (fun j => nI (z0 j)))), (q23, .inl (cI, 30, .inl (fun j => nI (z0 j))))] H := hP
  have hD : va_D A [(h0, .inr (4, [.ref q7, .ref q15, .null, .null, .int (nI 0), .int (nI 0)])), (q7, .inl (cI, 30, .inl (fun j => nI (z0 j)))), (q15, .inl (cI, 30, .inl (fun j => nI (z0 j)))), (q23, .inl (cI, 30, .inl (fun j => nI (z0 j))))] := hD
  refine W.widen (k := 3) (n := 90) (by omega) (by omega) ?_
  refine va_putF (D := (dC, dI)) (ci := 4) (v := .ref q23) (ty := (.array .int)) (C := RX4) (T := TX4) (N := 6) hx hb hts hinX4 tyX4 tyX4_ok nmX4 hown hK hP hD hS 0 rfl rfl 2 (by decide) (hts (.fieldLink RX4 18 "ReshuffleSearch$Way" "group" "[I") (by decide +kernel)) (fun _ h9 => h9) rfl hin0 rfl (by decide +kernel) rfl rfl (Nat.le_of_ble_eq_true rfl) dX4_init_25 (fun H locs hP hD hS => ?_)
  have hP : va_P (dC, dI) vwCl [(h0, .inr (4, [.ref q7, .ref q15, .ref q23, .null, .int (nI 0), .int (nI 0)])), (q7, .inl (cI, 30, .inl (fun j => nI (z0 j)))), (q15, .inl (cI, 30, .inl (fun j => nI (z0 j)))), (q23, .inl (cI, 30, .inl (fun j => nI (z0 j))))] H := hP
  have hD : va_D A [(h0, .inr (4, [.ref q7, .ref q15, .ref q23, .null, .int (nI 0), .int (nI 0)])), (q7, .inl (cI, 30, .inl (fun j => nI (z0 j)))), (q15, .inl (cI, 30, .inl (fun j => nI (z0 j)))), (q23, .inl (cI, 30, .inl (fun j => nI (z0 j))))] := hD
  refine lv_aload_n hx hb dX4_init_28 rfl (lv_at hl 0 rfl) ?_
  refine lv_bipush (v := nI 16) hx hb dX4_init_29 (by decide +kernel) ?_
  refine va_newa (atype := .int) (ty := .int) (N' := 16) (a0 := (16, .inl (fun j => nI (z0 j)))) hx hb (hts (.arrayClass .int) (by decide +kernel)) rfl hK hP hD hS hA (fun _ => vpz_i _ 16) (nI_pos (by decide)) (nI_clamp (by decide)) (Nat.le_of_ble_eq_true rfl) (Nat.le_of_ble_eq_true rfl) (Nat.le_of_ble_eq_true rfl) dX4_init_31 (fun q31 cA H hK9 hP hD hS => ?_)
  obtain rfl : cI = cA := ty_eq hK9 0 2 rfl rfl rfl
  have hP : va_P (dC, dI) vwCl [(h0, .inr (4, [.ref q7, .ref q15, .ref q23, .null, .int (nI 0), .int (nI 0)])), (q7, .inl (cI, 30, .inl (fun j => nI (z0 j)))), (q15, .inl (cI, 30, .inl (fun j => nI (z0 j)))), (q23, .inl (cI, 30, .inl (fun j => nI (z0 j)))), (q31, .inl (cI, 16, .inl (fun j => nI (z0 j))))] H := hP
  have hD : va_D A [(h0, .inr (4, [.ref q7, .ref q15, .ref q23, .null, .int (nI 0), .int (nI 0)])), (q7, .inl (cI, 30, .inl (fun j => nI (z0 j)))), (q15, .inl (cI, 30, .inl (fun j => nI (z0 j)))), (q23, .inl (cI, 30, .inl (fun j => nI (z0 j)))), (q31, .inl (cI, 16, .inl (fun j => nI (z0 j))))] := hD
  refine W.widen (k := 4) (n := 106) (by omega) (by omega) ?_
  refine va_putF (D := (dC, dI)) (ci := 4) (v := .ref q31) (ty := (.array .int)) (C := RX4) (T := TX4) (N := 6) hx hb hts hinX4 tyX4 tyX4_ok nmX4 hown hK hP hD hS 0 rfl rfl 3 (by decide) (hts (.fieldLink RX4 21 "ReshuffleSearch$Way" "start" "[I") (by decide +kernel)) (fun _ h9 => h9) rfl hin0 rfl (by decide +kernel) rfl rfl (Nat.le_of_ble_eq_true rfl) dX4_init_33 (fun H locs hP hD hS => ?_)
  have hP : va_P (dC, dI) vwCl [(h0, .inr (4, [.ref q7, .ref q15, .ref q23, .ref q31, .int (nI 0), .int (nI 0)])), (q7, .inl (cI, 30, .inl (fun j => nI (z0 j)))), (q15, .inl (cI, 30, .inl (fun j => nI (z0 j)))), (q23, .inl (cI, 30, .inl (fun j => nI (z0 j)))), (q31, .inl (cI, 16, .inl (fun j => nI (z0 j))))] H := hP
  have hD : va_D A [(h0, .inr (4, [.ref q7, .ref q15, .ref q23, .ref q31, .int (nI 0), .int (nI 0)])), (q7, .inl (cI, 30, .inl (fun j => nI (z0 j)))), (q15, .inl (cI, 30, .inl (fun j => nI (z0 j)))), (q23, .inl (cI, 30, .inl (fun j => nI (z0 j)))), (q31, .inl (cI, 16, .inl (fun j => nI (z0 j))))] := hD
  refine lv_aload_n hx hb dX4_init_36 rfl (lv_at hl 0 rfl) ?_
  refine lv_iconst (v := -1) hx hb dX4_init_37 (by decide +kernel) ?_
  refine va_put (D := (dC, dI)) (ci := 4) (v := .int (-1)) (ty := .int) (C := RX4) (T := TX4) (N := 6) hx hb hts hinX4 tyX4 tyX4_ok nmX4 hown hK hP hD hS 0 rfl rfl 4 (by decide) (hts (.fieldLink RX4 24 "ReshuffleSearch$Way" "length" "I") (by decide +kernel)) (fun _ h9 => h9) rfl (by decide +kernel) rfl rfl (Nat.le_of_ble_eq_true rfl) dX4_init_38 (fun H locs hP hD hS => ?_)
  have hP : va_P (dC, dI) vwCl [(h0, .inr (4, [.ref q7, .ref q15, .ref q23, .ref q31, .int (-1), .int (nI 0)])), (q7, .inl (cI, 30, .inl (fun j => nI (z0 j)))), (q15, .inl (cI, 30, .inl (fun j => nI (z0 j)))), (q23, .inl (cI, 30, .inl (fun j => nI (z0 j)))), (q31, .inl (cI, 16, .inl (fun j => nI (z0 j))))] H := hP
  have hD : va_D A [(h0, .inr (4, [.ref q7, .ref q15, .ref q23, .ref q31, .int (-1), .int (nI 0)])), (q7, .inl (cI, 30, .inl (fun j => nI (z0 j)))), (q15, .inl (cI, 30, .inl (fun j => nI (z0 j)))), (q23, .inl (cI, 30, .inl (fun j => nI (z0 j)))), (q31, .inl (cI, 16, .inl (fun j => nI (z0 j))))] := hD
  refine lv_aload_n hx hb dX4_init_41 rfl (lv_at hl 0 rfl) ?_
  refine lv_iconst (v := -1) hx hb dX4_init_42 (by decide +kernel) ?_
  refine va_put (D := (dC, dI)) (ci := 4) (v := .int (-1)) (ty := .int) (C := RX4) (T := TX4) (N := 6) hx hb hts hinX4 tyX4 tyX4_ok nmX4 hown hK hP hD hS 0 rfl rfl 5 (by decide) (hts (.fieldLink RX4 28 "ReshuffleSearch$Way" "manner" "I") (by decide +kernel)) (fun _ h9 => h9) rfl (by decide +kernel) rfl rfl (Nat.le_of_ble_eq_true rfl) dX4_init_43 (fun H locs hP hD hS => ?_)
  have hP : va_P (dC, dI) vwCl [(h0, .inr (4, [.ref q7, .ref q15, .ref q23, .ref q31, .int (-1), .int (-1)])), (q7, .inl (cI, 30, .inl (fun j => nI (z0 j)))), (q15, .inl (cI, 30, .inl (fun j => nI (z0 j)))), (q23, .inl (cI, 30, .inl (fun j => nI (z0 j)))), (q31, .inl (cI, 16, .inl (fun j => nI (z0 j))))] H := hP
  have hD : va_D A [(h0, .inr (4, [.ref q7, .ref q15, .ref q23, .ref q31, .int (-1), .int (-1)])), (q7, .inl (cI, 30, .inl (fun j => nI (z0 j)))), (q15, .inl (cI, 30, .inl (fun j => nI (z0 j)))), (q23, .inl (cI, 30, .inl (fun j => nI (z0 j)))), (q31, .inl (cI, 16, .inl (fun j => nI (z0 j))))] := hD
  have hP9 := hP.sub (ws' := [(h0, .inr (4, [.ref q7, .ref q15, .ref q23, .ref q31, .int (-1), .int (-1)])), (q7, .inl (cI, 30, .inl (fun j => nI (z0 j)))), (q15, .inl (cI, 30, .inl (fun j => nI (z0 j)))), (q23, .inl (cI, 30, .inl (fun j => nI (z0 j)))), (q31, .inl (cI, 16, .inl (fun j => nI (z0 j))))]) [0, 1, 2, 3, 4] rfl
  have hD9 := hD.sub (ws' := [(h0, .inr (4, [.ref q7, .ref q15, .ref q23, .ref q31, .int (-1), .int (-1)])), (q7, .inl (cI, 30, .inl (fun j => nI (z0 j)))), (q15, .inl (cI, 30, .inl (fun j => nI (z0 j)))), (q23, .inl (cI, 30, .inl (fun j => nI (z0 j)))), (q31, .inl (cI, 16, .inl (fun j => nI (z0 j))))]) [0, 1, 2, 3, 4] (by decide) rfl
  exact W.vret hx hb hr (fun t9 ht hW => ⟨none, [(h0, .inr (4, [.ref q7, .ref q15, .ref q23, .ref q31, .int (-1), .int (-1)])), (q7, .inl (cI, 30, .inl (fun j => nI (z0 j)))), (q15, .inl (cI, 30, .inl (fun j => nI (z0 j)))), (q23, .inl (cI, 30, .inl (fun j => nI (z0 j)))), (q31, .inl (cI, 16, .inl (fun j => nI (z0 j))))], rfl, ⟨rfl, q7, q15, q23, q31, rfl⟩, by rw [ht]; exact hP9, hD9, hS.F ht⟩) hS.2.2 dX4_init_46
set_option maxHeartbeats 4000000 in
set_option maxRecDepth 100000 in
theorem c_X0_init (l : Launch) (dC : Nat → ClassId) (dI : Nat → Nat → Nat) (cI cJ : ClassId) (h0 : Nat)  (sz : Nat) : Met l yX0_init wsX0_init ({ frames := 1, cells := 1, slots := 1024, locals := 20 }) (va_Pc [.ref h0] (wc_P (dC, dI) [(cI, .int), (cJ, .long)] [(h0, .inr (1, [.null]))] sz)) (wr_Q (dC, dI) (va_A [(h0, .inr (1, [.null]))] sz) (fun r W1 => r = none ∧ ∃ a, W1 = [(h0, .inr (1, [.ref a])), (a, .inl (cJ, 1024, .inr (.inl (fun j => lN (z0 j)))))])) 1 1024 (va_A [(h0, .inr (1, [.null]))] sz) := by
  refine Met.ofW (cc := cX0_init) (maxL := 1) (ret := none) (by decide) rfl ?_
  intro p e s m args below meth c s₁ B hml hv
  obtain ⟨rfl, ⟨hsz, hP, hK, hD0⟩, hN⟩ := hv
  have hx := B.exec
  have hb := B.bytes
  have hr := B.returns
  have hts := atoms_spec (ws := wsX0_init) B.pre
  have hown : s.vm.findClass RX0 = some m.cls := findClass_of_methodNamed B.named
  have hlocks := B.notSynchronized
  have hin0 : meth.name = "<init>" := (name_of_methodNamed B.named B.method).1
  subst hsz
  have hD := hD0.self (sz := s.heap.size)
  generalize hAe : va_A [(h0, .inr (1, [.null]))] s.heap.size = A at hD ⊢
  have hA : ∀ q : Nat, s.heap.size ≤ q → A q := fun q h => by rw [← hAe]; exact Or.inr h
  have hS : va_S A s.heap s.heap [] := va_S.rf
  have hl := lv_entry ([.ref h0]) (n := 1) (Nat.le_of_ble_eq_true rfl)
  rw [lg_entry_eq]
  generalize (lg_sl ([.ref h0]) ++ List.replicate (1 - (lg_sl ([.ref h0])).length) Slot.unset).toArray = ls at hl ⊢
  have hl : lv_has ls 1 [(0, .ref h0)] := hl
  have hinX0 : ∀ w ∈ u_ws RX0 TX0 1, w ∈ wsX0_init := by decide +kernel
  refine lv_aload_n hx hb dX0_init_0 rfl (lv_at hl 0 rfl) ?_
  refine W.objInit hx hb hown (hts (.methodLink RX0 5 objectInit) (by decide +kernel)) (hts (.instanceMethod objectInit) (by decide +kernel)) (hts (.code objectInit ⟨#[0xb1]⟩ 1 none) (by decide +kernel)) rfl (by rw [hml]; exact hl.1) rfl dX0_init_1 (Nat.le_of_ble_eq_true rfl) (Nat.le_of_ble_eq_true rfl) ?_
  refine W.eq (g2 := F0 m 4 ls []) rfl ?_
  refine lv_aload_n hx hb dX0_init_4 rfl (lv_at hl 0 rfl) ?_
  refine lv_sipush (v := nI 1024) hx hb dX0_init_5 (by decide +kernel) ?_
  refine va_newa (atype := .long) (ty := .long) (N' := 1024) (a0 := (1024, .inr (.inl (fun j => lN (z0 j))))) hx hb (hts (.arrayClass .long) (by decide +kernel)) rfl hK hP hD hS hA (fun _ => vpz_l _ 1024) (nI_pos (by decide)) (nI_clamp (by decide)) (Nat.le_of_ble_eq_true rfl) (Nat.le_of_ble_eq_true rfl) (Nat.le_of_ble_eq_true rfl) dX0_init_8 (fun q8 cA H hK9 hP hD hS => ?_)
  obtain rfl : cJ = cA := ty_eq hK9 1 2 rfl rfl rfl
  have hP : va_P (dC, dI) vwCl [(h0, .inr (1, [.null])), (q8, .inl (cJ, 1024, .inr (.inl (fun j => lN (z0 j)))))] H := hP
  have hD : va_D A [(h0, .inr (1, [.null])), (q8, .inl (cJ, 1024, .inr (.inl (fun j => lN (z0 j)))))] := hD
  refine W.widen (k := 1) (n := 1024) (by omega) (by omega) ?_
  refine va_putF (D := (dC, dI)) (ci := 1) (v := .ref q8) (ty := (.array .long)) (C := RX0) (T := TX0) (N := 1) hx hb hts hinX0 tyX0 tyX0_ok nmX0 hown hK hP hD hS 0 rfl rfl 0 (by decide) (hts (.fieldLink RX0 11 "ReshuffleSearch$Hopeless" "entry" "[J") (by decide +kernel)) (fun _ h9 => h9) rfl hin0 rfl (by decide +kernel) rfl rfl (Nat.le_of_ble_eq_true rfl) dX0_init_10 (fun H locs hP hD hS => ?_)
  have hP : va_P (dC, dI) vwCl [(h0, .inr (1, [.ref q8])), (q8, .inl (cJ, 1024, .inr (.inl (fun j => lN (z0 j)))))] H := hP
  have hD : va_D A [(h0, .inr (1, [.ref q8])), (q8, .inl (cJ, 1024, .inr (.inl (fun j => lN (z0 j)))))] := hD
  have hP9 := hP.sub (ws' := [(h0, .inr (1, [.ref q8])), (q8, .inl (cJ, 1024, .inr (.inl (fun j => lN (z0 j)))))]) [0, 1] rfl
  have hD9 := hD.sub (ws' := [(h0, .inr (1, [.ref q8])), (q8, .inl (cJ, 1024, .inr (.inl (fun j => lN (z0 j)))))]) [0, 1] (by decide) rfl
  exact W.vret hx hb hr (fun t9 ht hW => ⟨none, [(h0, .inr (1, [.ref q8])), (q8, .inl (cJ, 1024, .inr (.inl (fun j => lN (z0 j)))))], rfl, ⟨rfl, q8, rfl⟩, by rw [ht]; exact hP9, hD9, hS.F ht⟩) hS.2.2 dX0_init_13
