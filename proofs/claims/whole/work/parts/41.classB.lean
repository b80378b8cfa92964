set_option maxHeartbeats 4000000 in
set_option maxRecDepth 100000 in
theorem c_J7_fill_53178 (l : Launch) (dC : Nat → ClassId) (dI : Nat → Nat → Nat) (ad : Nat → Nat) (cI cJ : ClassId) (n t : Nat) (P HT RK GP : Nat → Nat) (sm : Int32) (F T M ST : Nat → Nat) (ln mn : Int32) (E : Nat → Nat) (v : Nat)  (sz : Nat) : Met l yJ7_fill_53178 wsJ7_fill_53178 ({ frames := 0, cells := 0, slots := 0, locals := 0 }) (va_Pc [.ref (ad 4), .int (nI v)] (wc_P (dC, dI) [(cI, .int), (cJ, .long)] (cW ad cI cJ n t P HT RK GP sm F T M ST ln mn E) sz)) (wr_Q (dC, dI) (va_A (cW ad cI cJ n t P HT RK GP sm F T M ST ln mn E) sz) (fun r W1 => r = none ∧ W1 = (cW ad cI cJ n t P HT (zr 21 v RK) GP sm F T M ST ln mn E))) 0 0 (va_A (cW ad cI cJ n t P HT RK GP sm F T M ST ln mn E) sz) := by
  refine Met.ofW (cc := cJ7_fill_53178) (maxL := 4) (ret := none) (by decide) rfl ?_
  intro p e s m args below meth c s₁ B hml hv
  obtain ⟨rfl, ⟨hsz, hP, hK, hD0⟩, hN⟩ := hv
  have hx := B.exec
  have hb := B.bytes
  have hr := B.returns
  have hts := atoms_spec (ws := wsJ7_fill_53178) B.pre
  have hown : s.vm.findClass RJ7 = some m.cls := findClass_of_methodNamed B.named
  have hlocks := B.notSynchronized
  subst hsz
  have hD := hD0.self (sz := s.heap.size)
  generalize hAe : va_A (cW ad cI cJ n t P HT RK GP sm F T M ST ln mn E) s.heap.size = A at hD ⊢
  have hA : ∀ q : Nat, s.heap.size ≤ q → A q := fun q h => by rw [← hAe]; exact Or.inr h
  have hS : va_S A s.heap s.heap [] := va_S.rf
  have hl := lv_entry ([.ref (ad 4), .int (nI v)]) (n := 4) (Nat.le_of_ble_eq_true rfl)
  rw [lg_entry_eq]
  generalize (lg_sl ([.ref (ad 4), .int (nI v)]) ++ List.replicate (4 - (lg_sl ([.ref (ad 4), .int (nI v)])).length) Slot.unset).toArray = ls at hl ⊢
  have hl : lv_has ls 4 [(0, .ref (ad 4)), (1, .int (nI v))] := hl
  refine lv_iconst (v := nI 0) hx hb dJ7_fill_53178_0 (by decide +kernel) ?_
  refine lv_istore_n (lv' := [(2, .int (nI 0)), (0, .ref (ad 4)), (1, .int (nI v))]) hx hb dJ7_fill_53178_1 rfl hl (by decide) rfl (fun ls hl => ?_)
  refine lv_aload_n hx hb dJ7_fill_53178_2 rfl (lv_at hl 1 rfl) ?_
  refine va_alen (v := nI 21) hx hb hK hP 4 0 rfl rfl rfl dJ7_fill_53178_3 ?_
  refine lv_istore_n (lv' := [(3, .int (nI 21)), (2, .int (nI 0)), (0, .ref (ad 4)), (1, .int (nI v))]) hx hb dJ7_fill_53178_4 rfl hl (by decide) rfl (fun ls hl => ?_)
  have cut_5 : ∀ (n_5 : Nat) (k : Nat) (v5_1 : Int32) (v5_2 : Int32) (v5_3 : Int32) (ls : Array Slot) (H : Heap) (locs : List Loc) (hk : k ≤ 21) (hn_5 : 21 - k < n_5) (_ : v5_1 = nI v) (_ : v5_2 = nI k) (_ : v5_3 = nI 21) (_ : lv_has ls 4 [(0, .ref (ad 4)), (1, .int v5_1), (2, .int v5_2), (3, .int v5_3)]) (_ : va_P (dC, dI) vwCl (cW ad cI cJ n t P HT (zr k v RK) GP sm F T M ST ln mn E) H) (_ : va_D A (cW ad cI cJ n t P HT (zr k v RK) GP sm F T M ST ln mn E)) (_ : va_S A s.heap H locs), W p l e (headSpec wsJ7_fill_53178 ({ frames := 0, cells := 0, slots := 0, locals := 0 })).room s m ([.ref (ad 4), .int (nI v)] : List Value).toArray below meth c H locs 0 0 (MQ below (wr_Q (dC, dI) A (fun r W1 => r = none ∧ W1 = (cW ad cI cJ n t P HT (zr 21 v RK) GP sm F T M ST ln mn E))) ([.ref (ad 4), .int (nI v)] : List Value).toArray s 0 0 A) (F0 m 5 ls []) := by
    intro n_5
    induction n_5 with
    | zero => intros; omega
    | succ n_5 ih_5 =>
      rintro k v5_1 v5_2 v5_3 ls H locs hk hn_5 rfl rfl rfl hl hP hD hS
      refine lv_iload_n hx hb dJ7_fill_53178_5 rfl (lv_at hl 2 rfl) ?_
      refine lv_iload_n hx hb dJ7_fill_53178_6 rfl (lv_at hl 3 rfl) ?_
      refine wk_icmp_ge (tgt := 20) hx hb (by omega) (by omega) dJ7_fill_53178_7 (by decide) (fun c_7 => ?_) (fun c_7 => ?_)
      · exact W.vret hx hb hr (fun t9 ht hW => ⟨none, (cW ad cI cJ n t P HT (zr k v RK) GP sm F T M ST ln mn E), rfl, ⟨rfl, by rw [show k = 21 by omega]⟩, by rw [ht]; exact hP, hD, hS.F ht⟩) hS.2.2 dJ7_fill_53178_20
      · refine lv_aload_n hx hb dJ7_fill_53178_10 rfl (lv_at hl 0 rfl) ?_
        refine lv_iload_n hx hb dJ7_fill_53178_11 rfl (lv_at hl 2 rfl) ?_
        refine lv_iload_n hx hb dJ7_fill_53178_12 rfl (lv_at hl 1 rfl) ?_
        refine wk_iast hx hb hK hP hD hS 4 0 rfl rfl (by omega) dJ7_fill_53178_13 (fun H locs hP hD hS => ?_)
        have hP : va_P (dC, dI) vwCl (cW ad cI cJ n t P HT (upN (zr k v RK) k v) GP sm F T M ST ln mn E) H := hP
        have hD : va_D A (cW ad cI cJ n t P HT (upN (zr k v RK) k v) GP sm F T M ST ln mn E) := hD
        refine lv_iinc (v := nI (k + 1)) (lv' := [(2, .int (nI (k + 1))), (0, .ref (ad 4)), (1, .int (nI v)), (3, .int (nI 21))]) hx hb dJ7_fill_53178_14 hl (k := 2) rfl (wk_inc _ 1 rfl) (by decide) rfl (fun ls hl => ?_)
        refine lv_goto (tgt := 5) hx hb dJ7_fill_53178_17 (by decide) ?_
        exact ih_5 (k + 1) _ _ _ ls _ _ (by omega) (by omega) (rfl) (rfl) (rfl) (lv_sub hl [1, 2, 0, 3] rfl) (by rw [← zr_s]; exact hP) (by rw [← zr_s]; exact hD) hS
  exact cut_5 (21 + 1) 0 _ _ _ ls _ _ (by omega) (by omega) (rfl) (rfl) (rfl) (lv_sub hl [2, 3, 1, 0] rfl) (by rw [zr_0]; exact hP) (by rw [zr_0]; exact hD) hS
set_option maxHeartbeats 4000000 in
set_option maxRecDepth 100000 in
theorem c_J7_fill_d0a16 (l : Launch) (dC : Nat → ClassId) (dI : Nat → Nat → Nat) (ad : Nat → Nat) (cI cJ : ClassId) (n t : Nat) (P HT RK GP : Nat → Nat) (sm : Int32) (F T M ST : Nat → Nat) (ln mn : Int32) (E : Nat → Nat) (v : Nat)  (sz : Nat) : Met l yJ7_fill_d0a16 wsJ7_fill_d0a16 ({ frames := 0, cells := 0, slots := 0, locals := 0 }) (va_Pc [.ref (ad 13), .long (lN v)] (wc_P (dC, dI) [(cI, .int), (cJ, .long)] (cW ad cI cJ n t P HT RK GP sm F T M ST ln mn E) sz)) (wr_Q (dC, dI) (va_A (cW ad cI cJ n t P HT RK GP sm F T M ST ln mn E) sz) (fun r W1 => r = none ∧ W1 = (cW ad cI cJ n t P HT RK GP sm F T M ST ln mn (zr 1024 v E)))) 0 0 (va_A (cW ad cI cJ n t P HT RK GP sm F T M ST ln mn E) sz) := by
  refine Met.ofW (cc := cJ7_fill_d0a16) (maxL := 5) (ret := none) (by decide) rfl ?_
  intro p e s m args below meth c s₁ B hml hv
  obtain ⟨rfl, ⟨hsz, hP, hK, hD0⟩, hN⟩ := hv
  have hx := B.exec
  have hb := B.bytes
  have hr := B.returns
  have hts := atoms_spec (ws := wsJ7_fill_d0a16) B.pre
  have hown : s.vm.findClass RJ7 = some m.cls := findClass_of_methodNamed B.named
  have hlocks := B.notSynchronized
  subst hsz
  have hD := hD0.self (sz := s.heap.size)
  generalize hAe : va_A (cW ad cI cJ n t P HT RK GP sm F T M ST ln mn E) s.heap.size = A at hD ⊢
  have hA : ∀ q : Nat, s.heap.size ≤ q → A q := fun q h => by rw [← hAe]; exact Or.inr h
  have hS : va_S A s.heap s.heap [] := va_S.rf
  have hl := lv_entry ([.ref (ad 13), .long (lN v)]) (n := 5) (Nat.le_of_ble_eq_true rfl)
  rw [lg_entry_eq]
  generalize (lg_sl ([.ref (ad 13), .long (lN v)]) ++ List.replicate (5 - (lg_sl ([.ref (ad 13), .long (lN v)])).length) Slot.unset).toArray = ls at hl ⊢
  have hl : lv_has ls 5 [(0, .ref (ad 13)), (1, .long (lN v))] := hl
  refine lv_iconst (v := nI 0) hx hb dJ7_fill_d0a16_0 (by decide +kernel) ?_
  refine lv_istore_n (lv' := [(3, .int (nI 0)), (0, .ref (ad 13)), (1, .long (lN v))]) hx hb dJ7_fill_d0a16_1 rfl hl (by decide) rfl (fun ls hl => ?_)
  refine lv_aload_n hx hb dJ7_fill_d0a16_2 rfl (lv_at hl 1 rfl) ?_
  refine va_alen (v := nI 1024) hx hb hK hP 13 1 rfl rfl rfl dJ7_fill_d0a16_3 ?_
  refine lv_istore (lv' := [(4, .int (nI 1024)), (3, .int (nI 0)), (0, .ref (ad 13)), (1, .long (lN v))]) hx hb dJ7_fill_d0a16_4 hl (by decide) rfl (fun ls hl => ?_)
  have cut_6 : ∀ (n_6 : Nat) (k : Nat) (v6_1 : Int64) (v6_3 : Int32) (v6_4 : Int32) (ls : Array Slot) (H : Heap) (locs : List Loc) (hk : k ≤ 1024) (hn_6 : 1024 - k < n_6) (_ : v6_1 = lN v) (_ : v6_3 = nI k) (_ : v6_4 = nI 1024) (_ : lv_has ls 5 [(0, .ref (ad 13)), (1, .long v6_1), (3, .int v6_3), (4, .int v6_4)]) (_ : va_P (dC, dI) vwCl (cW ad cI cJ n t P HT RK GP sm F T M ST ln mn (zr k v E)) H) (_ : va_D A (cW ad cI cJ n t P HT RK GP sm F T M ST ln mn (zr k v E))) (_ : va_S A s.heap H locs), W p l e (headSpec wsJ7_fill_d0a16 ({ frames := 0, cells := 0, slots := 0, locals := 0 })).room s m ([.ref (ad 13), .long (lN v)] : List Value).toArray below meth c H locs 0 0 (MQ below (wr_Q (dC, dI) A (fun r W1 => r = none ∧ W1 = (cW ad cI cJ n t P HT RK GP sm F T M ST ln mn (zr 1024 v E)))) ([.ref (ad 13), .long (lN v)] : List Value).toArray s 0 0 A) (F0 m 6 ls []) := by
    intro n_6
    induction n_6 with
    | zero => intros; omega
    | succ n_6 ih_6 =>
      rintro k v6_1 v6_3 v6_4 ls H locs hk hn_6 rfl rfl rfl hl hP hD hS
      refine lv_iload_n hx hb dJ7_fill_d0a16_6 rfl (lv_at hl 2 rfl) ?_
      refine lv_iload hx hb dJ7_fill_d0a16_7 (lv_at hl 3 rfl) ?_
      refine wk_icmp_ge (tgt := 22) hx hb (by omega) (by omega) dJ7_fill_d0a16_9 (by decide) (fun c_9 => ?_) (fun c_9 => ?_)
      · exact W.vret hx hb hr (fun t9 ht hW => ⟨none, (cW ad cI cJ n t P HT RK GP sm F T M ST ln mn (zr k v E)), rfl, ⟨rfl, by rw [show k = 1024 by omega]⟩, by rw [ht]; exact hP, hD, hS.F ht⟩) hS.2.2 dJ7_fill_d0a16_22
      · refine lv_aload_n hx hb dJ7_fill_d0a16_12 rfl (lv_at hl 0 rfl) ?_
        refine lv_iload_n hx hb dJ7_fill_d0a16_13 rfl (lv_at hl 2 rfl) ?_
        refine lv_lload_n hx hb dJ7_fill_d0a16_14 rfl (lv_at hl 1 rfl) ?_
        refine wk_last hx hb hK hP hD hS 13 1 rfl rfl (by omega) dJ7_fill_d0a16_15 (fun H locs hP hD hS => ?_)
        have hP : va_P (dC, dI) vwCl (cW ad cI cJ n t P HT RK GP sm F T M ST ln mn (upN (zr k v E) k v)) H := hP
        have hD : va_D A (cW ad cI cJ n t P HT RK GP sm F T M ST ln mn (upN (zr k v E) k v)) := hD
        refine lv_iinc (v := nI (k + 1)) (lv' := [(3, .int (nI (k + 1))), (0, .ref (ad 13)), (1, .long (lN v)), (4, .int (nI 1024))]) hx hb dJ7_fill_d0a16_16 hl (k := 2) rfl (wk_inc _ 1 rfl) (by decide) rfl (fun ls hl => ?_)
        refine lv_goto (tgt := 6) hx hb dJ7_fill_d0a16_19 (by decide) ?_
        exact ih_6 (k + 1) _ _ _ ls _ _ (by omega) (by omega) (rfl) (rfl) (rfl) (lv_sub hl [1, 2, 0, 3] rfl) (by rw [← zr_s]; exact hP) (by rw [← zr_s]; exact hD) hS
  exact cut_6 (1024 + 1) 0 _ _ _ ls _ _ (by omega) (by omega) (rfl) (rfl) (rfl) (lv_sub hl [2, 3, 1, 0] rfl) (by rw [zr_0]; exact hP) (by rw [zr_0]; exact hD) hS
set_option maxHeartbeats 4000000 in
set_option maxRecDepth 100000 in
theorem c_X0_forget (l : Launch) (dC : Nat → ClassId) (dI : Nat → Nat → Nat) (ad : Nat → Nat) (cI cJ : ClassId) (n t : Nat) (P HT RK GP : Nat → Nat) (sm : Int32) (F T M ST : Nat → Nat) (ln mn : Int32) (E : Nat → Nat)  (sz : Nat) : Met l yX0_forget wsX0_forget ({ frames := 1, cells := 0, slots := 0, locals := 24 }) (va_Pc [.ref (ad 12)] (wc_P (dC, dI) [(cI, .int), (cJ, .long)] (cW ad cI cJ n t P HT RK GP sm F T M ST ln mn E) sz)) (wr_Q (dC, dI) (va_A (cW ad cI cJ n t P HT RK GP sm F T M ST ln mn E) sz) (fun r W1 => r = none ∧ W1 = (cW ad cI cJ n t P HT RK GP sm F T M ST ln mn (zr 1024 0 E)))) 0 0 (va_A (cW ad cI cJ n t P HT RK GP sm F T M ST ln mn E) sz) := by
  refine Met.ofW (cc := cX0_forget) (maxL := 1) (ret := none) (by decide) rfl ?_
  intro p e s m args below meth c s₁ B hml hv
  obtain ⟨rfl, ⟨hsz, hP, hK, hD0⟩, hN⟩ := hv
  have hx := B.exec
  have hb := B.bytes
  have hr := B.returns
  have hts := atoms_spec (ws := wsX0_forget) B.pre
  have hown : s.vm.findClass RX0 = some m.cls := findClass_of_methodNamed B.named
  have hlocks := B.notSynchronized
  have hinX0 : ∀ w ∈ u_ws RX0 TX0 1, w ∈ wsX0_forget := by decide +kernel
  subst hsz
  have hD := hD0.self (sz := s.heap.size)
  generalize hAe : va_A (cW ad cI cJ n t P HT RK GP sm F T M ST ln mn E) s.heap.size = A at hD ⊢
  have hA : ∀ q : Nat, s.heap.size ≤ q → A q := fun q h => by rw [← hAe]; exact Or.inr h
  have hS : va_S A s.heap s.heap [] := va_S.rf
  have hl := lv_entry ([.ref (ad 12)]) (n := 1) (Nat.le_of_ble_eq_true rfl)
  rw [lg_entry_eq]
  generalize (lg_sl ([.ref (ad 12)]) ++ List.replicate (1 - (lg_sl ([.ref (ad 12)])).length) Slot.unset).toArray = ls at hl ⊢
  have hl : lv_has ls 1 [(0, .ref (ad 12))] := hl
  refine lv_aload_n hx hb dX0_forget_0 rfl (lv_at hl 0 rfl) ?_
  refine va_get (D := (dC, dI)) (ci := 1) (v := .ref (ad 13)) (C := RX0) (T := TX0) (N := 1) hx hb hts hinX0 hown hK hP 12 rfl rfl 0 (by decide) (hts (.fieldLink RX0 11 "ReshuffleSearch$Hopeless" "entry" "[J") (by decide +kernel)) (fun _ h9 => h9) rfl dX0_forget_1 ?_
  refine lv_lconst (v := lN 0) hx hb dX0_forget_4 (by decide +kernel) ?_
  have hFc := va_free (wc := (cW ad cI cJ n t P HT RK GP sm F T M ST ln mn E)) hD hS hA [0, 1, 2, 3, 4, 5, 6, 7, 8, 9, 10, 11, 12, 13] rfl
  refine wr_go (va_runS (As := [.ref (ad 13), .long (lN 0)]) (rest := []) ⟨hx, hb, hml, hown, hts⟩ (c_J7_fill_d0a16 l dC dI ad cI cJ n t P HT RK GP sm F T M ST ln mn E 0 s.heap.size) (va_cwS 2 hts gX0_forget_J7_fill_d0a16 rfl rfl rfl (by decide +kernel) ⟨Nat.le_of_ble_eq_true rfl, Nat.le_of_ble_eq_true rfl⟩) ⟨wc_blind, fun U hU hW => ⟨rfl, ⟨by rw [hU], by rw [hU]; exact hP, va_K.moved hW.alike hK, hD.weaken (fun _ _ _ _ => trivial)⟩, nst_warm hW hN⟩⟩ rfl rfl hl.1 rfl (lv_room (Nat.le_of_ble_eq_true rfl)) dX0_forget_5 ⟨Nat.le_refl _, Nat.le_refl _⟩) hS hFc hFc (fun r9 W9 H locs hpost hP hD9 hz9 hk9 hS => ?_)
  have hD := hD9.weaken (fun _ _ _ h => hFc _ h)
  obtain ⟨rfl, rfl⟩ := hpost
  have hP : va_P (dC, dI) vwCl (cW ad cI cJ n t P HT RK GP sm F T M ST ln mn (zr 1024 0 E)) H := hP
  have hD : va_D A (cW ad cI cJ n t P HT RK GP sm F T M ST ln mn (zr 1024 0 E)) := hD
  refine W.eq (g2 := F0 m 8 ls []) rfl ?_
  exact W.vret hx hb hr (fun t9 ht hW => ⟨none, (cW ad cI cJ n t P HT RK GP sm F T M ST ln mn (zr 1024 0 E)), rfl, ⟨rfl, rfl⟩, by rw [ht]; exact hP, hD, hS.F ht⟩) hS.2.2 dX0_forget_8
set_option maxHeartbeats 4000000 in
set_option maxRecDepth 100000 in
theorem c_X4_drop (l : Launch) (dC : Nat → ClassId) (dI : Nat → Nat → Nat) (ad : Nat → Nat) (cI cJ : ClassId) (n t : Nat) (P HT RK GP : Nat → Nat) (sm : Int32) (F T M ST : Nat → Nat) (ln mn : Int32) (E : Nat → Nat)  (sz : Nat) : Met l yX4_drop wsX4_drop ({ frames := 0, cells := 0, slots := 0, locals := 0 }) (va_Pc [.ref (ad 7)] (wc_P (dC, dI) [(cI, .int), (cJ, .long)] (cW ad cI cJ n t P HT RK GP sm F T M ST ln mn E) sz)) (wr_Q (dC, dI) (va_A (cW ad cI cJ n t P HT RK GP sm F T M ST ln mn E) sz) (fun r W1 => r = none ∧ W1 = (cW ad cI cJ n t P HT RK GP sm F T M ST (-1) (-1) E))) 0 0 (va_A (cW ad cI cJ n t P HT RK GP sm F T M ST ln mn E) sz) := by
  refine Met.ofW (cc := cX4_drop) (maxL := 1) (ret := none) (by decide) rfl ?_
  intro p e s m args below meth c s₁ B hml hv
  obtain ⟨rfl, ⟨hsz, hP, hK, hD0⟩, hN⟩ := hv
  have hx := B.exec
  have hb := B.bytes
  have hr := B.returns
  have hts := atoms_spec (ws := wsX4_drop) B.pre
  have hown : s.vm.findClass RX4 = some m.cls := findClass_of_methodNamed B.named
  have hlocks := B.notSynchronized
  have hinX4 : ∀ w ∈ u_ws RX4 TX4 6, w ∈ wsX4_drop := by decide +kernel
  subst hsz
  have hD := hD0.self (sz := s.heap.size)
  generalize hAe : va_A (cW ad cI cJ n t P HT RK GP sm F T M ST ln mn E) s.heap.size = A at hD ⊢
  have hA : ∀ q : Nat, s.heap.size ≤ q → A q := fun q h => by rw [← hAe]; exact Or.inr h
  have hS : va_S A s.heap s.heap [] := va_S.rf
  have hl := lv_entry ([.ref (ad 7)]) (n := 1) (Nat.le_of_ble_eq_true rfl)
  rw [lg_entry_eq]
  generalize (lg_sl ([.ref (ad 7)]) ++ List.replicate (1 - (lg_sl ([.ref (ad 7)])).length) Slot.unset).toArray = ls at hl ⊢
  have hl : lv_has ls 1 [(0, .ref (ad 7))] := hl
  refine lv_aload_n hx hb dX4_drop_0 rfl (lv_at hl 0 rfl) ?_
  refine lv_iconst (v := -1) hx hb dX4_drop_1 (by decide +kernel) ?_
  refine va_put (D := (dC, dI)) (ci := 4) (v := .int (-1)) (ty := .int) (C := RX4) (T := TX4) (N := 6) hx hb hts hinX4 tyX4 tyX4_ok nmX4 hown hK hP hD hS 7 rfl rfl 4 (by decide) (hts (.fieldLink RX4 24 "ReshuffleSearch$Way" "length" "I") (by decide +kernel)) (fun _ h9 => h9) rfl (by decide +kernel) (rfl) (rfl) (Nat.le_of_ble_eq_true rfl) dX4_drop_2 (fun H locs hP hD hS => ?_)
  have hP : va_P (dC, dI) vwCl (cW ad cI cJ n t P HT RK GP sm F T M ST (-1) mn E) H := hP
  have hD : va_D A (cW ad cI cJ n t P HT RK GP sm F T M ST (-1) mn E) := hD
  refine lv_aload_n hx hb dX4_drop_5 rfl (lv_at hl 0 rfl) ?_
  refine lv_iconst (v := -1) hx hb dX4_drop_6 (by decide +kernel) ?_
  refine va_put (D := (dC, dI)) (ci := 4) (v := .int (-1)) (ty := .int) (C := RX4) (T := TX4) (N := 6) hx hb hts hinX4 tyX4 tyX4_ok nmX4 hown hK hP hD hS 7 rfl rfl 5 (by decide) (hts (.fieldLink RX4 28 "ReshuffleSearch$Way" "manner" "I") (by decide +kernel)) (fun _ h9 => h9) rfl (by decide +kernel) (rfl) (rfl) (Nat.le_of_ble_eq_true rfl) dX4_drop_7 (fun H locs hP hD hS => ?_)
  have hP : va_P (dC, dI) vwCl (cW ad cI cJ n t P HT RK GP sm F T M ST (-1) (-1) E) H := hP
  have hD : va_D A (cW ad cI cJ n t P HT RK GP sm F T M ST (-1) (-1) E) := hD
  exact W.vret hx hb hr (fun t9 ht hW => ⟨none, (cW ad cI cJ n t P HT RK GP sm F T M ST (-1) (-1) E), rfl, ⟨rfl, rfl⟩, by rw [ht]; exact hP, hD, hS.F ht⟩) hS.2.2 dX4_drop_10
set_option maxHeartbeats 4000000 in
set_option maxRecDepth 100000 in
theorem c_X4_note (l : Launch) (dC : Nat → ClassId) (dI : Nat → Nat → Nat) (ad : Nat → Nat) (cI cJ : ClassId) (n t : Nat) (P HT RK GP : Nat → Nat) (sm : Int32) (F T M ST : Nat → Nat) (ln mn : Int32) (E : Nat → Nat) (i a b r0 : Nat) (hi0 : i < 30)  (sz : Nat) : Met l yX4_note wsX4_note ({ frames := 0, cells := 0, slots := 0, locals := 0 }) (va_Pc [.ref (ad 7), .int (nI i), .int (nI a), .int (nI b), .int (nI r0)] (wc_P (dC, dI) [(cI, .int), (cJ, .long)] (cW ad cI cJ n t P HT RK GP sm F T M ST ln mn E) sz)) (wr_Q (dC, dI) (va_A (cW ad cI cJ n t P HT RK GP sm F T M ST ln mn E) sz) (fun r W1 => r = none ∧ W1 = (cW ad cI cJ n t P HT RK GP sm (upN F i a) (upN T i b) (upN M i r0) ST ln mn E))) 0 0 (va_A (cW ad cI cJ n t P HT RK GP sm F T M ST ln mn E) sz) := by
  refine Met.ofW (cc := cX4_note) (maxL := 5) (ret := none) (by decide) rfl ?_
  intro p e s m args below meth c s₁ B hml hv
  obtain ⟨rfl, ⟨hsz, hP, hK, hD0⟩, hN⟩ := hv
  have hx := B.exec
  have hb := B.bytes
  have hr := B.returns
  have hts := atoms_spec (ws := wsX4_note) B.pre
  have hown : s.vm.findClass RX4 = some m.cls := findClass_of_methodNamed B.named
  have hlocks := B.notSynchronized
  have hinX4 : ∀ w ∈ u_ws RX4 TX4 6, w ∈ wsX4_note := by decide +kernel
  subst hsz
  have hD := hD0.self (sz := s.heap.size)
  generalize hAe : va_A (cW ad cI cJ n t P HT RK GP sm F T M ST ln mn E) s.heap.size = A at hD ⊢
  have hA : ∀ q : Nat, s.heap.size ≤ q → A q := fun q h => by rw [← hAe]; exact Or.inr h
  have hS : va_S A s.heap s.heap [] := va_S.rf
  have hl := lv_entry ([.ref (ad 7), .int (nI i), .int (nI a), .int (nI b), .int (nI r0)]) (n := 5) (Nat.le_of_ble_eq_true rfl)
  rw [lg_entry_eq]
  generalize (lg_sl ([.ref (ad 7), .int (nI i), .int (nI a), .int (nI b), .int (nI r0)]) ++ List.replicate (5 - (lg_sl ([.ref (ad 7), .int (nI i), .int (nI a), .int (nI b), .int (nI r0)])).length) Slot.unset).toArray = ls at hl ⊢
  have hl : lv_has ls 5 [(0, .ref (ad 7)), (1, .int (nI i)), (2, .int (nI a)), (3, .int (nI b)), (4, .int (nI r0))] := hl
  refine lv_iload_n hx hb dX4_note_0 rfl (lv_at hl 1 rfl) ?_
  refine wk_if_lt (tgt := 32) hx hb (by omega) dX4_note_1 (by decide) ?_
  refine lv_iload_n hx hb dX4_note_4 rfl (lv_at hl 1 rfl) ?_
  refine lv_bipush (v := nI 30) hx hb dX4_note_5 (by decide +kernel) ?_
  refine wk_icmp_ge (tgt := 32) hx hb (by omega) (by omega) dX4_note_7 (by decide) (fun c_7 => ?_) (fun c_7 => ?_)
  · exact (by exfalso; omega)
  · refine lv_aload_n hx hb dX4_note_10 rfl (lv_at hl 0 rfl) ?_
    refine va_get (D := (dC, dI)) (ci := 4) (v := .ref (ad 8)) (C := RX4) (T := TX4) (N := 6) hx hb hts hinX4 hown hK hP 7 rfl rfl 0 (by decide) (hts (.fieldLink RX4 9 "ReshuffleSearch$Way" "from" "[I") (by decide +kernel)) (fun _ h9 => h9) rfl dX4_note_11 ?_
    refine lv_iload_n hx hb dX4_note_14 rfl (lv_at hl 1 rfl) ?_
    refine lv_iload_n hx hb dX4_note_15 rfl (lv_at hl 2 rfl) ?_
    refine wk_iast hx hb hK hP hD hS 8 0 rfl rfl (by omega) dX4_note_16 (fun H locs hP hD hS => ?_)
    have hP : va_P (dC, dI) vwCl (cW ad cI cJ n t P HT RK GP sm (upN F i a) T M ST ln mn E) H := hP
    have hD : va_D A (cW ad cI cJ n t P HT RK GP sm (upN F i a) T M ST ln mn E) := hD
    refine lv_aload_n hx hb dX4_note_17 rfl (lv_at hl 0 rfl) ?_
    refine va_get (D := (dC, dI)) (ci := 4) (v := .ref (ad 9)) (C := RX4) (T := TX4) (N := 6) hx hb hts hinX4 hown hK hP 7 rfl rfl 1 (by decide) (hts (.fieldLink RX4 15 "ReshuffleSearch$Way" "to" "[I") (by decide +kernel)) (fun _ h9 => h9) rfl dX4_note_18 ?_
    refine lv_iload_n hx hb dX4_note_21 rfl (lv_at hl 1 rfl) ?_
    refine lv_iload_n hx hb dX4_note_22 rfl (lv_at hl 3 rfl) ?_
    refine wk_iast hx hb hK hP hD hS 9 0 rfl rfl (by omega) dX4_note_23 (fun H locs hP hD hS => ?_)
    have hP : va_P (dC, dI) vwCl (cW ad cI cJ n t P HT RK GP sm (upN F i a) (upN T i b) M ST ln mn E) H := hP
    have hD : va_D A (cW ad cI cJ n t P HT RK GP sm (upN F i a) (upN T i b) M ST ln mn E) := hD
    refine lv_aload_n hx hb dX4_note_24 rfl (lv_at hl 0 rfl) ?_
    refine va_get (D := (dC, dI)) (ci := 4) (v := .ref (ad 10)) (C := RX4) (T := TX4) (N := 6) hx hb hts hinX4 hown hK hP 7 rfl rfl 2 (by decide) (hts (.fieldLink RX4 18 "ReshuffleSearch$Way" "group" "[I") (by decide +kernel)) (fun _ h9 => h9) rfl dX4_note_25 ?_
    refine lv_iload_n hx hb dX4_note_28 rfl (lv_at hl 1 rfl) ?_
    refine lv_iload hx hb dX4_note_29 (lv_at hl 4 rfl) ?_
    refine wk_iast hx hb hK hP hD hS 10 0 rfl rfl (by omega) dX4_note_31 (fun H locs hP hD hS => ?_)
    have hP : va_P (dC, dI) vwCl (cW ad cI cJ n t P HT RK GP sm (upN F i a) (upN T i b) (upN M i r0) ST ln mn E) H := hP
    have hD : va_D A (cW ad cI cJ n t P HT RK GP sm (upN F i a) (upN T i b) (upN M i r0) ST ln mn E) := hD
    exact W.vret hx hb hr (fun t9 ht hW => ⟨none, (cW ad cI cJ n t P HT RK GP sm (upN F i a) (upN T i b) (upN M i r0) ST ln mn E), rfl, ⟨rfl, rfl⟩, by rw [ht]; exact hP, hD, hS.F ht⟩) hS.2.2 dX4_note_32
/-- ranks become groups -/
def kpm (GP M : Nat → Nat) : Nat → Nat → Nat
  | 0 => M
  | k + 1 => upN (kpm GP M k) k (gpc GP (kpm GP M k k))
theorem kpm_k (GP M : Nat → Nat) : ∀ k j, k ≤ j → kpm GP M k j = M j
  | 0, j, _ => rfl
  | k + 1, j, h => by
    show upN _ _ _ j = _
    rw [upN_n (by omega), kpm_k GP M k j (by omega)]
set_option maxHeartbeats 4000000 in
set_option maxRecDepth 100000 in
theorem c_X4_keep (l : Launch) (dC : Nat → ClassId) (dI : Nat → Nat → Nat) (ad : Nat → Nat) (cI cJ : ClassId) (n t : Nat) (P HT RK GP : Nat → Nat) (sm : Int32) (F T M ST : Nat → Nat) (ln mn : Int32) (E : Nat → Nat) (hP0 : ∀ j, P j < 2147483648) (L0 mm : Nat) (hL0 : L0 ≤ 30) (hM0 : ∀ j, j < L0 → M j < 2147483648)  (sz : Nat) : Met l yX4_keep wsX4_keep ({ frames := 1, cells := 0, slots := 0, locals := 21 }) (va_Pc [.ref (ad 7), .int (nI L0), .int (nI mm), .ref (ad 1), .ref (ad 3)] (wc_P (dC, dI) [(cI, .int), (cJ, .long)] (cW ad cI cJ n t P HT RK GP sm F T M ST ln mn E) sz)) (wr_Q (dC, dI) (va_A (cW ad cI cJ n t P HT RK GP sm F T M ST ln mn E) sz) (fun r W1 => r = none ∧ W1 = (cW ad cI cJ n t P HT RK GP sm F T (kpm GP M L0) (cpy ST P 16) (nI L0) (nI mm) E))) 0 0 (va_A (cW ad cI cJ n t P HT RK GP sm F T M ST ln mn E) sz) := by
  refine Met.ofW (cc := cX4_keep) (maxL := 6) (ret := none) (by decide) rfl ?_
  intro p e s m args below meth c s₁ B hml hv
  obtain ⟨rfl, ⟨hsz, hP, hK, hD0⟩, hN⟩ := hv
  have hx := B.exec
  have hb := B.bytes
  have hr := B.returns
  have hts := atoms_spec (ws := wsX4_keep) B.pre
  have hown : s.vm.findClass RX4 = some m.cls := findClass_of_methodNamed B.named
  have hlocks := B.notSynchronized
  have hinX4 : ∀ w ∈ u_ws RX4 TX4 6, w ∈ wsX4_keep := by decide +kernel
  subst hsz
  have hD := hD0.self (sz := s.heap.size)
  generalize hAe : va_A (cW ad cI cJ n t P HT RK GP sm F T M ST ln mn E) s.heap.size = A at hD ⊢
  have hA : ∀ q : Nat, s.heap.size ≤ q → A q := fun q h => by rw [← hAe]; exact Or.inr h
  have hS : va_S A s.heap s.heap [] := va_S.rf
  have hl := lv_entry ([.ref (ad 7), .int (nI L0), .int (nI mm), .ref (ad 1), .ref (ad 3)]) (n := 6) (Nat.le_of_ble_eq_true rfl)
  rw [lg_entry_eq]
  generalize (lg_sl ([.ref (ad 7), .int (nI L0), .int (nI mm), .ref (ad 1), .ref (ad 3)]) ++ List.replicate (6 - (lg_sl ([.ref (ad 7), .int (nI L0), .int (nI mm), .ref (ad 1), .ref (ad 3)])).length) Slot.unset).toArray = ls at hl ⊢
  have hl : lv_has ls 6 [(0, .ref (ad 7)), (1, .int (nI L0)), (2, .int (nI mm)), (3, .ref (ad 1)), (4, .ref (ad 3))] := hl
  have cut_54 : ∀ (ls : Array Slot) (H : Heap) (locs : List Loc) (_ : lv_has ls 6 [(0, .ref (ad 7)), (3, .ref (ad 1))]) (_ : va_P (dC, dI) vwCl (cW ad cI cJ n t P HT RK GP sm F T (kpm GP M L0) ST (nI L0) (nI mm) E) H) (_ : va_D A (cW ad cI cJ n t P HT RK GP sm F T (kpm GP M L0) ST (nI L0) (nI mm) E)) (_ : va_S A s.heap H locs), W p l e (headSpec wsX4_keep ({ frames := 1, cells := 0, slots := 0, locals := 21 })).room s m ([.ref (ad 7), .int (nI L0), .int (nI mm), .ref (ad 1), .ref (ad 3)] : List Value).toArray below meth c H locs 0 0 (MQ below (wr_Q (dC, dI) A (fun r W1 => r = none ∧ W1 = (cW ad cI cJ n t P HT RK GP sm F T (kpm GP M L0) (cpy ST P 16) (nI L0) (nI mm) E))) ([.ref (ad 7), .int (nI L0), .int (nI mm), .ref (ad 1), .ref (ad 3)] : List Value).toArray s 0 0 A) (F0 m 54 ls []) := by
    rintro ls H locs hl hP hD hS
    refine lv_iconst (v := nI 0) hx hb dX4_keep_54 (by decide +kernel) ?_
    refine lv_istore (lv' := [(5, .int (nI 0)), (0, .ref (ad 7)), (3, .ref (ad 1))]) hx hb dX4_keep_55 hl (by decide) rfl (fun ls hl => ?_)
    have cut_57 : ∀ (n_57 : Nat) (k : Nat) (v57_5 : Int32) (ls : Array Slot) (H : Heap) (locs : List Loc) (hk : k ≤ 16) (hn_57 : 16 - k < n_57) (_ : v57_5 = nI k) (_ : lv_has ls 6 [(0, .ref (ad 7)), (3, .ref (ad 1)), (5, .int v57_5)]) (_ : va_P (dC, dI) vwCl (cW ad cI cJ n t P HT RK GP sm F T (kpm GP M L0) (cpy ST P k) (nI L0) (nI mm) E) H) (_ : va_D A (cW ad cI cJ n t P HT RK GP sm F T (kpm GP M L0) (cpy ST P k) (nI L0) (nI mm) E)) (_ : va_S A s.heap H locs), W p l e (headSpec wsX4_keep ({ frames := 1, cells := 0, slots := 0, locals := 21 })).room s m ([.ref (ad 7), .int (nI L0), .int (nI mm), .ref (ad 1), .ref (ad 3)] : List Value).toArray below meth c H locs 0 0 (MQ below (wr_Q (dC, dI) A (fun r W1 => r = none ∧ W1 = (cW ad cI cJ n t P HT RK GP sm F T (kpm GP M L0) (cpy ST P 16) (nI L0) (nI mm) E))) ([.ref (ad 7), .int (nI L0), .int (nI mm), .ref (ad 1), .ref (ad 3)] : List Value).toArray s 0 0 A) (F0 m 57 ls []) := by
      intro n_57
      induction n_57 with
      | zero => intros; omega
      | succ n_57 ih_57 =>
        rintro k v57_5 ls H locs hk hn_57 rfl hl hP hD hS
        refine lv_iload hx hb dX4_keep_57 (lv_at hl 2 rfl) ?_
        refine lv_aload_n hx hb dX4_keep_59 rfl (lv_at hl 0 rfl) ?_
        refine va_get (D := (dC, dI)) (ci := 4) (v := .ref (ad 11)) (C := RX4) (T := TX4) (N := 6) hx hb hts hinX4 hown hK hP 7 rfl rfl 3 (by decide) (hts (.fieldLink RX4 21 "ReshuffleSearch$Way" "start" "[I") (by decide +kernel)) (fun _ h9 => h9) rfl dX4_keep_60 ?_
        refine va_alen (v := nI 16) hx hb hK hP 11 0 rfl rfl rfl dX4_keep_63 ?_
        refine wk_icmp_ge (tgt := 91) hx hb (by omega) (by omega) dX4_keep_64 (by decide) (fun c_64 => ?_) (fun c_64 => ?_)
        · exact W.vret hx hb hr (fun t9 ht hW => ⟨none, (cW ad cI cJ n t P HT RK GP sm F T (kpm GP M L0) (cpy ST P k) (nI L0) (nI mm) E), rfl, ⟨rfl, by rw [show k = 16 by omega]⟩, by rw [ht]; exact hP, hD, hS.F ht⟩) hS.2.2 dX4_keep_91
        · refine lv_iload hx hb dX4_keep_67 (lv_at hl 2 rfl) ?_
          refine lv_aload_n hx hb dX4_keep_69 rfl (lv_at hl 1 rfl) ?_
          refine va_alen (v := nI 16) hx hb hK hP 1 0 rfl rfl rfl dX4_keep_70 ?_
          refine wk_icmp_ge (tgt := 91) hx hb (by omega) (by omega) dX4_keep_71 (by decide) (fun c_71 => ?_) (fun c_71 => ?_)
          · exact W.vret hx hb hr (fun t9 ht hW => ⟨none, (cW ad cI cJ n t P HT RK GP sm F T (kpm GP M L0) (cpy ST P k) (nI L0) (nI mm) E), rfl, ⟨rfl, by rw [show k = 16 by omega]⟩, by rw [ht]; exact hP, hD, hS.F ht⟩) hS.2.2 dX4_keep_91
          · refine lv_aload_n hx hb dX4_keep_74 rfl (lv_at hl 0 rfl) ?_
            refine va_get (D := (dC, dI)) (ci := 4) (v := .ref (ad 11)) (C := RX4) (T := TX4) (N := 6) hx hb hts hinX4 hown hK hP 7 rfl rfl 3 (by decide) (hts (.fieldLink RX4 21 "ReshuffleSearch$Way" "start" "[I") (by decide +kernel)) (fun _ h9 => h9) rfl dX4_keep_75 ?_
            refine lv_iload hx hb dX4_keep_78 (lv_at hl 2 rfl) ?_
            refine lv_aload_n hx hb dX4_keep_80 rfl (lv_at hl 1 rfl) ?_
            refine lv_iload hx hb dX4_keep_81 (lv_at hl 2 rfl) ?_
            refine wk_iald hx hb hK hP 1 0 rfl rfl (by omega) dX4_keep_83 ?_
            refine wk_iast hx hb hK hP hD hS 11 0 rfl rfl (by omega) dX4_keep_84 (fun H locs hP hD hS => ?_)
            have hP : va_P (dC, dI) vwCl (cW ad cI cJ n t P HT RK GP sm F T (kpm GP M L0) (upN (cpy ST P k) k (P k)) (nI L0) (nI mm) E) H := hP
            have hD : va_D A (cW ad cI cJ n t P HT RK GP sm F T (kpm GP M L0) (upN (cpy ST P k) k (P k)) (nI L0) (nI mm) E) := hD
            refine lv_iinc (v := nI (k + 1)) (lv' := [(5, .int (nI (k + 1))), (0, .ref (ad 7)), (3, .ref (ad 1))]) hx hb dX4_keep_85 hl (k := 2) rfl (wk_inc _ 1 rfl) (by decide) rfl (fun ls hl => ?_)
            refine lv_goto (tgt := 57) hx hb dX4_keep_88 (by decide) ?_
            exact ih_57 (k + 1) _ ls _ _ (by omega) (by omega) (rfl) (lv_sub hl [1, 2, 0] rfl) (hP) (hD) hS
    exact cut_57 (16 + 1) 0 _ ls _ _ (by omega) (by omega) (rfl) (lv_sub hl [1, 2, 0] rfl) (hP) (hD) hS
  refine lv_aload_n hx hb dX4_keep_0 rfl (lv_at hl 0 rfl) ?_
  refine lv_iload_n hx hb dX4_keep_1 rfl (lv_at hl 1 rfl) ?_
  refine va_put (D := (dC, dI)) (ci := 4) (v := .int (nI L0)) (ty := .int) (C := RX4) (T := TX4) (N := 6) hx hb hts hinX4 tyX4 tyX4_ok nmX4 hown hK hP hD hS 7 rfl rfl 4 (by decide) (hts (.fieldLink RX4 24 "ReshuffleSearch$Way" "length" "I") (by decide +kernel)) (fun _ h9 => h9) rfl (by decide +kernel) (rfl) (rfl) (Nat.le_of_ble_eq_true rfl) dX4_keep_2 (fun H locs hP hD hS => ?_)
  have hP : va_P (dC, dI) vwCl (cW ad cI cJ n t P HT RK GP sm F T M ST (nI L0) mn E) H := hP
  have hD : va_D A (cW ad cI cJ n t P HT RK GP sm F T M ST (nI L0) mn E) := hD
  refine lv_aload_n hx hb dX4_keep_5 rfl (lv_at hl 0 rfl) ?_
  refine lv_iload_n hx hb dX4_keep_6 rfl (lv_at hl 2 rfl) ?_
  refine va_put (D := (dC, dI)) (ci := 4) (v := .int (nI mm)) (ty := .int) (C := RX4) (T := TX4) (N := 6) hx hb hts hinX4 tyX4 tyX4_ok nmX4 hown hK hP hD hS 7 rfl rfl 5 (by decide) (hts (.fieldLink RX4 28 "ReshuffleSearch$Way" "manner" "I") (by decide +kernel)) (fun _ h9 => h9) rfl (by decide +kernel) (rfl) (rfl) (Nat.le_of_ble_eq_true rfl) dX4_keep_7 (fun H locs hP hD hS => ?_)
  have hP : va_P (dC, dI) vwCl (cW ad cI cJ n t P HT RK GP sm F T M ST (nI L0) (nI mm) E) H := hP
  have hD : va_D A (cW ad cI cJ n t P HT RK GP sm F T M ST (nI L0) (nI mm) E) := hD
  refine lv_iconst (v := nI 0) hx hb dX4_keep_10 (by decide +kernel) ?_
  refine lv_istore (lv' := [(5, .int (nI 0)), (0, .ref (ad 7)), (1, .int (nI L0)), (2, .int (nI mm)), (3, .ref (ad 1)), (4, .ref (ad 3))]) hx hb dX4_keep_11 hl (by decide) rfl (fun ls hl => ?_)
  have cut_13 : ∀ (n_13 : Nat) (k : Nat) (v13_5 : Int32) (ls : Array Slot) (H : Heap) (locs : List Loc) (hk : k ≤ L0) (hn_13 : L0 - k < n_13) (_ : v13_5 = nI k) (_ : lv_has ls 6 [(0, .ref (ad 7)), (3, .ref (ad 1)), (4, .ref (ad 3)), (5, .int v13_5)]) (_ : va_P (dC, dI) vwCl (cW ad cI cJ n t P HT RK GP sm F T (kpm GP M k) ST (nI L0) (nI mm) E) H) (_ : va_D A (cW ad cI cJ n t P HT RK GP sm F T (kpm GP M k) ST (nI L0) (nI mm) E)) (_ : va_S A s.heap H locs), W p l e (headSpec wsX4_keep ({ frames := 1, cells := 0, slots := 0, locals := 21 })).room s m ([.ref (ad 7), .int (nI L0), .int (nI mm), .ref (ad 1), .ref (ad 3)] : List Value).toArray below meth c H locs 0 0 (MQ below (wr_Q (dC, dI) A (fun r W1 => r = none ∧ W1 = (cW ad cI cJ n t P HT RK GP sm F T (kpm GP M L0) (cpy ST P 16) (nI L0) (nI mm) E))) ([.ref (ad 7), .int (nI L0), .int (nI mm), .ref (ad 1), .ref (ad 3)] : List Value).toArray s 0 0 A) (F0 m 13 ls []) := by
    intro n_13
    induction n_13 with
    | zero => intros; omega
    | succ n_13 ih_13 =>
      rintro k v13_5 ls H locs hk hn_13 rfl hl hP hD hS
      have hq := kpm_k GP M k k (Nat.le_refl k)
      have hq2 := hM0 k
      refine lv_iload hx hb dX4_keep_13 (lv_at hl 3 rfl) ?_
      refine lv_aload_n hx hb dX4_keep_15 rfl (lv_at hl 0 rfl) ?_
      refine va_get (D := (dC, dI)) (ci := 4) (v := .int (nI L0)) (C := RX4) (T := TX4) (N := 6) hx hb hts hinX4 hown hK hP 7 rfl rfl 4 (by decide) (hts (.fieldLink RX4 24 "ReshuffleSearch$Way" "length" "I") (by decide +kernel)) (fun _ h9 => h9) rfl dX4_keep_16 ?_
      refine wk_icmp_ge (tgt := 54) hx hb (by omega) (by omega) dX4_keep_19 (by decide) (fun c_19 => ?_) (fun c_19 => ?_)
      · exact cut_54 ls _ _ (lv_sub hl [0, 1] rfl) (by rw [show L0 = k by omega]; rw [show L0 = k by omega] at hP; exact hP) (by rw [show L0 = k by omega]; rw [show L0 = k by omega] at hD; exact hD) hS
      · refine lv_iload hx hb dX4_keep_22 (lv_at hl 3 rfl) ?_
        refine lv_bipush (v := nI 30) hx hb dX4_keep_24 (by decide +kernel) ?_
        refine wk_icmp_ge (tgt := 54) hx hb (by omega) (by omega) dX4_keep_26 (by decide) (fun c_26 => ?_) (fun c_26 => ?_)
        · exact (by exfalso; omega)
        · refine lv_aload_n hx hb dX4_keep_29 rfl (lv_at hl 0 rfl) ?_
          refine va_get (D := (dC, dI)) (ci := 4) (v := .ref (ad 10)) (C := RX4) (T := TX4) (N := 6) hx hb hts hinX4 hown hK hP 7 rfl rfl 2 (by decide) (hts (.fieldLink RX4 18 "ReshuffleSearch$Way" "group" "[I") (by decide +kernel)) (fun _ h9 => h9) rfl dX4_keep_30 ?_
          refine lv_iload hx hb dX4_keep_33 (lv_at hl 3 rfl) ?_
          refine lv_aload hx hb dX4_keep_35 (lv_at hl 2 rfl) ?_
          refine lv_aload_n hx hb dX4_keep_37 rfl (lv_at hl 0 rfl) ?_
          refine va_get (D := (dC, dI)) (ci := 4) (v := .ref (ad 10)) (C := RX4) (T := TX4) (N := 6) hx hb hts hinX4 hown hK hP 7 rfl rfl 2 (by decide) (hts (.fieldLink RX4 18 "ReshuffleSearch$Way" "group" "[I") (by decide +kernel)) (fun _ h9 => h9) rfl dX4_keep_38 ?_
          refine lv_iload hx hb dX4_keep_41 (lv_at hl 3 rfl) ?_
          refine wk_iald hx hb hK hP 10 0 rfl rfl (by omega) dX4_keep_43 ?_
          refine pu_go (va_runV (As := [.int (nI ((kpm GP M k) k))]) (rest := [.int (nI k), .ref (ad 10)]) ⟨hx, hb, hml, hown, hts⟩ (c_X1_groupOf l dC dI ad cI cJ n t P HT RK GP sm F T (kpm GP M k) ST (nI L0) (nI mm) E ((kpm GP M k) k) (by first | omega | exact hM0 _)) (cwV 1 hts gX4_keep_X1_groupOf rfl rfl rfl (by decide +kernel) ⟨Nat.le_of_ble_eq_true rfl, Nat.le_of_ble_eq_true rfl⟩) ⟨rc_blind, va_recv hK hP (ci := 2) (q0 := 3) rfl rfl, fun U hU hW => ⟨rfl, by rw [hU]; exact hP, va_K.moved hW.alike hK, nst_warm hW hN⟩⟩ rfl rfl hl.1 rfl (lv_room (Nat.le_of_ble_eq_true rfl)) dX4_keep_44 ⟨Nat.le_refl _, Nat.le_refl _⟩) ?_
          refine wk_iast hx hb hK hP hD hS 10 0 rfl rfl (by omega) dX4_keep_47 (fun H locs hP hD hS => ?_)
          have hP : va_P (dC, dI) vwCl (cW ad cI cJ n t P HT RK GP sm F T (upN (kpm GP M k) k (gpc GP ((kpm GP M k) k))) ST (nI L0) (nI mm) E) H := hP
          have hD : va_D A (cW ad cI cJ n t P HT RK GP sm F T (upN (kpm GP M k) k (gpc GP ((kpm GP M k) k))) ST (nI L0) (nI mm) E) := hD
          refine lv_iinc (v := nI (k + 1)) (lv' := [(5, .int (nI (k + 1))), (0, .ref (ad 7)), (3, .ref (ad 1)), (4, .ref (ad 3))]) hx hb dX4_keep_48 hl (k := 3) rfl (wk_inc _ 1 rfl) (by decide) rfl (fun ls hl => ?_)
          refine lv_goto (tgt := 13) hx hb dX4_keep_51 (by decide) ?_
          exact ih_13 (k + 1) _ ls _ _ (by omega) (by omega) (rfl) (lv_sub hl [1, 2, 3, 0] rfl) (hP) (hD) hS
  exact cut_13 (L0 + 1) 0 _ ls _ _ (by omega) (by omega) (rfl) (lv_sub hl [1, 4, 5, 0] rfl) (hP) (hD) hS
set_option maxHeartbeats 4000000 in
set_option maxRecDepth 100000 in
theorem c_X1_learn (l : Launch) (dC : Nat → ClassId) (dI : Nat → Nat → Nat) (ad : Nat → Nat) (cI cJ : ClassId) (n t : Nat) (P HT RK GP : Nat → Nat) (sm : Int32) (F T M ST : Nat → Nat) (ln mn : Int32) (E : Nat → Nat) (hP0 : ∀ j, P j < 2147483648) (hR0 : ∀ j, RK j < 8)  (sz : Nat) : Met l yX1_learn wsX1_learn ({ frames := 1, cells := 0, slots := 0, locals := 23 }) (va_Pc [.ref (ad 3), .ref (ad 1)] (wc_P (dC, dI) [(cI, .int), (cJ, .long)] (cW ad cI cJ n t P HT RK GP sm F T M ST ln mn E) sz)) (wr_Q (dC, dI) (va_A (cW ad cI cJ n t P HT RK GP sm F T M ST ln mn E) sz) (fun r W1 => r = none ∧ W1 = (cW ad cI cJ n t P HT ((lrn P RK GP).2.1) ((lrn P RK GP).2.2) sm F T M ST ln mn E))) 0 0 (va_A (cW ad cI cJ n t P HT RK GP sm F T M ST ln mn E) sz) := by
  refine Met.ofW (cc := cX1_learn) (maxL := 6) (ret := none) (by decide) rfl ?_
  intro p e s m args below meth c s₁ B hml hv
  obtain ⟨rfl, ⟨hsz, hP, hK, hD0⟩, hN⟩ := hv
  have hx := B.exec
  have hb := B.bytes
  have hr := B.returns
  have hts := atoms_spec (ws := wsX1_learn) B.pre
  have hown : s.vm.findClass RX1 = some m.cls := findClass_of_methodNamed B.named
  have hlocks := B.notSynchronized
  have hinX1 : ∀ w ∈ u_ws RX1 TX1 2, w ∈ wsX1_learn := by decide +kernel
  subst hsz
  have hD := hD0.self (sz := s.heap.size)
  generalize hAe : va_A (cW ad cI cJ n t P HT RK GP sm F T M ST ln mn E) s.heap.size = A at hD ⊢
  have hA : ∀ q : Nat, s.heap.size ≤ q → A q := fun q h => by rw [← hAe]; exact Or.inr h
  have hS : va_S A s.heap s.heap [] := va_S.rf
  have hl := lv_entry ([.ref (ad 3), .ref (ad 1)]) (n := 6) (Nat.le_of_ble_eq_true rfl)
  rw [lg_entry_eq]
  generalize (lg_sl ([.ref (ad 3), .ref (ad 1)]) ++ List.replicate (6 - (lg_sl ([.ref (ad 3), .ref (ad 1)])).length) Slot.unset).toArray = ls at hl ⊢
  have hl : lv_has ls 6 [(0, .ref (ad 3)), (1, .ref (ad 1))] := hl
  refine lv_aload_n hx hb dX1_learn_0 rfl (lv_at hl 0 rfl) ?_
  refine va_get (D := (dC, dI)) (ci := 2) (v := .ref (ad 4)) (C := RX1) (T := TX1) (N := 2) hx hb hts hinX1 hown hK hP 3 rfl rfl 0 (by decide) (hts (.fieldLink RX1 9 "ReshuffleSearch$Ranks" "rank" "[I") (by decide +kernel)) (fun _ h9 => h9) rfl dX1_learn_1 ?_
  refine lv_iconst (v := nI 0) hx hb dX1_learn_4 (by decide +kernel) ?_
  have hFc := va_free (wc := (cW ad cI cJ n t P HT RK GP sm F T M ST ln mn E)) hD hS hA [0, 1, 2, 3, 4, 5, 6, 7, 8, 9, 10, 11, 12, 13] rfl
  refine wr_go (va_runS (As := [.ref (ad 4), .int (nI 0)]) (rest := []) ⟨hx, hb, hml, hown, hts⟩ (c_J7_fill_53178 l dC dI ad cI cJ n t P HT RK GP sm F T M ST ln mn E 0 s.heap.size) (va_cwS 2 hts gX1_learn_J7_fill_53178 rfl rfl rfl (by decide +kernel) ⟨Nat.le_of_ble_eq_true rfl, Nat.le_of_ble_eq_true rfl⟩) ⟨wc_blind, fun U hU hW => ⟨rfl, ⟨by rw [hU], by rw [hU]; exact hP, va_K.moved hW.alike hK, hD.weaken (fun _ _ _ _ => trivial)⟩, nst_warm hW hN⟩⟩ rfl rfl hl.1 rfl (lv_room (Nat.le_of_ble_eq_true rfl)) dX1_learn_5 ⟨Nat.le_refl _, Nat.le_refl _⟩) hS hFc hFc (fun r9 W9 H locs hpost hP hD9 hz9 hk9 hS => ?_)
  have hD := hD9.weaken (fun _ _ _ h => hFc _ h)
  obtain ⟨rfl, rfl⟩ := hpost
  have hP : va_P (dC, dI) vwCl (cW ad cI cJ n t P HT (zr 21 0 RK) GP sm F T M ST ln mn E) H := hP
  have hD : va_D A (cW ad cI cJ n t P HT (zr 21 0 RK) GP sm F T M ST ln mn E) := hD
  refine W.eq (g2 := F0 m 8 ls []) rfl ?_
  refine lv_aload_n hx hb dX1_learn_8 rfl (lv_at hl 1 rfl) ?_
  refine lv_astore_n (lv' := [(2, .ref (ad 1)), (0, .ref (ad 3)), (1, .ref (ad 1))]) hx hb dX1_learn_9 rfl hl (by decide) rfl (fun ls hl => ?_)
  refine lv_aload_n hx hb dX1_learn_10 rfl (lv_at hl 0 rfl) ?_
  refine va_alen (v := nI 16) hx hb hK hP 1 0 rfl rfl rfl dX1_learn_11 ?_
  refine lv_istore_n (lv' := [(3, .int (nI 16)), (2, .ref (ad 1)), (0, .ref (ad 3)), (1, .ref (ad 1))]) hx hb dX1_learn_12 rfl hl (by decide) rfl (fun ls hl => ?_)
  refine lv_iconst (v := nI 0) hx hb dX1_learn_13 (by decide +kernel) ?_
  refine lv_istore (lv' := [(4, .int (nI 0)), (3, .int (nI 16)), (2, .ref (ad 1)), (0, .ref (ad 3)), (1, .ref (ad 1))]) hx hb dX1_learn_14 hl (by decide) rfl (fun ls hl => ?_)
  have cut_16 : ∀ (n_16 : Nat) (k : Nat) (v16_3 : Int32) (v16_4 : Int32) (ls : Array Slot) (H : Heap) (locs : List Loc) (hk : k ≤ 16) (hn_16 : 16 - k < n_16) (_ : v16_3 = nI 16) (_ : v16_4 = nI k) (_ : lv_has ls 6 [(0, .ref (ad 3)), (2, .ref (ad 1)), (3, .int v16_3), (4, .int v16_4)]) (_ : va_P (dC, dI) vwCl (cW ad cI cJ n t P HT (lr1 P (zr 21 0 RK) k) GP sm F T M ST ln mn E) H) (_ : va_D A (cW ad cI cJ n t P HT (lr1 P (zr 21 0 RK) k) GP sm F T M ST ln mn E)) (_ : va_S A s.heap H locs), W p l e (headSpec wsX1_learn ({ frames := 1, cells := 0, slots := 0, locals := 23 })).room s m ([.ref (ad 3), .ref (ad 1)] : List Value).toArray below meth c H locs 0 0 (MQ below (wr_Q (dC, dI) A (fun r W1 => r = none ∧ W1 = (cW ad cI cJ n t P HT ((lrn P RK GP).2.1) ((lrn P RK GP).2.2) sm F T M ST ln mn E))) ([.ref (ad 3), .ref (ad 1)] : List Value).toArray s 0 0 A) (F0 m 16 ls []) := by
    intro n_16
    induction n_16 with
    | zero => intros; omega
    | succ n_16 ih_16 =>
      rintro k v16_3 v16_4 ls H locs hk hn_16 rfl rfl hl hP hD hS
      refine lv_iload hx hb dX1_learn_16 (lv_at hl 3 rfl) ?_
      refine lv_iload_n hx hb dX1_learn_18 rfl (lv_at hl 2 rfl) ?_
      refine wk_icmp_ge (tgt := 57) hx hb (by omega) (by omega) dX1_learn_19 (by decide) (fun c_19 => ?_) (fun c_19 => ?_)
      · have hk16 : k = 16 := by omega
        rw [hk16] at hP hD hl
        have hl : lv_has ls 6 [(0, .ref (ad 3)), (2, .ref (ad 1)), (3, .int (nI 16)), (4, .int (nI 16))] := by exact hl
        refine lv_iconst (v := nI 0) hx hb dX1_learn_57 (by decide +kernel) ?_
        refine lv_istore_n (lv' := [(2, .int (nI 0)), (0, .ref (ad 3)), (3, .int (nI 16)), (4, .int (nI 16))]) hx hb dX1_learn_58 rfl hl (by decide) rfl (fun ls hl => ?_)
        refine lv_iconst (v := nI 1) hx hb dX1_learn_59 (by decide +kernel) ?_
        refine lv_istore_n (lv' := [(3, .int (nI 1)), (2, .int (nI 0)), (0, .ref (ad 3)), (4, .int (nI 16))]) hx hb dX1_learn_60 rfl hl (by decide) rfl (fun ls hl => ?_)
        have cut_61 : ∀ (n_61 : Nat) (k : Nat) (v61_2 : Int32) (v61_3 : Int32) (ls : Array Slot) (H : Heap) (locs : List Loc) (hk : k ≤ 20) (hn_61 : 20 - k < n_61) (_ : v61_2 = nI ((lr2 (lr1 P (zr 21 0 RK) 16) GP k).1)) (_ : v61_3 = nI (k + 1)) (_ : lv_has ls 6 [(0, .ref (ad 3)), (2, .int v61_2), (3, .int v61_3)]) (_ : va_P (dC, dI) vwCl (cW ad cI cJ n t P HT ((lr2 (lr1 P (zr 21 0 RK) 16) GP k).2.1) ((lr2 (lr1 P (zr 21 0 RK) 16) GP k).2.2) sm F T M ST ln mn E) H) (_ : va_D A (cW ad cI cJ n t P HT ((lr2 (lr1 P (zr 21 0 RK) 16) GP k).2.1) ((lr2 (lr1 P (zr 21 0 RK) 16) GP k).2.2) sm F T M ST ln mn E)) (_ : va_S A s.heap H locs), W p l e (headSpec wsX1_learn ({ frames := 1, cells := 0, slots := 0, locals := 23 })).room s m ([.ref (ad 3), .ref (ad 1)] : List Value).toArray below meth c H locs 0 0 (MQ below (wr_Q (dC, dI) A (fun r W1 => r = none ∧ W1 = (cW ad cI cJ n t P HT ((lrn P RK GP).2.1) ((lrn P RK GP).2.2) sm F T M ST ln mn E))) ([.ref (ad 3), .ref (ad 1)] : List Value).toArray s 0 0 A) (F0 m 61 ls []) := by
          intro n_61
          induction n_61 with
          | zero => intros; omega
          | succ n_61 ih_61 =>
            rintro k v61_2 v61_3 ls H locs hk hn_61 rfl rfl hl hP hD hS
            have hq1 := lr2_le (lr1 P (zr 21 0 RK) 16) GP k
            have hq2 := lr2_lt (R1 := lr1 P (zr 21 0 RK) 16) (G0 := GP) (fun j => lr1_lt (P := P) (zr_lt hR0) 16 j) k (k + 1)
            refine lv_iload_n hx hb dX1_learn_61 rfl (lv_at hl 2 rfl) ?_
            refine lv_aload_n hx hb dX1_learn_62 rfl (lv_at hl 0 rfl) ?_
            refine va_get (D := (dC, dI)) (ci := 2) (v := .ref (ad 4)) (C := RX1) (T := TX1) (N := 2) hx hb hts hinX1 hown hK hP 3 rfl rfl 0 (by decide) (hts (.fieldLink RX1 9 "ReshuffleSearch$Ranks" "rank" "[I") (by decide +kernel)) (fun _ h9 => h9) rfl dX1_learn_63 ?_
            refine va_alen (v := nI 21) hx hb hK hP 4 0 rfl rfl rfl dX1_learn_66 ?_
            refine wk_icmp_ge (tgt := 113) hx hb (by omega) (by omega) dX1_learn_67 (by decide) (fun c_67 => ?_) (fun c_67 => ?_)
            · exact W.vret hx hb hr (fun t9 ht hW => ⟨none, (cW ad cI cJ n t P HT ((lr2 (lr1 P (zr 21 0 RK) 16) GP k).2.1) ((lr2 (lr1 P (zr 21 0 RK) 16) GP k).2.2) sm F T M ST ln mn E), rfl, ⟨rfl, by unfold lrn; rw [show k = 20 by omega]⟩, by rw [ht]; exact hP, hD, hS.F ht⟩) hS.2.2 dX1_learn_113
            · have cut_107 : ∀ (v107_2 : Int32) (v107_3 : Int32) (ls : Array Slot) (H : Heap) (locs : List Loc) (_ : v107_2 = nI ((lr2 (lr1 P (zr 21 0 RK) 16) GP (k + 1)).1)) (_ : v107_3 = nI (k + 1)) (_ : lv_has ls 6 [(0, .ref (ad 3)), (2, .int v107_2), (3, .int v107_3)]) (_ : va_P (dC, dI) vwCl (cW ad cI cJ n t P HT ((lr2 (lr1 P (zr 21 0 RK) 16) GP (k + 1)).2.1) ((lr2 (lr1 P (zr 21 0 RK) 16) GP (k + 1)).2.2) sm F T M ST ln mn E) H) (_ : va_D A (cW ad cI cJ n t P HT ((lr2 (lr1 P (zr 21 0 RK) 16) GP (k + 1)).2.1) ((lr2 (lr1 P (zr 21 0 RK) 16) GP (k + 1)).2.2) sm F T M ST ln mn E)) (_ : va_S A s.heap H locs), W p l e (headSpec wsX1_learn ({ frames := 1, cells := 0, slots := 0, locals := 23 })).room s m ([.ref (ad 3), .ref (ad 1)] : List Value).toArray below meth c H locs 0 0 (MQ below (wr_Q (dC, dI) A (fun r W1 => r = none ∧ W1 = (cW ad cI cJ n t P HT ((lrn P RK GP).2.1) ((lrn P RK GP).2.2) sm F T M ST ln mn E))) ([.ref (ad 3), .ref (ad 1)] : List Value).toArray s 0 0 A) (F0 m 107 ls []) := by
                rintro v107_2 v107_3 ls H locs rfl rfl hl hP hD hS
                refine lv_iinc (v := nI ((k + 1) + 1)) (lv' := [(3, .int (nI ((k + 1) + 1))), (0, .ref (ad 3)), (2, .int (nI ((lr2 (lr1 P (zr 21 0 RK) 16) GP (k + 1)).1)))]) hx hb dX1_learn_107 hl (k := 2) rfl (wk_inc _ 1 rfl) (by decide) rfl (fun ls hl => ?_)
                refine lv_goto (tgt := 61) hx hb dX1_learn_110 (by decide) ?_
                exact ih_61 (k + 1) _ _ ls _ _ (by omega) (by omega) (rfl) (rfl) (lv_sub hl [1, 2, 0] rfl) (hP) (hD) hS
              refine lv_aload_n hx hb dX1_learn_70 rfl (lv_at hl 0 rfl) ?_
              refine va_get (D := (dC, dI)) (ci := 2) (v := .ref (ad 4)) (C := RX1) (T := TX1) (N := 2) hx hb hts hinX1 hown hK hP 3 rfl rfl 0 (by decide) (hts (.fieldLink RX1 9 "ReshuffleSearch$Ranks" "rank" "[I") (by decide +kernel)) (fun _ h9 => h9) rfl dX1_learn_71 ?_
              refine lv_iload_n hx hb dX1_learn_74 rfl (lv_at hl 2 rfl) ?_
              refine wk_iald hx hb hK hP 4 0 rfl rfl (by omega) dX1_learn_75 ?_
              refine wk_if_eq (tgt := 107) hx hb (by omega) dX1_learn_76 (by decide) (fun c_76 => ?_) (fun c_76 => ?_)
              · exact cut_107 _ _ ls _ _ (by rw [lr2_s, if_neg (fun q => q.1 c_76)]) (rfl) (lv_sub hl [0, 1, 2] rfl) (by rw [lr2_s, if_neg (fun q => q.1 c_76)]; exact hP) (by rw [lr2_s, if_neg (fun q => q.1 c_76)]; exact hD) hS
              · refine lv_iload_n hx hb dX1_learn_79 rfl (lv_at hl 1 rfl) ?_
                refine lv_iconst (v := nI 1) hx hb dX1_learn_80 (by decide +kernel) ?_
                refine wk_iadd hx hb dX1_learn_81 ?_
                refine lv_aload_n hx hb dX1_learn_82 rfl (lv_at hl 0 rfl) ?_
                refine va_get (D := (dC, dI)) (ci := 2) (v := .ref (ad 5)) (C := RX1) (T := TX1) (N := 2) hx hb hts hinX1 hown hK hP 3 rfl rfl 1 (by decide) (hts (.fieldLink RX1 15 "ReshuffleSearch$Ranks" "group" "[I") (by decide +kernel)) (fun _ h9 => h9) rfl dX1_learn_83 ?_
                refine va_alen (v := nI 7) hx hb hK hP 5 0 rfl rfl rfl dX1_learn_86 ?_
                refine wk_icmp_ge (tgt := 107) hx hb (by omega) (by omega) dX1_learn_87 (by decide) (fun c_87 => ?_) (fun c_87 => ?_)
                · exact cut_107 _ _ ls _ _ (by rw [lr2_s, if_neg (by omega)]) (rfl) (lv_sub hl [0, 1, 2] rfl) (by rw [lr2_s, if_neg (by omega)]; exact hP) (by rw [lr2_s, if_neg (by omega)]; exact hD) hS
                · refine lv_iinc (v := nI (((lr2 (lr1 P (zr 21 0 RK) 16) GP k).1) + 1)) (lv' := [(2, .int (nI (((lr2 (lr1 P (zr 21 0 RK) 16) GP k).1) + 1))), (0, .ref (ad 3)), (3, .int (nI (k + 1)))]) hx hb dX1_learn_90 hl (k := 1) rfl (wk_inc _ 1 rfl) (by decide) rfl (fun ls hl => ?_)
                  refine lv_aload_n hx hb dX1_learn_93 rfl (lv_at hl 1 rfl) ?_
                  refine va_get (D := (dC, dI)) (ci := 2) (v := .ref (ad 4)) (C := RX1) (T := TX1) (N := 2) hx hb hts hinX1 hown hK hP 3 rfl rfl 0 (by decide) (hts (.fieldLink RX1 9 "ReshuffleSearch$Ranks" "rank" "[I") (by decide +kernel)) (fun _ h9 => h9) rfl dX1_learn_94 ?_
                  refine lv_iload_n hx hb dX1_learn_97 rfl (lv_at hl 2 rfl) ?_
                  refine lv_iload_n hx hb dX1_learn_98 rfl (lv_at hl 0 rfl) ?_
                  refine wk_iast hx hb hK hP hD hS 4 0 rfl rfl (by omega) dX1_learn_99 (fun H locs hP hD hS => ?_)
                  have hP : va_P (dC, dI) vwCl (cW ad cI cJ n t P HT (upN ((lr2 (lr1 P (zr 21 0 RK) 16) GP k).2.1) (k + 1) (((lr2 (lr1 P (zr 21 0 RK) 16) GP k).1) + 1)) ((lr2 (lr1 P (zr 21 0 RK) 16) GP k).2.2) sm F T M ST ln mn E) H := hP
                  have hD : va_D A (cW ad cI cJ n t P HT (upN ((lr2 (lr1 P (zr 21 0 RK) 16) GP k).2.1) (k + 1) (((lr2 (lr1 P (zr 21 0 RK) 16) GP k).1) + 1)) ((lr2 (lr1 P (zr 21 0 RK) 16) GP k).2.2) sm F T M ST ln mn E) := hD
                  refine lv_aload_n hx hb dX1_learn_100 rfl (lv_at hl 1 rfl) ?_
                  refine va_get (D := (dC, dI)) (ci := 2) (v := .ref (ad 5)) (C := RX1) (T := TX1) (N := 2) hx hb hts hinX1 hown hK hP 3 rfl rfl 1 (by decide) (hts (.fieldLink RX1 15 "ReshuffleSearch$Ranks" "group" "[I") (by decide +kernel)) (fun _ h9 => h9) rfl dX1_learn_101 ?_
                  refine lv_iload_n hx hb dX1_learn_104 rfl (lv_at hl 0 rfl) ?_
                  refine lv_iload_n hx hb dX1_learn_105 rfl (lv_at hl 2 rfl) ?_
                  refine wk_iast hx hb hK hP hD hS 5 0 rfl rfl (by omega) dX1_learn_106 (fun H locs hP hD hS => ?_)
                  have hP : va_P (dC, dI) vwCl (cW ad cI cJ n t P HT (upN ((lr2 (lr1 P (zr 21 0 RK) 16) GP k).2.1) (k + 1) (((lr2 (lr1 P (zr 21 0 RK) 16) GP k).1) + 1)) (upN ((lr2 (lr1 P (zr 21 0 RK) 16) GP k).2.2) (((lr2 (lr1 P (zr 21 0 RK) 16) GP k).1) + 1) (k + 1)) sm F T M ST ln mn E) H := hP
                  have hD : va_D A (cW ad cI cJ n t P HT (upN ((lr2 (lr1 P (zr 21 0 RK) 16) GP k).2.1) (k + 1) (((lr2 (lr1 P (zr 21 0 RK) 16) GP k).1) + 1)) (upN ((lr2 (lr1 P (zr 21 0 RK) 16) GP k).2.2) (((lr2 (lr1 P (zr 21 0 RK) 16) GP k).1) + 1) (k + 1)) sm F T M ST ln mn E) := hD
                  exact cut_107 _ _ ls _ _ (by rw [lr2_s, if_pos ⟨c_76, c_87⟩]) (rfl) (lv_sub hl [1, 0, 2] rfl) (by rw [lr2_s, if_pos ⟨c_76, c_87⟩]; exact hP) (by rw [lr2_s, if_pos ⟨c_76, c_87⟩]; exact hD) hS
        exact cut_61 (20 + 1) 0 _ _ ls _ _ (by omega) (by omega) (rfl) (rfl) (lv_sub hl [2, 1, 0] rfl) (hP) (hD) hS
      · refine lv_aload_n hx hb dX1_learn_22 rfl (lv_at hl 1 rfl) ?_
        refine lv_iload hx hb dX1_learn_23 (lv_at hl 3 rfl) ?_
        refine wk_iald hx hb hK hP 1 0 rfl rfl (by omega) dX1_learn_25 ?_
        refine lv_istore (lv' := [(5, .int (nI (P k))), (0, .ref (ad 3)), (2, .ref (ad 1)), (3, .int (nI 16)), (4, .int (nI k))]) hx hb dX1_learn_26 hl (by decide) rfl (fun ls hl => ?_)
        have cut_51 : ∀ (v51_3 : Int32) (v51_4 : Int32) (ls : Array Slot) (H : Heap) (locs : List Loc) (_ : v51_3 = nI 16) (_ : v51_4 = nI k) (_ : lv_has ls 6 [(0, .ref (ad 3)), (2, .ref (ad 1)), (3, .int v51_3), (4, .int v51_4)]) (_ : va_P (dC, dI) vwCl (cW ad cI cJ n t P HT (lr1 P (zr 21 0 RK) (k + 1)) GP sm F T M ST ln mn E) H) (_ : va_D A (cW ad cI cJ n t P HT (lr1 P (zr 21 0 RK) (k + 1)) GP sm F T M ST ln mn E)) (_ : va_S A s.heap H locs), W p l e (headSpec wsX1_learn ({ frames := 1, cells := 0, slots := 0, locals := 23 })).room s m ([.ref (ad 3), .ref (ad 1)] : List Value).toArray below meth c H locs 0 0 (MQ below (wr_Q (dC, dI) A (fun r W1 => r = none ∧ W1 = (cW ad cI cJ n t P HT ((lrn P RK GP).2.1) ((lrn P RK GP).2.2) sm F T M ST ln mn E))) ([.ref (ad 3), .ref (ad 1)] : List Value).toArray s 0 0 A) (F0 m 51 ls []) := by
          rintro v51_3 v51_4 ls H locs rfl rfl hl hP hD hS
          refine lv_iinc (v := nI (k + 1)) (lv' := [(4, .int (nI (k + 1))), (0, .ref (ad 3)), (2, .ref (ad 1)), (3, .int (nI 16))]) hx hb dX1_learn_51 hl (k := 3) rfl (wk_inc _ 1 rfl) (by decide) rfl (fun ls hl => ?_)
          refine lv_goto (tgt := 16) hx hb dX1_learn_54 (by decide) ?_
          exact ih_16 (k + 1) _ _ ls _ _ (by omega) (by omega) (rfl) (rfl) (lv_sub hl [1, 2, 3, 0] rfl) (hP) (hD) hS
        refine lv_iload hx hb dX1_learn_28 (lv_at hl 0 rfl) ?_
        refine wk_if_le (tgt := 51) hx hb (hP0 _) dX1_learn_30 (by decide) (fun c_30 => ?_) (fun c_30 => ?_)
        · exact cut_51 _ _ ls _ _ (rfl) (rfl) (lv_sub hl [1, 2, 3, 4] rfl) (by rw [lr1_s, if_neg (by omega)]; exact hP) (by rw [lr1_s, if_neg (by omega)]; exact hD) hS
        · refine lv_iload hx hb dX1_learn_33 (lv_at hl 0 rfl) ?_
          refine lv_aload_n hx hb dX1_learn_35 rfl (lv_at hl 1 rfl) ?_
          refine va_get (D := (dC, dI)) (ci := 2) (v := .ref (ad 4)) (C := RX1) (T := TX1) (N := 2) hx hb hts hinX1 hown hK hP 3 rfl rfl 0 (by decide) (hts (.fieldLink RX1 9 "ReshuffleSearch$Ranks" "rank" "[I") (by decide +kernel)) (fun _ h9 => h9) rfl dX1_learn_36 ?_
          refine va_alen (v := nI 21) hx hb hK hP 4 0 rfl rfl rfl dX1_learn_39 ?_
          refine wk_icmp_ge (tgt := 51) hx hb (hP0 _) (by omega) dX1_learn_40 (by decide) (fun c_40 => ?_) (fun c_40 => ?_)
          · exact cut_51 _ _ ls _ _ (rfl) (rfl) (lv_sub hl [1, 2, 3, 4] rfl) (by rw [lr1_s, if_neg (by omega)]; exact hP) (by rw [lr1_s, if_neg (by omega)]; exact hD) hS
          · refine lv_aload_n hx hb dX1_learn_43 rfl (lv_at hl 1 rfl) ?_
            refine va_get (D := (dC, dI)) (ci := 2) (v := .ref (ad 4)) (C := RX1) (T := TX1) (N := 2) hx hb hts hinX1 hown hK hP 3 rfl rfl 0 (by decide) (hts (.fieldLink RX1 9 "ReshuffleSearch$Ranks" "rank" "[I") (by decide +kernel)) (fun _ h9 => h9) rfl dX1_learn_44 ?_
            refine lv_iload hx hb dX1_learn_47 (lv_at hl 0 rfl) ?_
            refine lv_iconst (v := nI 1) hx hb dX1_learn_49 (by decide +kernel) ?_
            refine wk_iast hx hb hK hP hD hS 4 0 rfl rfl (by omega) dX1_learn_50 (fun H locs hP hD hS => ?_)
            have hP : va_P (dC, dI) vwCl (cW ad cI cJ n t P HT (upN (lr1 P (zr 21 0 RK) k) (P k) 1) GP sm F T M ST ln mn E) H := hP
            have hD : va_D A (cW ad cI cJ n t P HT (upN (lr1 P (zr 21 0 RK) k) (P k) 1) GP sm F T M ST ln mn E) := hD
            exact cut_51 _ _ ls _ _ (rfl) (rfl) (lv_sub hl [1, 2, 3, 4] rfl) (by rw [lr1_s, if_pos (by omega)]; exact hP) (by rw [lr1_s, if_pos (by omega)]; exact hD) hS
  exact cut_16 (16 + 1) 0 _ _ ls _ _ (by omega) (by omega) (rfl) (rfl) (lv_sub hl [3, 2, 1, 0] rfl) (hP) (hD) hS
