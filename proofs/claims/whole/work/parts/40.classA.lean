theorem sz_nat {i : Int32} (h : ¬ i < nI 2) : i = nI i.toNatClampNeg := by
  have h0 : ¬ i < 0 := fun q => h (by
    rw [Int32.lt_iff_toInt_lt] at q ⊢
    have a1 : (nI 2).toInt = 2 := by decide
    have a2 : (0 : Int32).toInt = 0 := by decide
    omega)
  obtain ⟨j, hj, rfl⟩ := nI_of h0
  rw [nI_clamp hj]
set_option maxHeartbeats 4000000 in
set_option maxRecDepth 100000 in
theorem c_X6_sizeOf (l : Launch) (i : Int32) : Met l yX6_sizeOf wsX6_sizeOf ({ frames := 0, cells := 0, slots := 0, locals := 0 }) (va_Pc [.int i] (fun _ => True)) (pu_Q (.int (nI (szv i)))) 0 0 (fun _ => False) := by
  refine Met.ofW (cc := cX6_sizeOf) (maxL := 1) (ret := (some .int)) (by decide) rfl ?_
  intro p e s m args below meth c s₁ B hml hv
  obtain ⟨rfl, -⟩ := hv
  have hx := B.exec
  have hb := B.bytes
  have hr := B.returns
  have hts := atoms_spec (ws := wsX6_sizeOf) B.pre
  have hown : s.vm.findClass RX6 = some m.cls := findClass_of_methodNamed B.named
  have hlocks := B.notSynchronized
  have hl := lv_entry ([.int i]) (n := 1) (Nat.le_of_ble_eq_true rfl)
  rw [lg_entry_eq]
  generalize (lg_sl ([.int i]) ++ List.replicate (1 - (lg_sl ([.int i])).length) Slot.unset).toArray = ls at hl ⊢
  have hl : lv_has ls 1 [(0, .int i)] := hl
  refine lv_iload_n hx hb dX6_sizeOf_0 rfl (lv_at hl 0 rfl) ?_
  refine lv_iconst (v := nI 2) hx hb dX6_sizeOf_1 (by decide +kernel) ?_
  refine lv_icmp_lt (tgt := 14) hx hb dX6_sizeOf_2 (by decide) (fun c_2 => ?_) (fun c_2 => ?_)
  · refine lv_iconst (v := nI 3) hx hb dX6_sizeOf_14 (by decide +kernel) ?_
    refine wk_ti (v' := nI (szv i)) (by unfold szv; rw [if_neg (fun q => q.1 c_2)]) ?_
    exact W.iret hx hb hr (fun t9 ht _ => ⟨rfl, ht⟩) (fun _ h => nomatch h) dX6_sizeOf_15
  · refine lv_iload_n hx hb dX6_sizeOf_5 rfl (lv_at hl 0 rfl) ?_
    refine lv_iconst (v := nI 4) hx hb dX6_sizeOf_6 (by decide +kernel) ?_
    refine lv_icmp_gt (tgt := 14) hx hb dX6_sizeOf_7 (by decide) (fun c_7 => ?_) (fun c_7 => ?_)
    · refine lv_iconst (v := nI 3) hx hb dX6_sizeOf_14 (by decide +kernel) ?_
      refine wk_ti (v' := nI (szv i)) (by unfold szv; rw [if_neg (fun q => q.2 c_7)]) ?_
      exact W.iret hx hb hr (fun t9 ht _ => ⟨rfl, ht⟩) (fun _ h => nomatch h) dX6_sizeOf_15
    · refine lv_iload_n hx hb dX6_sizeOf_10 rfl (lv_at hl 0 rfl) ?_
      refine lv_goto (tgt := 15) hx hb dX6_sizeOf_11 (by decide) ?_
      refine wk_ti (v' := nI (szv i)) (by unfold szv; rw [if_pos ⟨c_2, c_7⟩]; exact sz_nat c_2) ?_
      exact W.iret hx hb hr (fun t9 ht _ => ⟨rfl, ht⟩) (fun _ h => nomatch h) dX6_sizeOf_15
set_option maxHeartbeats 4000000 in
set_option maxRecDepth 100000 in
theorem c_X6_travelOf (l : Launch) (a b : Nat) (ha0 : a < 1000000) (hb0 : b < 1000000) : Met l yX6_travelOf wsX6_travelOf ({ frames := 1, cells := 0, slots := 0, locals := 40 }) (va_Pc [.int (nI a), .int (nI b)] (fun _ => True)) (pu_Q (.int (nI (vtr a b)))) 0 0 (fun _ => False) := by
  refine Met.ofW (cc := cX6_travelOf) (maxL := 2) (ret := (some .int)) (by decide) rfl ?_
  intro p e s m args below meth c s₁ B hml hv
  obtain ⟨rfl, -⟩ := hv
  have hx := B.exec
  have hb := B.bytes
  have hr := B.returns
  have hts := atoms_spec (ws := wsX6_travelOf) B.pre
  have hown : s.vm.findClass RX6 = some m.cls := findClass_of_methodNamed B.named
  have hlocks := B.notSynchronized
  have hl := lv_entry ([.int (nI a), .int (nI b)]) (n := 2) (Nat.le_of_ble_eq_true rfl)
  rw [lg_entry_eq]
  generalize (lg_sl ([.int (nI a), .int (nI b)]) ++ List.replicate (2 - (lg_sl ([.int (nI a), .int (nI b)])).length) Slot.unset).toArray = ls at hl ⊢
  have hl : lv_has ls 2 [(0, .int (nI a)), (1, .int (nI b))] := hl
  refine lv_iconst (v := nI 2) hx hb dX6_travelOf_0 (by decide +kernel) ?_
  refine lv_iload_n hx hb dX6_travelOf_1 rfl (lv_at hl 0 rfl) ?_
  refine lv_iload_n hx hb dX6_travelOf_2 rfl (lv_at hl 1 rfl) ?_
  refine lv_isub hx hb dX6_travelOf_3 ?_
  refine va_mabs hx hb (by rw [hml]; exact hl.1.symm) hown (hts (.methodLink RX6 165 Lib.Math.abs.name) (by decide +kernel)) (hts (.static Lib.Math.abs.name) (by decide +kernel)) (hts (.initialized "java/lang/Math") (by decide +kernel)) (hts (.code Lib.Math.abs.name Lib.Math.abs.code 1 (some .int)) (by decide +kernel)) (Nat.le_of_ble_eq_true rfl) (Nat.le_of_ble_eq_true rfl) (Nat.le_refl _) (Nat.le_refl _) dX6_travelOf_4 ?_
  refine lv_iadd hx hb dX6_travelOf_7 ?_
  refine wk_ti (v' := nI (vtr a b)) (vtr_eq ha0 hb0) ?_
  exact W.iret hx hb hr (fun t9 ht _ => ⟨rfl, ht⟩) (fun _ h => nomatch h) dX6_travelOf_8
set_option maxHeartbeats 4000000 in
set_option maxRecDepth 100000 in
theorem c_X6_isStack (l : Launch) (dC : Nat → ClassId) (dI : Nat → Nat → Nat) (ad : Nat → Nat) (cI cJ : ClassId) (n t : Nat) (P HT RK GP : Nat → Nat) (sm : Int32) (F T M ST : Nat → Nat) (ln mn : Int32) (E : Nat → Nat) (i : Int32) : Met l yX6_isStack wsX6_isStack ({ frames := 0, cells := 0, slots := 0, locals := 0 }) (va_Pc [.ref (ad 0), .int i] (rc_P (dC, dI) [(cI, .int), (cJ, .long)] (cW ad cI cJ n t P HT RK GP sm F T M ST ln mn E))) (pu_Q (.int (nI (bn (¬ i < 0 ∧ i < nI n))))) 0 0 (fun _ => False) := by
  refine Met.ofW (cc := cX6_isStack) (maxL := 2) (ret := (some .boolean)) (by decide) rfl ?_
  intro p e s m args below meth c s₁ B hml hv
  obtain ⟨rfl, hP, hK, hN⟩ := hv
  have hx := B.exec
  have hb := B.bytes
  have hr := B.returns
  have hts := atoms_spec (ws := wsX6_isStack) B.pre
  have hown : s.vm.findClass RX6 = some m.cls := findClass_of_methodNamed B.named
  have hlocks := B.notSynchronized
  have hinX6 : ∀ w ∈ u_ws RX6 TX6 7, w ∈ wsX6_isStack := by decide +kernel
  have hl := lv_entry ([.ref (ad 0), .int i]) (n := 2) (Nat.le_of_ble_eq_true rfl)
  rw [lg_entry_eq]
  generalize (lg_sl ([.ref (ad 0), .int i]) ++ List.replicate (2 - (lg_sl ([.ref (ad 0), .int i])).length) Slot.unset).toArray = ls at hl ⊢
  have hl : lv_has ls 2 [(0, .ref (ad 0)), (1, .int i)] := hl
  refine lv_iload_n hx hb dX6_isStack_0 rfl (lv_at hl 1 rfl) ?_
  refine lv_if_lt (tgt := 16) hx hb dX6_isStack_1 (by decide) (fun c_1 => ?_) (fun c_1 => ?_)
  · refine lv_iconst (v := nI 0) hx hb dX6_isStack_16 (by decide +kernel) ?_
    refine wk_ti (v' := nI (bn (¬ i < 0 ∧ i < nI n))) (by rw [bn_f (by first | exact fun q => q.1 c_1 | exact fun q => Int32.not_le.mpr q.2 c_9)]) ?_
    exact W.zret hx hb hr (bn_nar _) (fun t9 ht _ => ⟨rfl, ht⟩) (fun _ h => nomatch h) dX6_isStack_17
  · refine lv_iload_n hx hb dX6_isStack_4 rfl (lv_at hl 1 rfl) ?_
    refine lv_aload_n hx hb dX6_isStack_5 rfl (lv_at hl 0 rfl) ?_
    refine va_get (D := (dC, dI)) (ci := 5) (v := .int (nI n)) (C := RX6) (T := TX6) (N := 7) hx hb hts hinX6 hown hK hP 0 rfl rfl 0 (by decide) (hts (.fieldLink RX6 13 "ReshuffleSearch" "stacks" "I") (by decide +kernel)) (fun _ h9 => h9) rfl dX6_isStack_6 ?_
    refine lv_icmp_ge (tgt := 16) hx hb dX6_isStack_9 (by decide) (fun c_9 => ?_) (fun c_9 => ?_)
    · refine lv_iconst (v := nI 0) hx hb dX6_isStack_16 (by decide +kernel) ?_
      refine wk_ti (v' := nI (bn (¬ i < 0 ∧ i < nI n))) (by rw [bn_f (by first | exact fun q => q.1 c_1 | exact fun q => Int32.not_le.mpr q.2 c_9)]) ?_
      exact W.zret hx hb hr (bn_nar _) (fun t9 ht _ => ⟨rfl, ht⟩) (fun _ h => nomatch h) dX6_isStack_17
    · refine lv_iconst (v := nI 1) hx hb dX6_isStack_12 (by decide +kernel) ?_
      refine lv_goto (tgt := 17) hx hb dX6_isStack_13 (by decide) ?_
      refine wk_ti (v' := nI (bn (¬ i < 0 ∧ i < nI n))) (by rw [bn_t ⟨c_1, Int32.not_le.mp c_9⟩]) ?_
      exact W.zret hx hb hr (bn_nar _) (fun t9 ht _ => ⟨rfl, ht⟩) (fun _ h => nomatch h) dX6_isStack_17
set_option maxHeartbeats 4000000 in
set_option maxRecDepth 100000 in
theorem c_X6_boxes (l : Launch) (dC : Nat → ClassId) (dI : Nat → Nat → Nat) (ad : Nat → Nat) (cI cJ : ClassId) (n t : Nat) (P HT RK GP : Nat → Nat) (sm : Int32) (F T M ST : Nat → Nat) (ln mn : Int32) (E : Nat → Nat) (hn0 : 2 ≤ n ∧ n ≤ 4)  : Met l yX6_boxes wsX6_boxes ({ frames := 0, cells := 0, slots := 0, locals := 0 }) (va_Pc [.ref (ad 0)] (rc_P (dC, dI) [(cI, .int), (cJ, .long)] (cW ad cI cJ n t P HT RK GP sm F T M ST ln mn E))) (pu_Q (.int (nI (hsum HT n)))) 0 0 (fun _ => False) := by
  refine Met.ofW (cc := cX6_boxes) (maxL := 3) (ret := (some .int)) (by decide) rfl ?_
  intro p e s m args below meth c s₁ B hml hv
  obtain ⟨rfl, hP, hK, hN⟩ := hv
  have hx := B.exec
  have hb := B.bytes
  have hr := B.returns
  have hts := atoms_spec (ws := wsX6_boxes) B.pre
  have hown : s.vm.findClass RX6 = some m.cls := findClass_of_methodNamed B.named
  have hlocks := B.notSynchronized
  have hinX6 : ∀ w ∈ u_ws RX6 TX6 7, w ∈ wsX6_boxes := by decide +kernel
  have hl := lv_entry ([.ref (ad 0)]) (n := 3) (Nat.le_of_ble_eq_true rfl)
  rw [lg_entry_eq]
  generalize (lg_sl ([.ref (ad 0)]) ++ List.replicate (3 - (lg_sl ([.ref (ad 0)])).length) Slot.unset).toArray = ls at hl ⊢
  have hl : lv_has ls 3 [(0, .ref (ad 0))] := hl
  refine lv_iconst (v := nI 0) hx hb dX6_boxes_0 (by decide +kernel) ?_
  refine lv_istore_n (lv' := [(1, .int (nI 0)), (0, .ref (ad 0))]) hx hb dX6_boxes_1 rfl hl (by decide) rfl (fun ls hl => ?_)
  refine lv_iconst (v := nI 0) hx hb dX6_boxes_2 (by decide +kernel) ?_
  refine lv_istore_n (lv' := [(2, .int (nI 0)), (1, .int (nI 0)), (0, .ref (ad 0))]) hx hb dX6_boxes_3 rfl hl (by decide) rfl (fun ls hl => ?_)
  have cut_4 : ∀ (n_4 : Nat) (k : Nat) (v4_1 : Int32) (v4_2 : Int32) (ls : Array Slot) (hk : k ≤ n) (hn_4 : n - k < n_4) (_ : v4_1 = nI (hsum HT k)) (_ : v4_2 = nI k) (_ : lv_has ls 3 [(0, .ref (ad 0)), (1, .int v4_1), (2, .int v4_2)]), W p l e (headSpec wsX6_boxes ({ frames := 0, cells := 0, slots := 0, locals := 0 })).room s m ([.ref (ad 0)] : List Value).toArray below meth c s.heap [] 0 0 (MQ below (pu_Q (.int (nI (hsum HT n)))) ([.ref (ad 0)] : List Value).toArray s 0 0 (fun _ => False)) (F0 m 4 ls []) := by
    intro n_4
    induction n_4 with
    | zero => intros; omega
    | succ n_4 ih_4 =>
      rintro k v4_1 v4_2 ls hk hn_4 rfl rfl hl
      refine lv_iload_n hx hb dX6_boxes_4 rfl (lv_at hl 2 rfl) ?_
      refine lv_aload_n hx hb dX6_boxes_5 rfl (lv_at hl 0 rfl) ?_
      refine va_get (D := (dC, dI)) (ci := 5) (v := .int (nI n)) (C := RX6) (T := TX6) (N := 7) hx hb hts hinX6 hown hK hP 0 rfl rfl 0 (by decide) (hts (.fieldLink RX6 13 "ReshuffleSearch" "stacks" "I") (by decide +kernel)) (fun _ h9 => h9) rfl dX6_boxes_6 ?_
      refine wk_icmp_ge (tgt := 27) hx hb (by omega) (by omega) dX6_boxes_9 (by decide) (fun c_9 => ?_) (fun c_9 => ?_)
      · refine lv_iload_n hx hb dX6_boxes_27 rfl (lv_at hl 1 rfl) ?_
        refine wk_ti (v' := nI (hsum HT n)) (by rw [show k = n by omega]) ?_
        exact W.iret hx hb hr (fun t9 ht _ => ⟨rfl, ht⟩) (fun _ h => nomatch h) dX6_boxes_28
      · refine lv_iload_n hx hb dX6_boxes_12 rfl (lv_at hl 1 rfl) ?_
        refine lv_aload_n hx hb dX6_boxes_13 rfl (lv_at hl 0 rfl) ?_
        refine va_get (D := (dC, dI)) (ci := 5) (v := .ref (ad 2)) (C := RX6) (T := TX6) (N := 7) hx hb hts hinX6 hown hK hP 0 rfl rfl 3 (by decide) (hts (.fieldLink RX6 24 "ReshuffleSearch" "height" "[I") (by decide +kernel)) (fun _ h9 => h9) rfl dX6_boxes_14 ?_
        refine lv_iload_n hx hb dX6_boxes_17 rfl (lv_at hl 2 rfl) ?_
        refine wk_iald hx hb hK hP 2 0 rfl rfl (by omega) dX6_boxes_18 ?_
        refine wk_iadd hx hb dX6_boxes_19 ?_
        refine lv_istore_n (lv' := [(1, .int (nI ((hsum HT k) + (HT k)))), (0, .ref (ad 0)), (2, .int (nI k))]) hx hb dX6_boxes_20 rfl hl (by decide) rfl (fun ls hl => ?_)
        refine lv_iinc (v := nI (k + 1)) (lv' := [(2, .int (nI (k + 1))), (1, .int (nI ((hsum HT k) + (HT k)))), (0, .ref (ad 0))]) hx hb dX6_boxes_21 hl (k := 2) rfl (wk_inc _ 1 rfl) (by decide) rfl (fun ls hl => ?_)
        refine lv_goto (tgt := 4) hx hb dX6_boxes_24 (by decide) ?_
        exact ih_4 (k + 1) _ _ ls (by omega) (by omega) (rfl) (rfl) (lv_sub hl [2, 1, 0] rfl)
  exact cut_4 (n + 1) 0 _ _ ls (by omega) (by omega) (rfl) (rfl) (lv_sub hl [2, 1, 0] rfl)
set_option maxHeartbeats 4000000 in
set_option maxRecDepth 100000 in
theorem c_X1_rankOf (l : Launch) (dC : Nat → ClassId) (dI : Nat → Nat → Nat) (ad : Nat → Nat) (cI cJ : ClassId) (n t : Nat) (P HT RK GP : Nat → Nat) (sm : Int32) (F T M ST : Nat → Nat) (ln mn : Int32) (E : Nat → Nat) (g : Nat) (hg0 : g < 2147483648) : Met l yX1_rankOf wsX1_rankOf ({ frames := 0, cells := 0, slots := 0, locals := 0 }) (va_Pc [.ref (ad 3), .int (nI g)] (rc_P (dC, dI) [(cI, .int), (cJ, .long)] (cW ad cI cJ n t P HT RK GP sm F T M ST ln mn E))) (pu_Q (.int (nI (rkc RK g)))) 0 0 (fun _ => False) := by
  refine Met.ofW (cc := cX1_rankOf) (maxL := 2) (ret := (some .int)) (by decide) rfl ?_
  intro p e s m args below meth c s₁ B hml hv
  obtain ⟨rfl, hP, hK, hN⟩ := hv
  have hx := B.exec
  have hb := B.bytes
  have hr := B.returns
  have hts := atoms_spec (ws := wsX1_rankOf) B.pre
  have hown : s.vm.findClass RX1 = some m.cls := findClass_of_methodNamed B.named
  have hlocks := B.notSynchronized
  have hinX1 : ∀ w ∈ u_ws RX1 TX1 2, w ∈ wsX1_rankOf := by decide +kernel
  have hl := lv_entry ([.ref (ad 3), .int (nI g)]) (n := 2) (Nat.le_of_ble_eq_true rfl)
  rw [lg_entry_eq]
  generalize (lg_sl ([.ref (ad 3), .int (nI g)]) ++ List.replicate (2 - (lg_sl ([.ref (ad 3), .int (nI g)])).length) Slot.unset).toArray = ls at hl ⊢
  have hl : lv_has ls 2 [(0, .ref (ad 3)), (1, .int (nI g))] := hl
  refine lv_iload_n hx hb dX1_rankOf_0 rfl (lv_at hl 1 rfl) ?_
  refine wk_if_le (tgt := 22) hx hb (by omega) dX1_rankOf_1 (by decide) (fun c_1 => ?_) (fun c_1 => ?_)
  · refine lv_iconst (v := nI 0) hx hb dX1_rankOf_22 (by decide +kernel) ?_
    refine wk_ti (v' := nI (rkc RK g)) (by unfold rkc; rw [if_neg (by omega)]) ?_
    exact W.iret hx hb hr (fun t9 ht _ => ⟨rfl, ht⟩) (fun _ h => nomatch h) dX1_rankOf_23
  · refine lv_iload_n hx hb dX1_rankOf_4 rfl (lv_at hl 1 rfl) ?_
    refine lv_aload_n hx hb dX1_rankOf_5 rfl (lv_at hl 0 rfl) ?_
    refine va_get (D := (dC, dI)) (ci := 2) (v := .ref (ad 4)) (C := RX1) (T := TX1) (N := 2) hx hb hts hinX1 hown hK hP 3 rfl rfl 0 (by decide) (hts (.fieldLink RX1 9 "ReshuffleSearch$Ranks" "rank" "[I") (by decide +kernel)) (fun _ h9 => h9) rfl dX1_rankOf_6 ?_
    refine va_alen (v := nI 21) hx hb hK hP 4 0 rfl rfl rfl dX1_rankOf_9 ?_
    refine wk_icmp_ge (tgt := 22) hx hb (by omega) (by omega) dX1_rankOf_10 (by decide) (fun c_10 => ?_) (fun c_10 => ?_)
    · refine lv_iconst (v := nI 0) hx hb dX1_rankOf_22 (by decide +kernel) ?_
      refine wk_ti (v' := nI (rkc RK g)) (by unfold rkc; rw [if_neg (by omega)]) ?_
      exact W.iret hx hb hr (fun t9 ht _ => ⟨rfl, ht⟩) (fun _ h => nomatch h) dX1_rankOf_23
    · refine lv_aload_n hx hb dX1_rankOf_13 rfl (lv_at hl 0 rfl) ?_
      refine va_get (D := (dC, dI)) (ci := 2) (v := .ref (ad 4)) (C := RX1) (T := TX1) (N := 2) hx hb hts hinX1 hown hK hP 3 rfl rfl 0 (by decide) (hts (.fieldLink RX1 9 "ReshuffleSearch$Ranks" "rank" "[I") (by decide +kernel)) (fun _ h9 => h9) rfl dX1_rankOf_14 ?_
      refine lv_iload_n hx hb dX1_rankOf_17 rfl (lv_at hl 1 rfl) ?_
      refine wk_iald hx hb hK hP 4 0 rfl rfl (by omega) dX1_rankOf_18 ?_
      refine lv_goto (tgt := 23) hx hb dX1_rankOf_19 (by decide) ?_
      refine wk_ti (v' := nI (rkc RK g)) (by unfold rkc; rw [if_pos (by omega)]) ?_
      exact W.iret hx hb hr (fun t9 ht _ => ⟨rfl, ht⟩) (fun _ h => nomatch h) dX1_rankOf_23
set_option maxHeartbeats 4000000 in
set_option maxRecDepth 100000 in
theorem c_X1_groupOf (l : Launch) (dC : Nat → ClassId) (dI : Nat → Nat → Nat) (ad : Nat → Nat) (cI cJ : ClassId) (n t : Nat) (P HT RK GP : Nat → Nat) (sm : Int32) (F T M ST : Nat → Nat) (ln mn : Int32) (E : Nat → Nat) (r : Nat) (hr0 : r < 2147483648) : Met l yX1_groupOf wsX1_groupOf ({ frames := 0, cells := 0, slots := 0, locals := 0 }) (va_Pc [.ref (ad 3), .int (nI r)] (rc_P (dC, dI) [(cI, .int), (cJ, .long)] (cW ad cI cJ n t P HT RK GP sm F T M ST ln mn E))) (pu_Q (.int (nI (gpc GP r)))) 0 0 (fun _ => False) := by
  refine Met.ofW (cc := cX1_groupOf) (maxL := 2) (ret := (some .int)) (by decide) rfl ?_
  intro p e s m args below meth c s₁ B hml hv
  obtain ⟨rfl, hP, hK, hN⟩ := hv
  have hx := B.exec
  have hb := B.bytes
  have hr := B.returns
  have hts := atoms_spec (ws := wsX1_groupOf) B.pre
  have hown : s.vm.findClass RX1 = some m.cls := findClass_of_methodNamed B.named
  have hlocks := B.notSynchronized
  have hinX1 : ∀ w ∈ u_ws RX1 TX1 2, w ∈ wsX1_groupOf := by decide +kernel
  have hl := lv_entry ([.ref (ad 3), .int (nI r)]) (n := 2) (Nat.le_of_ble_eq_true rfl)
  rw [lg_entry_eq]
  generalize (lg_sl ([.ref (ad 3), .int (nI r)]) ++ List.replicate (2 - (lg_sl ([.ref (ad 3), .int (nI r)])).length) Slot.unset).toArray = ls at hl ⊢
  have hl : lv_has ls 2 [(0, .ref (ad 3)), (1, .int (nI r))] := hl
  refine lv_iload_n hx hb dX1_groupOf_0 rfl (lv_at hl 1 rfl) ?_
  refine wk_if_le (tgt := 22) hx hb (by omega) dX1_groupOf_1 (by decide) (fun c_1 => ?_) (fun c_1 => ?_)
  · refine lv_iconst (v := nI 0) hx hb dX1_groupOf_22 (by decide +kernel) ?_
    refine wk_ti (v' := nI (gpc GP r)) (by unfold gpc; rw [if_neg (by omega)]) ?_
    exact W.iret hx hb hr (fun t9 ht _ => ⟨rfl, ht⟩) (fun _ h => nomatch h) dX1_groupOf_23
  · refine lv_iload_n hx hb dX1_groupOf_4 rfl (lv_at hl 1 rfl) ?_
    refine lv_aload_n hx hb dX1_groupOf_5 rfl (lv_at hl 0 rfl) ?_
    refine va_get (D := (dC, dI)) (ci := 2) (v := .ref (ad 5)) (C := RX1) (T := TX1) (N := 2) hx hb hts hinX1 hown hK hP 3 rfl rfl 1 (by decide) (hts (.fieldLink RX1 15 "ReshuffleSearch$Ranks" "group" "[I") (by decide +kernel)) (fun _ h9 => h9) rfl dX1_groupOf_6 ?_
    refine va_alen (v := nI 7) hx hb hK hP 5 0 rfl rfl rfl dX1_groupOf_9 ?_
    refine wk_icmp_ge (tgt := 22) hx hb (by omega) (by omega) dX1_groupOf_10 (by decide) (fun c_10 => ?_) (fun c_10 => ?_)
    · refine lv_iconst (v := nI 0) hx hb dX1_groupOf_22 (by decide +kernel) ?_
      refine wk_ti (v' := nI (gpc GP r)) (by unfold gpc; rw [if_neg (by omega)]) ?_
      exact W.iret hx hb hr (fun t9 ht _ => ⟨rfl, ht⟩) (fun _ h => nomatch h) dX1_groupOf_23
    · refine lv_aload_n hx hb dX1_groupOf_13 rfl (lv_at hl 0 rfl) ?_
      refine va_get (D := (dC, dI)) (ci := 2) (v := .ref (ad 5)) (C := RX1) (T := TX1) (N := 2) hx hb hts hinX1 hown hK hP 3 rfl rfl 1 (by decide) (hts (.fieldLink RX1 15 "ReshuffleSearch$Ranks" "group" "[I") (by decide +kernel)) (fun _ h9 => h9) rfl dX1_groupOf_14 ?_
      refine lv_iload_n hx hb dX1_groupOf_17 rfl (lv_at hl 1 rfl) ?_
      refine wk_iald hx hb hK hP 5 0 rfl rfl (by omega) dX1_groupOf_18 ?_
      refine lv_goto (tgt := 23) hx hb dX1_groupOf_19 (by decide) ?_
      refine wk_ti (v' := nI (gpc GP r)) (by unfold gpc; rw [if_pos (by omega)]) ?_
      exact W.iret hx hb hr (fun t9 ht _ => ⟨rfl, ht⟩) (fun _ h => nomatch h) dX1_groupOf_23
set_option maxHeartbeats 4000000 in
set_option maxRecDepth 100000 in
theorem c_X4_isKept (l : Launch) (dC : Nat → ClassId) (dI : Nat → Nat → Nat) (ad : Nat → Nat) (cI cJ : ClassId) (n t : Nat) (P HT RK GP : Nat → Nat) (sm : Int32) (F T M ST : Nat → Nat) (ln mn : Int32) (E : Nat → Nat)  : Met l yX4_isKept wsX4_isKept ({ frames := 0, cells := 0, slots := 0, locals := 0 }) (va_Pc [.ref (ad 7)] (rc_P (dC, dI) [(cI, .int), (cJ, .long)] (cW ad cI cJ n t P HT RK GP sm F T M ST ln mn E))) (pu_Q (.int (nI (bn (ln ≠ -1))))) 0 0 (fun _ => False) := by
  refine Met.ofW (cc := cX4_isKept) (maxL := 1) (ret := (some .boolean)) (by decide) rfl ?_
  intro p e s m args below meth c s₁ B hml hv
  obtain ⟨rfl, hP, hK, hN⟩ := hv
  have hx := B.exec
  have hb := B.bytes
  have hr := B.returns
  have hts := atoms_spec (ws := wsX4_isKept) B.pre
  have hown : s.vm.findClass RX4 = some m.cls := findClass_of_methodNamed B.named
  have hlocks := B.notSynchronized
  have hinX4 : ∀ w ∈ u_ws RX4 TX4 6, w ∈ wsX4_isKept := by decide +kernel
  have hl := lv_entry ([.ref (ad 7)]) (n := 1) (Nat.le_of_ble_eq_true rfl)
  rw [lg_entry_eq]
  generalize (lg_sl ([.ref (ad 7)]) ++ List.replicate (1 - (lg_sl ([.ref (ad 7)])).length) Slot.unset).toArray = ls at hl ⊢
  have hl : lv_has ls 1 [(0, .ref (ad 7))] := hl
  refine lv_aload_n hx hb dX4_isKept_0 rfl (lv_at hl 0 rfl) ?_
  refine va_get (D := (dC, dI)) (ci := 4) (v := .int ln) (C := RX4) (T := TX4) (N := 6) hx hb hts hinX4 hown hK hP 7 rfl rfl 4 (by decide) (hts (.fieldLink RX4 24 "ReshuffleSearch$Way" "length" "I") (by decide +kernel)) (fun _ h9 => h9) rfl dX4_isKept_1 ?_
  refine lv_iconst (v := -1) hx hb dX4_isKept_4 (by decide +kernel) ?_
  refine lv_icmp_eq (tgt := 12) hx hb dX4_isKept_5 (by decide) (fun c_5 => ?_) (fun c_5 => ?_)
  · refine lv_iconst (v := nI 0) hx hb dX4_isKept_12 (by decide +kernel) ?_
    refine wk_ti (v' := nI (bn (ln ≠ -1))) (by rw [bn_f (fun q => q c_5)]) ?_
    exact W.zret hx hb hr (bn_nar _) (fun t9 ht _ => ⟨rfl, ht⟩) (fun _ h => nomatch h) dX4_isKept_13
  · refine lv_iconst (v := nI 1) hx hb dX4_isKept_8 (by decide +kernel) ?_
    refine lv_goto (tgt := 13) hx hb dX4_isKept_9 (by decide) ?_
    refine wk_ti (v' := nI (bn (ln ≠ -1))) (by rw [bn_t c_5]) ?_
    exact W.zret hx hb hr (bn_nar _) (fun t9 ht _ => ⟨rfl, ht⟩) (fun _ h => nomatch h) dX4_isKept_13
set_option maxHeartbeats 4000000 in
set_option maxRecDepth 100000 in
theorem c_X4_has (l : Launch) (dC : Nat → ClassId) (dI : Nat → Nat → Nat) (ad : Nat → Nat) (cI cJ : ClassId) (n t : Nat) (P HT RK GP : Nat → Nat) (sm : Int32) (F T M ST : Nat → Nat) (ln mn : Int32) (E : Nat → Nat) (i : Int32) : Met l yX4_has wsX4_has ({ frames := 0, cells := 0, slots := 0, locals := 0 }) (va_Pc [.ref (ad 7), .int i] (rc_P (dC, dI) [(cI, .int), (cJ, .long)] (cW ad cI cJ n t P HT RK GP sm F T M ST ln mn E))) (pu_Q (.int (nI (bn (¬ i < 0 ∧ i < ln ∧ i < nI 30))))) 0 0 (fun _ => False) := by
  refine Met.ofW (cc := cX4_has) (maxL := 2) (ret := (some .boolean)) (by decide) rfl ?_
  intro p e s m args below meth c s₁ B hml hv
  obtain ⟨rfl, hP, hK, hN⟩ := hv
  have hx := B.exec
  have hb := B.bytes
  have hr := B.returns
  have hts := atoms_spec (ws := wsX4_has) B.pre
  have hown : s.vm.findClass RX4 = some m.cls := findClass_of_methodNamed B.named
  have hlocks := B.notSynchronized
  have hinX4 : ∀ w ∈ u_ws RX4 TX4 6, w ∈ wsX4_has := by decide +kernel
  have hl := lv_entry ([.ref (ad 7), .int i]) (n := 2) (Nat.le_of_ble_eq_true rfl)
  rw [lg_entry_eq]
  generalize (lg_sl ([.ref (ad 7), .int i]) ++ List.replicate (2 - (lg_sl ([.ref (ad 7), .int i])).length) Slot.unset).toArray = ls at hl ⊢
  have hl : lv_has ls 2 [(0, .ref (ad 7)), (1, .int i)] := hl
  refine lv_iload_n hx hb dX4_has_0 rfl (lv_at hl 1 rfl) ?_
  refine lv_if_lt (tgt := 22) hx hb dX4_has_1 (by decide) (fun c_1 => ?_) (fun c_1 => ?_)
  · refine lv_iconst (v := nI 0) hx hb dX4_has_22 (by decide +kernel) ?_
    refine wk_ti (v' := nI (bn (¬ i < 0 ∧ i < ln ∧ i < nI 30))) (by rw [bn_f (by first | exact fun q => q.1 c_1 | exact fun q => Int32.not_le.mpr q.2.1 c_9 | exact fun q => Int32.not_le.mpr q.2.2 c_15)]) ?_
    exact W.zret hx hb hr (bn_nar _) (fun t9 ht _ => ⟨rfl, ht⟩) (fun _ h => nomatch h) dX4_has_23
  · refine lv_iload_n hx hb dX4_has_4 rfl (lv_at hl 1 rfl) ?_
    refine lv_aload_n hx hb dX4_has_5 rfl (lv_at hl 0 rfl) ?_
    refine va_get (D := (dC, dI)) (ci := 4) (v := .int ln) (C := RX4) (T := TX4) (N := 6) hx hb hts hinX4 hown hK hP 7 rfl rfl 4 (by decide) (hts (.fieldLink RX4 24 "ReshuffleSearch$Way" "length" "I") (by decide +kernel)) (fun _ h9 => h9) rfl dX4_has_6 ?_
    refine lv_icmp_ge (tgt := 22) hx hb dX4_has_9 (by decide) (fun c_9 => ?_) (fun c_9 => ?_)
    · refine lv_iconst (v := nI 0) hx hb dX4_has_22 (by decide +kernel) ?_
      refine wk_ti (v' := nI (bn (¬ i < 0 ∧ i < ln ∧ i < nI 30))) (by rw [bn_f (by first | exact fun q => q.1 c_1 | exact fun q => Int32.not_le.mpr q.2.1 c_9 | exact fun q => Int32.not_le.mpr q.2.2 c_15)]) ?_
      exact W.zret hx hb hr (bn_nar _) (fun t9 ht _ => ⟨rfl, ht⟩) (fun _ h => nomatch h) dX4_has_23
    · refine lv_iload_n hx hb dX4_has_12 rfl (lv_at hl 1 rfl) ?_
      refine lv_bipush (v := nI 30) hx hb dX4_has_13 (by decide +kernel) ?_
      refine lv_icmp_ge (tgt := 22) hx hb dX4_has_15 (by decide) (fun c_15 => ?_) (fun c_15 => ?_)
      · refine lv_iconst (v := nI 0) hx hb dX4_has_22 (by decide +kernel) ?_
        refine wk_ti (v' := nI (bn (¬ i < 0 ∧ i < ln ∧ i < nI 30))) (by rw [bn_f (by first | exact fun q => q.1 c_1 | exact fun q => Int32.not_le.mpr q.2.1 c_9 | exact fun q => Int32.not_le.mpr q.2.2 c_15)]) ?_
        exact W.zret hx hb hr (bn_nar _) (fun t9 ht _ => ⟨rfl, ht⟩) (fun _ h => nomatch h) dX4_has_23
      · refine lv_iconst (v := nI 1) hx hb dX4_has_18 (by decide +kernel) ?_
        refine lv_goto (tgt := 23) hx hb dX4_has_19 (by decide) ?_
        refine wk_ti (v' := nI (bn (¬ i < 0 ∧ i < ln ∧ i < nI 30))) (by rw [bn_t ⟨c_1, Int32.not_le.mp c_9, Int32.not_le.mp c_15⟩]) ?_
        exact W.zret hx hb hr (bn_nar _) (fun t9 ht _ => ⟨rfl, ht⟩) (fun _ h => nomatch h) dX4_has_23
set_option maxHeartbeats 4000000 in
set_option maxRecDepth 100000 in
theorem c_X4_startsAt (l : Launch) (dC : Nat → ClassId) (dI : Nat → Nat → Nat) (ad : Nat → Nat) (cI cJ : ClassId) (n t : Nat) (P HT RK GP : Nat → Nat) (sm : Int32) (F T M ST : Nat → Nat) (ln mn : Int32) (E : Nat → Nat) (hP0 : ∀ j, P j < 2147483648) (hS0 : ∀ j, ST j < 2147483648)  : Met l yX4_startsAt wsX4_startsAt ({ frames := 0, cells := 0, slots := 0, locals := 0 }) (va_Pc [.ref (ad 7), .ref (ad 1)] (rc_P (dC, dI) [(cI, .int), (cJ, .long)] (cW ad cI cJ n t P HT RK GP sm F T M ST ln mn E))) (pu_Q (.int (nI (bn (anb (fun j => decide (ST j ≠ P j)) 16 = false))))) 0 0 (fun _ => False) := by
  refine Met.ofW (cc := cX4_startsAt) (maxL := 3) (ret := (some .boolean)) (by decide) rfl ?_
  intro p e s m args below meth c s₁ B hml hv
  obtain ⟨rfl, hP, hK, hN⟩ := hv
  have hx := B.exec
  have hb := B.bytes
  have hr := B.returns
  have hts := atoms_spec (ws := wsX4_startsAt) B.pre
  have hown : s.vm.findClass RX4 = some m.cls := findClass_of_methodNamed B.named
  have hlocks := B.notSynchronized
  have hinX4 : ∀ w ∈ u_ws RX4 TX4 6, w ∈ wsX4_startsAt := by decide +kernel
  have hl := lv_entry ([.ref (ad 7), .ref (ad 1)]) (n := 3) (Nat.le_of_ble_eq_true rfl)
  rw [lg_entry_eq]
  generalize (lg_sl ([.ref (ad 7), .ref (ad 1)]) ++ List.replicate (3 - (lg_sl ([.ref (ad 7), .ref (ad 1)])).length) Slot.unset).toArray = ls at hl ⊢
  have hl : lv_has ls 3 [(0, .ref (ad 7)), (1, .ref (ad 1))] := hl
  refine lv_iconst (v := nI 0) hx hb dX4_startsAt_0 (by decide +kernel) ?_
  refine lv_istore_n (lv' := [(2, .int (nI 0)), (0, .ref (ad 7)), (1, .ref (ad 1))]) hx hb dX4_startsAt_1 rfl hl (by decide) rfl (fun ls hl => ?_)
  have cut_2 : ∀ (n_2 : Nat) (k : Nat) (v2_2 : Int32) (ls : Array Slot) (hk : k ≤ 16) (he : anb (fun j => decide (ST j ≠ P j)) k = false) (hn_2 : 16 - k < n_2) (_ : v2_2 = nI k) (_ : lv_has ls 3 [(0, .ref (ad 7)), (1, .ref (ad 1)), (2, .int v2_2)]), W p l e (headSpec wsX4_startsAt ({ frames := 0, cells := 0, slots := 0, locals := 0 })).room s m ([.ref (ad 7), .ref (ad 1)] : List Value).toArray below meth c s.heap [] 0 0 (MQ below (pu_Q (.int (nI (bn (anb (fun j => decide (ST j ≠ P j)) 16 = false))))) ([.ref (ad 7), .ref (ad 1)] : List Value).toArray s 0 0 (fun _ => False)) (F0 m 2 ls []) := by
    intro n_2
    induction n_2 with
    | zero => intros; omega
    | succ n_2 ih_2 =>
      rintro k v2_2 ls hk he hn_2 rfl hl
      refine lv_iload_n hx hb dX4_startsAt_2 rfl (lv_at hl 2 rfl) ?_
      refine lv_aload_n hx hb dX4_startsAt_3 rfl (lv_at hl 0 rfl) ?_
      refine va_get (D := (dC, dI)) (ci := 4) (v := .ref (ad 11)) (C := RX4) (T := TX4) (N := 6) hx hb hts hinX4 hown hK hP 7 rfl rfl 3 (by decide) (hts (.fieldLink RX4 21 "ReshuffleSearch$Way" "start" "[I") (by decide +kernel)) (fun _ h9 => h9) rfl dX4_startsAt_4 ?_
      refine va_alen (v := nI 16) hx hb hK hP 11 0 rfl rfl rfl dX4_startsAt_7 ?_
      refine wk_icmp_ge (tgt := 37) hx hb (by omega) (by omega) dX4_startsAt_8 (by decide) (fun c_8 => ?_) (fun c_8 => ?_)
      · refine lv_iconst (v := nI 1) hx hb dX4_startsAt_37 (by decide +kernel) ?_
        refine wk_ti (v' := nI (bn (anb (fun j => decide (ST j ≠ P j)) 16 = false))) (by rw [bn_t (by rw [← he, show k = 16 by omega])]) ?_
        exact W.zret hx hb hr (bn_nar _) (fun t9 ht _ => ⟨rfl, ht⟩) (fun _ h => nomatch h) dX4_startsAt_38
      · refine lv_iload_n hx hb dX4_startsAt_11 rfl (lv_at hl 2 rfl) ?_
        refine lv_aload_n hx hb dX4_startsAt_12 rfl (lv_at hl 1 rfl) ?_
        refine va_alen (v := nI 16) hx hb hK hP 1 0 rfl rfl rfl dX4_startsAt_13 ?_
        refine wk_icmp_ge (tgt := 37) hx hb (by omega) (by omega) dX4_startsAt_14 (by decide) (fun c_14 => ?_) (fun c_14 => ?_)
        · refine lv_iconst (v := nI 1) hx hb dX4_startsAt_37 (by decide +kernel) ?_
          refine wk_ti (v' := nI (bn (anb (fun j => decide (ST j ≠ P j)) 16 = false))) (by rw [bn_t (by rw [← he, show k = 16 by omega])]) ?_
          exact W.zret hx hb hr (bn_nar _) (fun t9 ht _ => ⟨rfl, ht⟩) (fun _ h => nomatch h) dX4_startsAt_38
        · refine lv_aload_n hx hb dX4_startsAt_17 rfl (lv_at hl 0 rfl) ?_
          refine va_get (D := (dC, dI)) (ci := 4) (v := .ref (ad 11)) (C := RX4) (T := TX4) (N := 6) hx hb hts hinX4 hown hK hP 7 rfl rfl 3 (by decide) (hts (.fieldLink RX4 21 "ReshuffleSearch$Way" "start" "[I") (by decide +kernel)) (fun _ h9 => h9) rfl dX4_startsAt_18 ?_
          refine lv_iload_n hx hb dX4_startsAt_21 rfl (lv_at hl 2 rfl) ?_
          refine wk_iald hx hb hK hP 11 0 rfl rfl (by omega) dX4_startsAt_22 ?_
          refine lv_aload_n hx hb dX4_startsAt_23 rfl (lv_at hl 1 rfl) ?_
          refine lv_iload_n hx hb dX4_startsAt_24 rfl (lv_at hl 2 rfl) ?_
          refine wk_iald hx hb hK hP 1 0 rfl rfl (by omega) dX4_startsAt_25 ?_
          refine wk_icmp_eq (tgt := 31) hx hb (hS0 _) (hP0 _) dX4_startsAt_26 (by decide) (fun c_26 => ?_) (fun c_26 => ?_)
          · refine lv_iinc (v := nI (k + 1)) (lv' := [(2, .int (nI (k + 1))), (0, .ref (ad 7)), (1, .ref (ad 1))]) hx hb dX4_startsAt_31 hl (k := 2) rfl (wk_inc _ 1 rfl) (by decide) rfl (fun ls hl => ?_)
            refine lv_goto (tgt := 2) hx hb dX4_startsAt_34 (by decide) ?_
            exact ih_2 (k + 1) _ ls (by omega) (by rw [anb_s, he, Bool.false_or]; exact decide_eq_false (fun q => q c_26)) (by omega) (rfl) (lv_sub hl [1, 2, 0] rfl)
          · refine lv_iconst (v := nI 0) hx hb dX4_startsAt_29 (by decide +kernel) ?_
            refine wk_ti (v' := nI (bn (anb (fun j => decide (ST j ≠ P j)) 16 = false))) (by rw [bn_f (fun q => by have h := (anb_iff (fun j => decide (ST j ≠ P j)) 16).mpr ⟨k, by omega, decide_eq_true c_26⟩; rw [q] at h; exact nomatch h)]) ?_
            exact W.zret hx hb hr (bn_nar _) (fun t9 ht _ => ⟨rfl, ht⟩) (fun _ h => nomatch h) dX4_startsAt_30
  exact cut_2 (16 + 1) 0 _ ls (by omega) (rfl) (by omega) (rfl) (lv_sub hl [1, 2, 0] rfl)
set_option maxHeartbeats 4000000 in
set_option maxRecDepth 100000 in
theorem c_X4_wholeTravel (l : Launch) (dC : Nat → ClassId) (dI : Nat → Nat → Nat) (ad : Nat → Nat) (cI cJ : ClassId) (n t : Nat) (P HT RK GP : Nat → Nat) (sm : Int32) (F T M ST : Nat → Nat) (ln mn : Int32) (E : Nat → Nat) (L0 : Nat) (hL0 : L0 ≤ 30) (hF0 : ∀ j, j < L0 → F j < 4 ∧ T j < 4)  : Met l yX4_wholeTravel wsX4_wholeTravel ({ frames := 2, cells := 0, slots := 0, locals := 61 }) (va_Pc [.ref (ad 7)] (rc_P (dC, dI) [(cI, .int), (cJ, .long)] (cW ad cI cJ n t P HT RK GP sm F T M ST (nI L0) mn E))) (pu_Q (.int (nI (trs F T L0)))) 0 0 (fun _ => False) := by
  refine Met.ofW (cc := cX4_wholeTravel) (maxL := 3) (ret := (some .int)) (by decide) rfl ?_
  intro p e s m args below meth c s₁ B hml hv
  obtain ⟨rfl, hP, hK, hN⟩ := hv
  have hx := B.exec
  have hb := B.bytes
  have hr := B.returns
  have hts := atoms_spec (ws := wsX4_wholeTravel) B.pre
  have hown : s.vm.findClass RX4 = some m.cls := findClass_of_methodNamed B.named
  have hlocks := B.notSynchronized
  have hinX4 : ∀ w ∈ u_ws RX4 TX4 6, w ∈ wsX4_wholeTravel := by decide +kernel
  have hl := lv_entry ([.ref (ad 7)]) (n := 3) (Nat.le_of_ble_eq_true rfl)
  rw [lg_entry_eq]
  generalize (lg_sl ([.ref (ad 7)]) ++ List.replicate (3 - (lg_sl ([.ref (ad 7)])).length) Slot.unset).toArray = ls at hl ⊢
  have hl : lv_has ls 3 [(0, .ref (ad 7))] := hl
  refine lv_iconst (v := nI 0) hx hb dX4_wholeTravel_0 (by decide +kernel) ?_
  refine lv_istore_n (lv' := [(1, .int (nI 0)), (0, .ref (ad 7))]) hx hb dX4_wholeTravel_1 rfl hl (by decide) rfl (fun ls hl => ?_)
  refine lv_iconst (v := nI 0) hx hb dX4_wholeTravel_2 (by decide +kernel) ?_
  refine lv_istore_n (lv' := [(2, .int (nI 0)), (1, .int (nI 0)), (0, .ref (ad 7))]) hx hb dX4_wholeTravel_3 rfl hl (by decide) rfl (fun ls hl => ?_)
  have cut_4 : ∀ (n_4 : Nat) (k : Nat) (v4_1 : Int32) (v4_2 : Int32) (ls : Array Slot) (hk : k ≤ L0) (hn_4 : L0 - k < n_4) (_ : v4_1 = nI (trs F T k)) (_ : v4_2 = nI k) (_ : lv_has ls 3 [(0, .ref (ad 7)), (1, .int v4_1), (2, .int v4_2)]), W p l e (headSpec wsX4_wholeTravel ({ frames := 2, cells := 0, slots := 0, locals := 61 })).room s m ([.ref (ad 7)] : List Value).toArray below meth c s.heap [] 0 0 (MQ below (pu_Q (.int (nI (trs F T L0)))) ([.ref (ad 7)] : List Value).toArray s 0 0 (fun _ => False)) (F0 m 4 ls []) := by
    intro n_4
    induction n_4 with
    | zero => intros; omega
    | succ n_4 ih_4 =>
      rintro k v4_1 v4_2 ls hk hn_4 rfl rfl hl
      have hq1 := hF0 k
      refine lv_iload_n hx hb dX4_wholeTravel_4 rfl (lv_at hl 2 rfl) ?_
      refine lv_aload_n hx hb dX4_wholeTravel_5 rfl (lv_at hl 0 rfl) ?_
      refine va_get (D := (dC, dI)) (ci := 4) (v := .int (nI L0)) (C := RX4) (T := TX4) (N := 6) hx hb hts hinX4 hown hK hP 7 rfl rfl 4 (by decide) (hts (.fieldLink RX4 24 "ReshuffleSearch$Way" "length" "I") (by decide +kernel)) (fun _ h9 => h9) rfl dX4_wholeTravel_6 ?_
      refine wk_icmp_ge (tgt := 42) hx hb (by omega) (by omega) dX4_wholeTravel_9 (by decide) (fun c_9 => ?_) (fun c_9 => ?_)
      · refine lv_iload_n hx hb dX4_wholeTravel_42 rfl (lv_at hl 1 rfl) ?_
        refine wk_ti (v' := nI (trs F T L0)) (by rw [show k = L0 by omega]) ?_
        exact W.iret hx hb hr (fun t9 ht _ => ⟨rfl, ht⟩) (fun _ h => nomatch h) dX4_wholeTravel_43
      · refine lv_iload_n hx hb dX4_wholeTravel_12 rfl (lv_at hl 2 rfl) ?_
        refine lv_bipush (v := nI 30) hx hb dX4_wholeTravel_13 (by decide +kernel) ?_
        refine wk_icmp_ge (tgt := 42) hx hb (by omega) (by omega) dX4_wholeTravel_15 (by decide) (fun c_15 => ?_) (fun c_15 => ?_)
        · refine lv_iload_n hx hb dX4_wholeTravel_42 rfl (lv_at hl 1 rfl) ?_
          refine wk_ti (v' := nI (trs F T L0)) (by rw [show k = L0 by omega]) ?_
          exact W.iret hx hb hr (fun t9 ht _ => ⟨rfl, ht⟩) (fun _ h => nomatch h) dX4_wholeTravel_43
        · refine lv_iload_n hx hb dX4_wholeTravel_18 rfl (lv_at hl 1 rfl) ?_
          refine lv_aload_n hx hb dX4_wholeTravel_19 rfl (lv_at hl 0 rfl) ?_
          refine va_get (D := (dC, dI)) (ci := 4) (v := .ref (ad 8)) (C := RX4) (T := TX4) (N := 6) hx hb hts hinX4 hown hK hP 7 rfl rfl 0 (by decide) (hts (.fieldLink RX4 9 "ReshuffleSearch$Way" "from" "[I") (by decide +kernel)) (fun _ h9 => h9) rfl dX4_wholeTravel_20 ?_
          refine lv_iload_n hx hb dX4_wholeTravel_23 rfl (lv_at hl 2 rfl) ?_
          refine wk_iald hx hb hK hP 8 0 rfl rfl (by omega) dX4_wholeTravel_24 ?_
          refine lv_aload_n hx hb dX4_wholeTravel_25 rfl (lv_at hl 0 rfl) ?_
          refine va_get (D := (dC, dI)) (ci := 4) (v := .ref (ad 9)) (C := RX4) (T := TX4) (N := 6) hx hb hts hinX4 hown hK hP 7 rfl rfl 1 (by decide) (hts (.fieldLink RX4 15 "ReshuffleSearch$Way" "to" "[I") (by decide +kernel)) (fun _ h9 => h9) rfl dX4_wholeTravel_26 ?_
          refine lv_iload_n hx hb dX4_wholeTravel_29 rfl (lv_at hl 2 rfl) ?_
          refine wk_iald hx hb hK hP 9 0 rfl rfl (by omega) dX4_wholeTravel_30 ?_
          refine pu_go (va_runSN (As := [.int (nI (F k)), .int (nI (T k))]) (rest := [.int (nI (trs F T k))]) ⟨hx, hb, hml, hown, hts⟩ (c_X6_travelOf l (F k) (T k) (by first | omega | assumption) (by first | omega | assumption)) ⟨va_cnB (host := RX6) 2 hts gX4_wholeTravel_X6_travelOf_n37 rfl rfl rfl hN.2.2.2.2 (hts (.initialized RX6) (by decide +kernel)) (by decide +kernel) ⟨Nat.le_of_ble_eq_true rfl, Nat.le_of_ble_eq_true rfl⟩, hts (.static yX6_travelOf) (by decide +kernel), trivial⟩ ⟨fun _ _ _ _ q => q, fun _ _ _ => ⟨rfl, trivial⟩⟩ rfl rfl hl.1 rfl (lv_room (Nat.le_of_ble_eq_true rfl)) dX4_wholeTravel_31 ⟨Nat.le_refl _, Nat.le_refl _⟩) ?_
          refine wk_iadd hx hb dX4_wholeTravel_34 ?_
          refine lv_istore_n (lv' := [(1, .int (nI ((trs F T k) + (vtr (F k) (T k))))), (0, .ref (ad 7)), (2, .int (nI k))]) hx hb dX4_wholeTravel_35 rfl hl (by decide) rfl (fun ls hl => ?_)
          refine lv_iinc (v := nI (k + 1)) (lv' := [(2, .int (nI (k + 1))), (1, .int (nI ((trs F T k) + (vtr (F k) (T k))))), (0, .ref (ad 7))]) hx hb dX4_wholeTravel_36 hl (k := 2) rfl (wk_inc _ 1 rfl) (by decide) rfl (fun ls hl => ?_)
          refine lv_goto (tgt := 4) hx hb dX4_wholeTravel_39 (by decide) ?_
          exact ih_4 (k + 1) _ _ ls (by omega) (by omega) (rfl) (rfl) (lv_sub hl [2, 1, 0] rfl)
  exact cut_4 (L0 + 1) 0 _ _ ls (by omega) (by omega) (rfl) (rfl) (lv_sub hl [2, 1, 0] rfl)
