set_option maxHeartbeats 4000000 in
set_option maxRecDepth 100000 in
theorem c_X7_box (l : Launch) (x s0 t1 : Nat) (hx0 : x < 2 ^ 48) (hp0 : 4 * s0 + t1 < 16) : Met l yX7_box wsX7_box ({ frames := 0, cells := 0, slots := 0, locals := 0 }) (va_Pc [.long (lN x), .int (nI s0), .int (nI t1)] (fun _ => True)) (pu_Q (.int (nI (yr x (4 * s0 + t1))))) 0 0 (fun _ => False) := by
  refine Met.ofW (cc := cX7_box) (maxL := 4) (ret := (some .int)) (by decide) rfl ?_
  intro p e s m args below meth c s₁ B hml hv
  obtain ⟨rfl, -⟩ := hv
  have hx := B.exec
  have hb := B.bytes
  have hr := B.returns
  have hts := atoms_spec (ws := wsX7_box) B.pre
  have hown : s.vm.findClass RX7 = some m.cls := findClass_of_methodNamed B.named
  have hlocks := B.notSynchronized
  have hl := lv_entry ([.long (lN x), .int (nI s0), .int (nI t1)]) (n := 4) (Nat.le_of_ble_eq_true rfl)
  rw [lg_entry_eq]
  generalize (lg_sl ([.long (lN x), .int (nI s0), .int (nI t1)]) ++ List.replicate (4 - (lg_sl ([.long (lN x), .int (nI s0), .int (nI t1)])).length) Slot.unset).toArray = ls at hl ⊢
  have hl : lv_has ls 4 [(0, .long (lN x)), (2, .int (nI s0)), (3, .int (nI t1))] := hl
  refine lv_lload_n hx hb dX7_box_0 rfl (lv_at hl 0 rfl) ?_
  refine lv_iconst (v := nI 3) hx hb dX7_box_1 (by decide +kernel) ?_
  refine lv_iconst (v := nI 4) hx hb dX7_box_2 (by decide +kernel) ?_
  refine lv_iload_n hx hb dX7_box_3 rfl (lv_at hl 1 rfl) ?_
  refine wk_imul hx hb dX7_box_4 ?_
  refine lv_iload_n hx hb dX7_box_5 rfl (lv_at hl 2 rfl) ?_
  refine wk_iadd hx hb dX7_box_6 ?_
  refine wk_imul hx hb dX7_box_7 ?_
  refine wk_lshr hx hb (by omega) (by omega) dX7_box_8 ?_
  refine lv_ldc2 (v := 7) hx hb hown (hts (.constantLong RX7 65 (7)) (by decide +kernel)) dX7_box_9 ?_
  refine wk_tl (v' := lN 7) (by decide +kernel) ?_
  refine lv_land hx hb dX7_box_12 ?_
  refine wk_tl (v' := lN (x / 2 ^ (3 * (4 * s0 + t1)) % 8)) (wb_mask (k := 3) (by have := Nat.div_le_self x (2 ^ (3 * (4 * s0 + t1))); omega) (by decide)) ?_
  refine wk_l2i hx hb dX7_box_13 ?_
  refine wk_ti (v' := nI (yr x (4 * s0 + t1))) (by unfold yr; rw [Nat.mul_comm 3]) ?_
  exact W.iret hx hb hr (fun t9 ht _ => ⟨rfl, ht⟩) (fun _ h => nomatch h) dX7_box_14
set_option maxHeartbeats 4000000 in
set_option maxRecDepth 100000 in
theorem c_X7_without (l : Launch) (x s0 t1 : Nat) (hx0 : x < 2 ^ 48) (hp0 : 4 * s0 + t1 < 16) : Met l yX7_without wsX7_without ({ frames := 0, cells := 0, slots := 0, locals := 0 }) (va_Pc [.long (lN x), .int (nI s0), .int (nI t1)] (fun _ => True)) (pu_Q (.long (lN (mwo x (4 * s0 + t1))))) 0 0 (fun _ => False) := by
  refine Met.ofW (cc := cX7_without) (maxL := 4) (ret := (some .long)) (by decide) rfl ?_
  intro p e s m args below meth c s₁ B hml hv
  obtain ⟨rfl, -⟩ := hv
  have hx := B.exec
  have hb := B.bytes
  have hr := B.returns
  have hts := atoms_spec (ws := wsX7_without) B.pre
  have hown : s.vm.findClass RX7 = some m.cls := findClass_of_methodNamed B.named
  have hlocks := B.notSynchronized
  have hl := lv_entry ([.long (lN x), .int (nI s0), .int (nI t1)]) (n := 4) (Nat.le_of_ble_eq_true rfl)
  rw [lg_entry_eq]
  generalize (lg_sl ([.long (lN x), .int (nI s0), .int (nI t1)]) ++ List.replicate (4 - (lg_sl ([.long (lN x), .int (nI s0), .int (nI t1)])).length) Slot.unset).toArray = ls at hl ⊢
  have hl : lv_has ls 4 [(0, .long (lN x)), (2, .int (nI s0)), (3, .int (nI t1))] := hl
  refine lv_lload_n hx hb dX7_without_0 rfl (lv_at hl 0 rfl) ?_
  refine lv_ldc2 (v := 7) hx hb hown (hts (.constantLong RX7 65 (7)) (by decide +kernel)) dX7_without_1 ?_
  refine wk_tl (v' := lN 7) (by decide +kernel) ?_
  refine lv_iconst (v := nI 3) hx hb dX7_without_4 (by decide +kernel) ?_
  refine lv_iconst (v := nI 4) hx hb dX7_without_5 (by decide +kernel) ?_
  refine lv_iload_n hx hb dX7_without_6 rfl (lv_at hl 1 rfl) ?_
  refine wk_imul hx hb dX7_without_7 ?_
  refine lv_iload_n hx hb dX7_without_8 rfl (lv_at hl 2 rfl) ?_
  refine wk_iadd hx hb dX7_without_9 ?_
  refine wk_imul hx hb dX7_without_10 ?_
  refine wk_lshl hx hb (by omega) dX7_without_11 ?_
  refine lv_ldc2 (v := (-1)) hx hb hown (hts (.constantLong RX7 71 (-1)) (by decide +kernel)) dX7_without_12 ?_
  refine lv_lxor hx hb dX7_without_15 ?_
  refine lv_land hx hb dX7_without_16 ?_
  refine wk_tl (v' := lN (mwo x (4 * s0 + t1))) (by rw [Nat.mul_comm 3]; exact mwo_eq hx0 hp0) ?_
  exact W.lret hx hb hr (fun t9 ht _ => ⟨rfl, ht⟩) (fun _ h => nomatch h) dX7_without_17
set_option maxHeartbeats 4000000 in
set_option maxRecDepth 100000 in
theorem c_X7_thrown (l : Launch) (dC : Nat → ClassId) (dI : Nat → Nat → Nat) (ws : va_W) (tys : List (ClassId × FieldType)) (h0 : Nat) (fs : List Value) (hw0 : ws[0]? = some (h0, .inr (6, fs))) (v : Int32) (hf0 : fs[0]? = some (.int v)) : Met l yX7_thrown wsX7_thrown ({ frames := 0, cells := 0, slots := 0, locals := 0 }) (va_Pc [.ref h0] (fun U => va_P (dC, dI) vwCl ws U.heap ∧ va_K (dC, dI) vwCl tys U)) (pu_Q (.int v)) 0 0 (fun _ => False) := by
  refine Met.ofW (cc := cX7_thrown) (maxL := 1) (ret := (some .int)) (by decide) rfl ?_
  intro p e s m args below meth c s₁ B hml hv
  obtain ⟨rfl, hP, hK⟩ := hv
  have hx := B.exec
  have hb := B.bytes
  have hr := B.returns
  have hts := atoms_spec (ws := wsX7_thrown) B.pre
  have hown : s.vm.findClass RX7 = some m.cls := findClass_of_methodNamed B.named
  have hlocks := B.notSynchronized
  have hinX7 : ∀ w ∈ u_ws RX7 TX7 17, w ∈ wsX7_thrown := by decide +kernel
  have hl := lv_entry ([.ref h0]) (n := 1) (Nat.le_of_ble_eq_true rfl)
  rw [lg_entry_eq]
  generalize (lg_sl ([.ref h0]) ++ List.replicate (1 - (lg_sl ([.ref h0])).length) Slot.unset).toArray = ls at hl ⊢
  have hl : lv_has ls 1 [(0, .ref h0)] := hl
  refine lv_aload_n hx hb dX7_thrown_0 rfl (lv_at hl 0 rfl) ?_
  refine va_get (D := (dC, dI)) (ci := 6) (v := .int v) (C := RX7) (T := TX7) (N := 17) hx hb hts hinX7 hown hK hP 0 hw0 rfl 0 (by decide) (hts (.fieldLink RX7 50 "ReshuffleSearchModel" "thrown" "I") (by decide +kernel)) (fun _ h9 => h9) hf0 dX7_thrown_1 ?_
  exact W.iret hx hb hr (fun t9 ht _ => ⟨rfl, ht⟩) (fun _ h => nomatch h) dX7_thrown_4
set_option maxHeartbeats 4000000 in
set_option maxRecDepth 100000 in
theorem c_X7_isStack (l : Launch) (dC : Nat → ClassId) (dI : Nat → Nat → Nat) (ws : va_W) (tys : List (ClassId × FieldType)) (h0 : Nat) (fs : List Value) (hw0 : ws[0]? = some (h0, .inr (6, fs))) (n : Nat) (hf1 : fs[1]? = some (.int (nI n))) (hn0 : 2 ≤ n ∧ n ≤ 4) (i : Int32) : Met l yX7_isStack wsX7_isStack ({ frames := 0, cells := 0, slots := 0, locals := 0 }) (va_Pc [.ref h0, .int i] (fun U => va_P (dC, dI) vwCl ws U.heap ∧ va_K (dC, dI) vwCl tys U)) (pu_Q (.int (nI (bn (¬ i < 0 ∧ i < nI n))))) 0 0 (fun _ => False) := by
  refine Met.ofW (cc := cX7_isStack) (maxL := 2) (ret := (some .boolean)) (by decide) rfl ?_
  intro p e s m args below meth c s₁ B hml hv
  obtain ⟨rfl, hP, hK⟩ := hv
  have hx := B.exec
  have hb := B.bytes
  have hr := B.returns
  have hts := atoms_spec (ws := wsX7_isStack) B.pre
  have hown : s.vm.findClass RX7 = some m.cls := findClass_of_methodNamed B.named
  have hlocks := B.notSynchronized
  have hinX7 : ∀ w ∈ u_ws RX7 TX7 17, w ∈ wsX7_isStack := by decide +kernel
  have hl := lv_entry ([.ref h0, .int i]) (n := 2) (Nat.le_of_ble_eq_true rfl)
  rw [lg_entry_eq]
  generalize (lg_sl ([.ref h0, .int i]) ++ List.replicate (2 - (lg_sl ([.ref h0, .int i])).length) Slot.unset).toArray = ls at hl ⊢
  have hl : lv_has ls 2 [(0, .ref h0), (1, .int i)] := hl
  refine lv_iload_n hx hb dX7_isStack_0 rfl (lv_at hl 1 rfl) ?_
  refine lv_if_lt (tgt := 16) hx hb dX7_isStack_1 (by decide) (fun c_1 => ?_) (fun c_1 => ?_)
  · refine lv_iconst (v := nI 0) hx hb dX7_isStack_16 (by decide +kernel) ?_
    refine wk_ti (v' := nI (bn (¬ i < 0 ∧ i < nI n))) (by rw [bn_f (by first | exact fun q => q.1 c_1 | exact fun q => Int32.not_le.mpr q.2 c_9)]) ?_
    exact W.zret hx hb hr (bn_nar _) (fun t9 ht _ => ⟨rfl, ht⟩) (fun _ h => nomatch h) dX7_isStack_17
  · refine lv_iload_n hx hb dX7_isStack_4 rfl (lv_at hl 1 rfl) ?_
    refine lv_aload_n hx hb dX7_isStack_5 rfl (lv_at hl 0 rfl) ?_
    refine va_get (D := (dC, dI)) (ci := 6) (v := .int (nI n)) (C := RX7) (T := TX7) (N := 17) hx hb hts hinX7 hown hK hP 0 hw0 rfl 1 (by decide) (hts (.fieldLink RX7 43 "ReshuffleSearchModel" "stacks" "I") (by decide +kernel)) (fun _ h9 => h9) hf1 dX7_isStack_6 ?_
    refine lv_icmp_ge (tgt := 16) hx hb dX7_isStack_9 (by decide) (fun c_9 => ?_) (fun c_9 => ?_)
    · refine lv_iconst (v := nI 0) hx hb dX7_isStack_16 (by decide +kernel) ?_
      refine wk_ti (v' := nI (bn (¬ i < 0 ∧ i < nI n))) (by rw [bn_f (by first | exact fun q => q.1 c_1 | exact fun q => Int32.not_le.mpr q.2 c_9)]) ?_
      exact W.zret hx hb hr (bn_nar _) (fun t9 ht _ => ⟨rfl, ht⟩) (fun _ h => nomatch h) dX7_isStack_17
    · refine lv_iconst (v := nI 1) hx hb dX7_isStack_12 (by decide +kernel) ?_
      refine lv_goto (tgt := 17) hx hb dX7_isStack_13 (by decide) ?_
      refine wk_ti (v' := nI (bn (¬ i < 0 ∧ i < nI n))) (by rw [bn_t ⟨c_1, Int32.not_le.mp c_9⟩]) ?_
      exact W.zret hx hb hr (bn_nar _) (fun t9 ht _ => ⟨rfl, ht⟩) (fun _ h => nomatch h) dX7_isStack_17
set_option maxHeartbeats 4000000 in
set_option maxRecDepth 100000 in
theorem c_X7_heightOf (l : Launch) (dC : Nat → ClassId) (dI : Nat → Nat → Nat) (ws : va_W) (tys : List (ClassId × FieldType)) (h0 : Nat) (fs : List Value) (hw0 : ws[0]? = some (h0, .inr (6, fs))) (t : Nat) (hf2 : fs[2]? = some (.int (nI t))) (ht0 : 2 ≤ t ∧ t ≤ 4) (a3 : Nat) (cI : ClassId) (G : Nat → Nat) (hf3 : fs[3]? = some (.ref a3)) (hw1 : ws[1]? = some (a3, .inl (cI, 16, .inl (fun j => nI (G j))))) (ht1 : tys[0]? = some (cI, .int)) (s0 : Nat) (hs0 : s0 < 4) (hG : ∀ j, G j < 2147483648) : Met l yX7_heightOf wsX7_heightOf ({ frames := 0, cells := 0, slots := 0, locals := 0 }) (va_Pc [.ref h0, .int (nI s0)] (fun U => va_P (dC, dI) vwCl ws U.heap ∧ va_K (dC, dI) vwCl tys U)) (pu_Q (.int (nI (fz (fun j => G (4 * s0 + j)) t 0)))) 0 0 (fun _ => False) := by
  refine Met.ofW (cc := cX7_heightOf) (maxL := 3) (ret := (some .int)) (by decide) rfl ?_
  intro p e s m args below meth c s₁ B hml hv
  obtain ⟨rfl, hP, hK⟩ := hv
  have hx := B.exec
  have hb := B.bytes
  have hr := B.returns
  have hts := atoms_spec (ws := wsX7_heightOf) B.pre
  have hown : s.vm.findClass RX7 = some m.cls := findClass_of_methodNamed B.named
  have hlocks := B.notSynchronized
  have hinX7 : ∀ w ∈ u_ws RX7 TX7 17, w ∈ wsX7_heightOf := by decide +kernel
  have hl := lv_entry ([.ref h0, .int (nI s0)]) (n := 3) (Nat.le_of_ble_eq_true rfl)
  rw [lg_entry_eq]
  generalize (lg_sl ([.ref h0, .int (nI s0)]) ++ List.replicate (3 - (lg_sl ([.ref h0, .int (nI s0)])).length) Slot.unset).toArray = ls at hl ⊢
  have hl : lv_has ls 3 [(0, .ref h0), (1, .int (nI s0))] := hl
  refine lv_iconst (v := nI 0) hx hb dX7_heightOf_0 (by decide +kernel) ?_
  refine lv_istore_n (lv' := [(2, .int (nI 0)), (0, .ref h0), (1, .int (nI s0))]) hx hb dX7_heightOf_1 rfl hl (by decide) rfl (fun ls hl => ?_)
  have cut_2 : ∀ (n_2 : Nat) (k : Nat) (v2_1 : Int32) (v2_2 : Int32) (ls : Array Slot) (hk : k ≤ t) (he : fz (fun j => G (4 * s0 + j)) (t - k) k = fz (fun j => G (4 * s0 + j)) t 0) (hn_2 : t - k < n_2) (_ : v2_1 = nI s0) (_ : v2_2 = nI k) (_ : lv_has ls 3 [(0, .ref h0), (1, .int v2_1), (2, .int v2_2)]), W p l e (headSpec wsX7_heightOf ({ frames := 0, cells := 0, slots := 0, locals := 0 })).room s m ([.ref h0, .int (nI s0)] : List Value).toArray below meth c s.heap [] 0 0 (MQ below (pu_Q (.int (nI (fz (fun j => G (4 * s0 + j)) t 0)))) ([.ref h0, .int (nI s0)] : List Value).toArray s 0 0 (fun _ => False)) (F0 m 2 ls []) := by
    intro n_2
    induction n_2 with
    | zero => intros; omega
    | succ n_2 ih_2 =>
      rintro k v2_1 v2_2 ls hk he hn_2 rfl rfl hl
      refine lv_iload_n hx hb dX7_heightOf_2 rfl (lv_at hl 2 rfl) ?_
      refine lv_aload_n hx hb dX7_heightOf_3 rfl (lv_at hl 0 rfl) ?_
      refine va_get (D := (dC, dI)) (ci := 6) (v := .int (nI t)) (C := RX7) (T := TX7) (N := 17) hx hb hts hinX7 hown hK hP 0 hw0 rfl 2 (by decide) (hts (.fieldLink RX7 47 "ReshuffleSearchModel" "tiers" "I") (by decide +kernel)) (fun _ h9 => h9) hf2 dX7_heightOf_4 ?_
      refine wk_icmp_ge (tgt := 29) hx hb (by omega) (by omega) dX7_heightOf_7 (by decide) (fun c_7 => ?_) (fun c_7 => ?_)
      · refine lv_iload_n hx hb dX7_heightOf_29 rfl (lv_at hl 2 rfl) ?_
        refine wk_ti (v' := nI (fz (fun j => G (4 * s0 + j)) t 0)) (by rw [← he]; first | (rw [show t - k = 0 by omega]; rfl) | (rw [show t - k = (t - (k + 1)) + 1 by omega, fz_s, if_pos c_20])) ?_
        exact W.iret hx hb hr (fun t9 ht _ => ⟨rfl, ht⟩) (fun _ h => nomatch h) dX7_heightOf_30
      · refine lv_aload_n hx hb dX7_heightOf_10 rfl (lv_at hl 0 rfl) ?_
        refine va_get (D := (dC, dI)) (ci := 6) (v := .ref a3) (C := RX7) (T := TX7) (N := 17) hx hb hts hinX7 hown hK hP 0 hw0 rfl 3 (by decide) (hts (.fieldLink RX7 7 "ReshuffleSearchModel" "group" "[I") (by decide +kernel)) (fun _ h9 => h9) hf3 dX7_heightOf_11 ?_
        refine lv_iconst (v := nI 4) hx hb dX7_heightOf_14 (by decide +kernel) ?_
        refine lv_iload_n hx hb dX7_heightOf_15 rfl (lv_at hl 1 rfl) ?_
        refine wk_imul hx hb dX7_heightOf_16 ?_
        refine lv_iload_n hx hb dX7_heightOf_17 rfl (lv_at hl 2 rfl) ?_
        refine wk_iadd hx hb dX7_heightOf_18 ?_
        refine wk_iald hx hb hK hP 1 0 hw1 ht1 (by omega) dX7_heightOf_19 ?_
        refine wk_if_le (tgt := 29) hx hb (hG _) dX7_heightOf_20 (by decide) (fun c_20 => ?_) (fun c_20 => ?_)
        · refine lv_iload_n hx hb dX7_heightOf_29 rfl (lv_at hl 2 rfl) ?_
          refine wk_ti (v' := nI (fz (fun j => G (4 * s0 + j)) t 0)) (by rw [← he]; first | (rw [show t - k = 0 by omega]; rfl) | (rw [show t - k = (t - (k + 1)) + 1 by omega, fz_s, if_pos c_20])) ?_
          exact W.iret hx hb hr (fun t9 ht _ => ⟨rfl, ht⟩) (fun _ h => nomatch h) dX7_heightOf_30
        · refine lv_iinc (v := nI (k + 1)) (lv' := [(2, .int (nI (k + 1))), (0, .ref h0), (1, .int (nI s0))]) hx hb dX7_heightOf_23 hl (k := 2) rfl (wk_inc _ 1 rfl) (by decide) rfl (fun ls hl => ?_)
          refine lv_goto (tgt := 2) hx hb dX7_heightOf_26 (by decide) ?_
          exact ih_2 (k + 1) _ _ ls (by omega) (by rw [← he, show t - k = (t - (k + 1)) + 1 by omega, fz_s, if_neg (by show ¬ G _ = 0; omega)]) (by omega) (rfl) (rfl) (lv_sub hl [1, 2, 0] rfl)
  exact cut_2 (t + 1) 0 _ _ ls (by omega) (rfl) (by omega) (rfl) (rfl) (lv_sub hl [1, 2, 0] rfl)
set_option maxHeartbeats 4000000 in
set_option maxRecDepth 100000 in
theorem c_X7_boxes (l : Launch) (dC : Nat → ClassId) (dI : Nat → Nat → Nat) (ws : va_W) (tys : List (ClassId × FieldType)) (h0 : Nat) (fs : List Value) (hw0 : ws[0]? = some (h0, .inr (6, fs))) (a3 : Nat) (cI : ClassId) (G : Nat → Nat) (hf3 : fs[3]? = some (.ref a3)) (hw1 : ws[1]? = some (a3, .inl (cI, 16, .inl (fun j => nI (G j))))) (ht1 : tys[0]? = some (cI, .int)) (hG : ∀ j, G j < 2147483648) : Met l yX7_boxes wsX7_boxes ({ frames := 0, cells := 0, slots := 0, locals := 0 }) (va_Pc [.ref h0] (fun U => va_P (dC, dI) vwCl ws U.heap ∧ va_K (dC, dI) vwCl tys U)) (pu_Q (.int (nI (bxs G 16)))) 0 0 (fun _ => False) := by
  refine Met.ofW (cc := cX7_boxes) (maxL := 3) (ret := (some .int)) (by decide) rfl ?_
  intro p e s m args below meth c s₁ B hml hv
  obtain ⟨rfl, hP, hK⟩ := hv
  have hx := B.exec
  have hb := B.bytes
  have hr := B.returns
  have hts := atoms_spec (ws := wsX7_boxes) B.pre
  have hown : s.vm.findClass RX7 = some m.cls := findClass_of_methodNamed B.named
  have hlocks := B.notSynchronized
  have hinX7 : ∀ w ∈ u_ws RX7 TX7 17, w ∈ wsX7_boxes := by decide +kernel
  have hl := lv_entry ([.ref h0]) (n := 3) (Nat.le_of_ble_eq_true rfl)
  rw [lg_entry_eq]
  generalize (lg_sl ([.ref h0]) ++ List.replicate (3 - (lg_sl ([.ref h0])).length) Slot.unset).toArray = ls at hl ⊢
  have hl : lv_has ls 3 [(0, .ref h0)] := hl
  refine lv_iconst (v := nI 0) hx hb dX7_boxes_0 (by decide +kernel) ?_
  refine lv_istore_n (lv' := [(1, .int (nI 0)), (0, .ref h0)]) hx hb dX7_boxes_1 rfl hl (by decide) rfl (fun ls hl => ?_)
  refine lv_iconst (v := nI 0) hx hb dX7_boxes_2 (by decide +kernel) ?_
  refine lv_istore_n (lv' := [(2, .int (nI 0)), (1, .int (nI 0)), (0, .ref h0)]) hx hb dX7_boxes_3 rfl hl (by decide) rfl (fun ls hl => ?_)
  have cut_4 : ∀ (n_4 : Nat) (k : Nat) (v4_1 : Int32) (v4_2 : Int32) (ls : Array Slot) (hk : k ≤ 16) (hn_4 : 16 - k < n_4) (_ : v4_1 = nI (bxs G k)) (_ : v4_2 = nI k) (_ : lv_has ls 3 [(0, .ref h0), (1, .int v4_1), (2, .int v4_2)]), W p l e (headSpec wsX7_boxes ({ frames := 0, cells := 0, slots := 0, locals := 0 })).room s m ([.ref h0] : List Value).toArray below meth c s.heap [] 0 0 (MQ below (pu_Q (.int (nI (bxs G 16)))) ([.ref h0] : List Value).toArray s 0 0 (fun _ => False)) (F0 m 4 ls []) := by
    intro n_4
    induction n_4 with
    | zero => intros; omega
    | succ n_4 ih_4 =>
      rintro k v4_1 v4_2 ls hk hn_4 rfl rfl hl
      refine lv_iload_n hx hb dX7_boxes_4 rfl (lv_at hl 2 rfl) ?_
      refine lv_bipush (v := nI 16) hx hb dX7_boxes_5 (by decide +kernel) ?_
      refine wk_icmp_ge (tgt := 33) hx hb (by omega) (by omega) dX7_boxes_7 (by decide) (fun c_7 => ?_) (fun c_7 => ?_)
      · refine lv_iload_n hx hb dX7_boxes_33 rfl (lv_at hl 1 rfl) ?_
        refine wk_ti (v' := nI (bxs G 16)) (by rw [show k = 16 by omega]) ?_
        exact W.iret hx hb hr (fun t9 ht _ => ⟨rfl, ht⟩) (fun _ h => nomatch h) dX7_boxes_34
      · have cut_25 : ∀ (v25_2 : Int32) (u25_0 : Int32) (u25_1 : Int32) (ls : Array Slot) (_ : v25_2 = nI k) (_ : u25_0 = nI (bn (0 < G k))) (_ : u25_1 = nI (bxs G k)) (_ : lv_has ls 3 [(0, .ref h0), (2, .int v25_2)]), W p l e (headSpec wsX7_boxes ({ frames := 0, cells := 0, slots := 0, locals := 0 })).room s m ([.ref h0] : List Value).toArray below meth c s.heap [] 0 0 (MQ below (pu_Q (.int (nI (bxs G 16)))) ([.ref h0] : List Value).toArray s 0 0 (fun _ => False)) (F0 m 25 ls [.int u25_0, .int u25_1]) := by
          rintro v25_2 u25_0 u25_1 ls rfl rfl rfl hl
          refine wk_iadd hx hb dX7_boxes_25 ?_
          refine lv_istore_n (lv' := [(1, .int (nI ((bxs G k) + (bn (0 < G k))))), (0, .ref h0), (2, .int (nI k))]) hx hb dX7_boxes_26 rfl hl (by decide) rfl (fun ls hl => ?_)
          refine lv_iinc (v := nI (k + 1)) (lv' := [(2, .int (nI (k + 1))), (1, .int (nI ((bxs G k) + (bn (0 < G k))))), (0, .ref h0)]) hx hb dX7_boxes_27 hl (k := 2) rfl (wk_inc _ 1 rfl) (by decide) rfl (fun ls hl => ?_)
          refine lv_goto (tgt := 4) hx hb dX7_boxes_30 (by decide) ?_
          exact ih_4 (k + 1) _ _ ls (by omega) (by omega) (rfl) (rfl) (lv_sub hl [2, 1, 0] rfl)
        refine lv_iload_n hx hb dX7_boxes_10 rfl (lv_at hl 1 rfl) ?_
        refine lv_aload_n hx hb dX7_boxes_11 rfl (lv_at hl 0 rfl) ?_
        refine va_get (D := (dC, dI)) (ci := 6) (v := .ref a3) (C := RX7) (T := TX7) (N := 17) hx hb hts hinX7 hown hK hP 0 hw0 rfl 3 (by decide) (hts (.fieldLink RX7 7 "ReshuffleSearchModel" "group" "[I") (by decide +kernel)) (fun _ h9 => h9) hf3 dX7_boxes_12 ?_
        refine lv_iload_n hx hb dX7_boxes_15 rfl (lv_at hl 2 rfl) ?_
        refine wk_iald hx hb hK hP 1 0 hw1 ht1 (by omega) dX7_boxes_16 ?_
        refine wk_if_le (tgt := 24) hx hb (hG _) dX7_boxes_17 (by decide) (fun c_17 => ?_) (fun c_17 => ?_)
        · refine lv_iconst (v := nI 0) hx hb dX7_boxes_24 (by decide +kernel) ?_
          exact cut_25 _ _ _ ls (rfl) (by rw [bn_f (by omega)]) (rfl) (lv_sub hl [0, 2] rfl)
        · refine lv_iconst (v := nI 1) hx hb dX7_boxes_20 (by decide +kernel) ?_
          refine lv_goto (tgt := 25) hx hb dX7_boxes_21 (by decide) ?_
          exact cut_25 _ _ _ ls (rfl) (by rw [bn_t (by omega)]) (rfl) (lv_sub hl [0, 2] rfl)
  exact cut_4 (16 + 1) 0 _ _ ls (by omega) (by omega) (rfl) (rfl) (lv_sub hl [2, 1, 0] rfl)
set_option maxHeartbeats 4000000 in
set_option maxRecDepth 100000 in
theorem c_X7_height (l : Launch) (dC : Nat → ClassId) (dI : Nat → Nat → Nat) (ws : va_W) (tys : List (ClassId × FieldType)) (h0 : Nat) (fs : List Value) (hw0 : ws[0]? = some (h0, .inr (6, fs))) (t : Nat) (hf2 : fs[2]? = some (.int (nI t))) (ht0 : 2 ≤ t ∧ t ≤ 4) (x s0 : Nat) (hx0 : x < 2 ^ 48) (hs0 : s0 < 4) : Met l yX7_height wsX7_height ({ frames := 1, cells := 0, slots := 0, locals := 23 }) (va_Pc [.ref h0, .long (lN x), .int (nI s0)] (fun U => va_P (dC, dI) vwCl ws U.heap ∧ va_K (dC, dI) vwCl tys U)) (pu_Q (.int (nI (mht x s0 t)))) 0 0 (fun _ => False) := by
  refine Met.ofW (cc := cX7_height) (maxL := 5) (ret := (some .int)) (by decide) rfl ?_
  intro p e s m args below meth c s₁ B hml hv
  obtain ⟨rfl, hP, hK⟩ := hv
  have hx := B.exec
  have hb := B.bytes
  have hr := B.returns
  have hts := atoms_spec (ws := wsX7_height) B.pre
  have hown : s.vm.findClass RX7 = some m.cls := findClass_of_methodNamed B.named
  have hlocks := B.notSynchronized
  have hinX7 : ∀ w ∈ u_ws RX7 TX7 17, w ∈ wsX7_height := by decide +kernel
  have hl := lv_entry ([.ref h0, .long (lN x), .int (nI s0)]) (n := 5) (Nat.le_of_ble_eq_true rfl)
  rw [lg_entry_eq]
  generalize (lg_sl ([.ref h0, .long (lN x), .int (nI s0)]) ++ List.replicate (5 - (lg_sl ([.ref h0, .long (lN x), .int (nI s0)])).length) Slot.unset).toArray = ls at hl ⊢
  have hl : lv_has ls 5 [(0, .ref h0), (1, .long (lN x)), (3, .int (nI s0))] := hl
  refine lv_iconst (v := nI 0) hx hb dX7_height_0 (by decide +kernel) ?_
  refine lv_istore (lv' := [(4, .int (nI 0)), (0, .ref h0), (1, .long (lN x)), (3, .int (nI s0))]) hx hb dX7_height_1 hl (by decide) rfl (fun ls hl => ?_)
  have cut_3 : ∀ (n_3 : Nat) (k : Nat) (v3_1 : Int64) (v3_3 : Int32) (v3_4 : Int32) (ls : Array Slot) (hk : k ≤ t) (he : fz (fun j => yr x (4 * s0 + j)) (t - k) k = mht x s0 t) (hn_3 : t - k < n_3) (_ : v3_1 = lN x) (_ : v3_3 = nI s0) (_ : v3_4 = nI k) (_ : lv_has ls 5 [(0, .ref h0), (1, .long v3_1), (3, .int v3_3), (4, .int v3_4)]), W p l e (headSpec wsX7_height ({ frames := 1, cells := 0, slots := 0, locals := 23 })).room s m ([.ref h0, .long (lN x), .int (nI s0)] : List Value).toArray below meth c s.heap [] 0 0 (MQ below (pu_Q (.int (nI (mht x s0 t)))) ([.ref h0, .long (lN x), .int (nI s0)] : List Value).toArray s 0 0 (fun _ => False)) (F0 m 3 ls []) := by
    intro n_3
    induction n_3 with
    | zero => intros; omega
    | succ n_3 ih_3 =>
      rintro k v3_1 v3_3 v3_4 ls hk he hn_3 rfl rfl rfl hl
      have hq := yr_lt x (4 * s0 + k)
      refine lv_iload hx hb dX7_height_3 (lv_at hl 3 rfl) ?_
      refine lv_aload_n hx hb dX7_height_5 rfl (lv_at hl 0 rfl) ?_
      refine va_get (D := (dC, dI)) (ci := 6) (v := .int (nI t)) (C := RX7) (T := TX7) (N := 17) hx hb hts hinX7 hown hK hP 0 hw0 rfl 2 (by decide) (hts (.fieldLink RX7 47 "ReshuffleSearchModel" "tiers" "I") (by decide +kernel)) (fun _ h9 => h9) hf2 dX7_height_6 ?_
      refine wk_icmp_ge (tgt := 28) hx hb (by omega) (by omega) dX7_height_9 (by decide) (fun c_9 => ?_) (fun c_9 => ?_)
      · refine lv_iload hx hb dX7_height_28 (lv_at hl 3 rfl) ?_
        refine wk_ti (v' := nI (mht x s0 t)) (by rw [← he]; first | (rw [show t - k = 0 by omega]; rfl) | (rw [show t - k = (t - (k + 1)) + 1 by omega, fz_s, if_pos c_19])) ?_
        exact W.iret hx hb hr (fun t9 ht _ => ⟨rfl, ht⟩) (fun _ h => nomatch h) dX7_height_30
      · refine lv_lload_n hx hb dX7_height_12 rfl (lv_at hl 1 rfl) ?_
        refine lv_iload_n hx hb dX7_height_13 rfl (lv_at hl 2 rfl) ?_
        refine lv_iload hx hb dX7_height_14 (lv_at hl 3 rfl) ?_
        refine pu_go (va_runS (As := [.long (lN x), .int (nI s0), .int (nI k)]) (rest := []) ⟨hx, hb, hml, hown, hts⟩ (c_X7_box l x s0 k (by first | omega | assumption) (by first | omega | assumption)) (va_cwS 3 hts gX7_height_X7_box rfl rfl rfl (by decide +kernel) ⟨Nat.le_of_ble_eq_true rfl, Nat.le_of_ble_eq_true rfl⟩) ⟨fun _ _ _ _ q => q, fun _ _ _ => ⟨rfl, trivial⟩⟩ rfl rfl hl.1 rfl (lv_room (Nat.le_of_ble_eq_true rfl)) dX7_height_16 ⟨Nat.le_refl _, Nat.le_refl _⟩) ?_
        refine wk_if_le (tgt := 28) hx hb (by omega) dX7_height_19 (by decide) (fun c_19 => ?_) (fun c_19 => ?_)
        · refine lv_iload hx hb dX7_height_28 (lv_at hl 3 rfl) ?_
          refine wk_ti (v' := nI (mht x s0 t)) (by rw [← he]; first | (rw [show t - k = 0 by omega]; rfl) | (rw [show t - k = (t - (k + 1)) + 1 by omega, fz_s, if_pos c_19])) ?_
          exact W.iret hx hb hr (fun t9 ht _ => ⟨rfl, ht⟩) (fun _ h => nomatch h) dX7_height_30
        · refine lv_iinc (v := nI (k + 1)) (lv' := [(4, .int (nI (k + 1))), (0, .ref h0), (1, .long (lN x)), (3, .int (nI s0))]) hx hb dX7_height_22 hl (k := 3) rfl (wk_inc _ 1 rfl) (by decide) rfl (fun ls hl => ?_)
          refine lv_goto (tgt := 3) hx hb dX7_height_25 (by decide) ?_
          exact ih_3 (k + 1) _ _ _ ls (by omega) (by rw [← he, show t - k = (t - (k + 1)) + 1 by omega, fz_s, if_neg (by show ¬ yr _ _ = 0; omega)]) (by omega) (rfl) (rfl) (rfl) (lv_sub hl [1, 2, 3, 0] rfl)
  exact cut_3 (t + 1) 0 _ _ _ ls (by omega) (rfl) (by omega) (rfl) (rfl) (rfl) (lv_sub hl [1, 2, 3, 0] rfl)
set_option maxHeartbeats 4000000 in
set_option maxRecDepth 100000 in
theorem c_X7_least (l : Launch) (dC : Nat → ClassId) (dI : Nat → Nat → Nat) (ws : va_W) (tys : List (ClassId × FieldType)) (h0 : Nat) (fs : List Value) (hw0 : ws[0]? = some (h0, .inr (6, fs))) (x : Nat) (hx0 : x < 2 ^ 48) : Met l yX7_least wsX7_least ({ frames := 0, cells := 0, slots := 0, locals := 0 }) (va_Pc [.ref h0, .long (lN x)] (fun U => va_P (dC, dI) vwCl ws U.heap ∧ va_K (dC, dI) vwCl tys U)) (pu_Q (.int (nI (ylo x 16)))) 0 0 (fun _ => False) := by
  refine Met.ofW (cc := cX7_least) (maxL := 6) (ret := (some .int)) (by decide) rfl ?_
  intro p e s m args below meth c s₁ B hml hv
  obtain ⟨rfl, hP, hK⟩ := hv
  have hx := B.exec
  have hb := B.bytes
  have hr := B.returns
  have hts := atoms_spec (ws := wsX7_least) B.pre
  have hown : s.vm.findClass RX7 = some m.cls := findClass_of_methodNamed B.named
  have hlocks := B.notSynchronized
  have hl := lv_entry ([.ref h0, .long (lN x)]) (n := 6) (Nat.le_of_ble_eq_true rfl)
  rw [lg_entry_eq]
  generalize (lg_sl ([.ref h0, .long (lN x)]) ++ List.replicate (6 - (lg_sl ([.ref h0, .long (lN x)])).length) Slot.unset).toArray = ls at hl ⊢
  have hl : lv_has ls 6 [(0, .ref h0), (1, .long (lN x))] := hl
  refine lv_bipush (v := nI 7) hx hb dX7_least_0 (by decide +kernel) ?_
  refine lv_istore_n (lv' := [(3, .int (nI 7)), (0, .ref h0), (1, .long (lN x))]) hx hb dX7_least_2 rfl hl (by decide) rfl (fun ls hl => ?_)
  refine lv_iconst (v := nI 0) hx hb dX7_least_3 (by decide +kernel) ?_
  refine lv_istore (lv' := [(4, .int (nI 0)), (3, .int (nI 7)), (0, .ref h0), (1, .long (lN x))]) hx hb dX7_least_4 hl (by decide) rfl (fun ls hl => ?_)
  have cut_6 : ∀ (n_6 : Nat) (k : Nat) (v6_1 : Int64) (v6_3 : Int32) (v6_4 : Int32) (ls : Array Slot) (hk : k ≤ 16) (hn_6 : 16 - k < n_6) (_ : v6_1 = lN x) (_ : v6_3 = nI (ylo x k)) (_ : v6_4 = nI k) (_ : lv_has ls 6 [(0, .ref h0), (1, .long v6_1), (3, .int v6_3), (4, .int v6_4)]), W p l e (headSpec wsX7_least ({ frames := 0, cells := 0, slots := 0, locals := 0 })).room s m ([.ref h0, .long (lN x)] : List Value).toArray below meth c s.heap [] 0 0 (MQ below (pu_Q (.int (nI (ylo x 16)))) ([.ref h0, .long (lN x)] : List Value).toArray s 0 0 (fun _ => False)) (F0 m 6 ls []) := by
    intro n_6
    induction n_6 with
    | zero => intros; omega
    | succ n_6 ih_6 =>
      rintro k v6_1 v6_3 v6_4 ls hk hn_6 rfl rfl rfl hl
      have hq1 := yr_lt x k
      have hq2 := ylo_lt x k
      refine lv_iload hx hb dX7_least_6 (lv_at hl 3 rfl) ?_
      refine lv_bipush (v := nI 16) hx hb dX7_least_8 (by decide +kernel) ?_
      refine wk_icmp_ge (tgt := 50) hx hb (by omega) (by omega) dX7_least_10 (by decide) (fun c_10 => ?_) (fun c_10 => ?_)
      · refine lv_iload_n hx hb dX7_least_50 rfl (lv_at hl 2 rfl) ?_
        refine wk_ti (v' := nI (ylo x 16)) (by rw [show k = 16 by omega]) ?_
        exact W.iret hx hb hr (fun t9 ht _ => ⟨rfl, ht⟩) (fun _ h => nomatch h) dX7_least_51
      · refine lv_lload_n hx hb dX7_least_13 rfl (lv_at hl 1 rfl) ?_
        refine lv_iconst (v := nI 3) hx hb dX7_least_14 (by decide +kernel) ?_
        refine lv_iload hx hb dX7_least_15 (lv_at hl 3 rfl) ?_
        refine wk_imul hx hb dX7_least_17 ?_
        refine wk_lshr hx hb (by omega) (by omega) dX7_least_18 ?_
        refine lv_ldc2 (v := 7) hx hb hown (hts (.constantLong RX7 65 (7)) (by decide +kernel)) dX7_least_19 ?_
        refine wk_tl (v' := lN 7) (by decide +kernel) ?_
        refine lv_land hx hb dX7_least_22 ?_
        refine wk_tl (v' := lN (x / 2 ^ (3 * k) % 8)) (wb_mask (k := 3) (by have := Nat.div_le_self x (2 ^ (3 * k)); omega) (by decide)) ?_
        refine wk_l2i hx hb dX7_least_23 ?_
        refine wk_ti (v' := nI (yr x k)) (by unfold yr; rw [Nat.mul_comm 3]) ?_
        refine lv_istore (lv' := [(5, .int (nI (yr x k))), (0, .ref h0), (1, .long (lN x)), (3, .int (nI (ylo x k))), (4, .int (nI k))]) hx hb dX7_least_24 hl (by decide) rfl (fun ls hl => ?_)
        have cut_43 : ∀ (v43_1 : Int64) (v43_3 : Int32) (v43_4 : Int32) (u43_0 : Int32) (ls : Array Slot) (_ : v43_1 = lN x) (_ : v43_3 = nI (ylo x k)) (_ : v43_4 = nI k) (_ : u43_0 = nI (ylo x (k + 1))) (_ : lv_has ls 6 [(0, .ref h0), (1, .long v43_1), (3, .int v43_3), (4, .int v43_4)]), W p l e (headSpec wsX7_least ({ frames := 0, cells := 0, slots := 0, locals := 0 })).room s m ([.ref h0, .long (lN x)] : List Value).toArray below meth c s.heap [] 0 0 (MQ below (pu_Q (.int (nI (ylo x 16)))) ([.ref h0, .long (lN x)] : List Value).toArray s 0 0 (fun _ => False)) (F0 m 43 ls [.int u43_0]) := by
          rintro v43_1 v43_3 v43_4 u43_0 ls rfl rfl rfl rfl hl
          refine lv_istore_n (lv' := [(3, .int (nI (ylo x (k + 1)))), (0, .ref h0), (1, .long (lN x)), (4, .int (nI k))]) hx hb dX7_least_43 rfl hl (by decide) rfl (fun ls hl => ?_)
          refine lv_iinc (v := nI (k + 1)) (lv' := [(4, .int (nI (k + 1))), (3, .int (nI (ylo x (k + 1)))), (0, .ref h0), (1, .long (lN x))]) hx hb dX7_least_44 hl (k := 3) rfl (wk_inc _ 1 rfl) (by decide) rfl (fun ls hl => ?_)
          refine lv_goto (tgt := 6) hx hb dX7_least_47 (by decide) ?_
          exact ih_6 (k + 1) _ _ _ ls (by omega) (by omega) (rfl) (rfl) (rfl) (lv_sub hl [2, 3, 1, 0] rfl)
        refine lv_iload hx hb dX7_least_26 (lv_at hl 0 rfl) ?_
        refine wk_if_le (tgt := 42) hx hb (by omega) dX7_least_28 (by decide) (fun c_28 => ?_) (fun c_28 => ?_)
        · refine lv_iload_n hx hb dX7_least_42 rfl (lv_at hl 3 rfl) ?_
          exact cut_43 _ _ _ _ ls (rfl) (rfl) (rfl) (by show nI _ = nI (ite _ _ _); rw [if_neg (by omega)]) (lv_sub hl [1, 2, 3, 4] rfl)
        · refine lv_iload hx hb dX7_least_31 (lv_at hl 0 rfl) ?_
          refine lv_iload_n hx hb dX7_least_33 rfl (lv_at hl 3 rfl) ?_
          refine wk_icmp_ge (tgt := 42) hx hb (by omega) (by omega) dX7_least_34 (by decide) (fun c_34 => ?_) (fun c_34 => ?_)
          · refine lv_iload_n hx hb dX7_least_42 rfl (lv_at hl 3 rfl) ?_
            exact cut_43 _ _ _ _ ls (rfl) (rfl) (rfl) (by show nI _ = nI (ite _ _ _); rw [if_neg (by omega)]) (lv_sub hl [1, 2, 3, 4] rfl)
          · refine lv_iload hx hb dX7_least_37 (lv_at hl 0 rfl) ?_
            refine lv_goto (tgt := 43) hx hb dX7_least_39 (by decide) ?_
            exact cut_43 _ _ _ _ ls (rfl) (rfl) (rfl) (by show nI _ = nI (ite _ _ _); rw [if_pos (by omega)]) (lv_sub hl [1, 2, 3, 4] rfl)
  exact cut_6 (16 + 1) 0 _ _ _ ls (by omega) (by omega) (rfl) (rfl) (rfl) (lv_sub hl [2, 3, 1, 0] rfl)
theorem mleft_st {n t z r : Nat} (h : mleft n t z = r) : if (mps (ylo z 16) t z n).2 = 0 then (mps (ylo z 16) t z n).1 = r else mleft n t (mps (ylo z 16) t z n).1 = r := by
  rw [mleft_eq] at h
  by_cases h9 : (mps (ylo z 16) t z n).2 = 0
  · rw [if_pos h9] at h ⊢; exact h
  · rw [if_neg h9] at h ⊢; exact h
set_option maxHeartbeats 4000000 in
set_option maxRecDepth 100000 in
theorem c_X7_left (l : Launch) (dC : Nat → ClassId) (dI : Nat → Nat → Nat) (ws : va_W) (tys : List (ClassId × FieldType)) (h0 : Nat) (fs : List Value) (hw0 : ws[0]? = some (h0, .inr (6, fs))) (n : Nat) (hf1 : fs[1]? = some (.int (nI n))) (hn0 : 2 ≤ n ∧ n ≤ 4) (t : Nat) (hf2 : fs[2]? = some (.int (nI t))) (ht0 : 2 ≤ t ∧ t ≤ 4) (x : Nat) (hx0 : x < 2 ^ 48) : Met l yX7_left wsX7_left ({ frames := 2, cells := 0, slots := 0, locals := 47 }) (va_Pc [.ref h0, .long (lN x)] (fun U => va_P (dC, dI) vwCl ws U.heap ∧ va_K (dC, dI) vwCl tys U)) (pu_Q (.long (lN (mleft n t x)))) 0 0 (fun _ => False) := by
  refine Met.ofW (cc := cX7_left) (maxL := 9) (ret := (some .long)) (by decide) rfl ?_
  intro p e s m args below meth c s₁ B hml hv
  obtain ⟨rfl, hP, hK⟩ := hv
  have hx := B.exec
  have hb := B.bytes
  have hr := B.returns
  have hts := atoms_spec (ws := wsX7_left) B.pre
  have hown : s.vm.findClass RX7 = some m.cls := findClass_of_methodNamed B.named
  have hlocks := B.notSynchronized
  have hinX7 : ∀ w ∈ u_ws RX7 TX7 17, w ∈ wsX7_left := by decide +kernel
  have hl := lv_entry ([.ref h0, .long (lN x)]) (n := 9) (Nat.le_of_ble_eq_true rfl)
  rw [lg_entry_eq]
  generalize (lg_sl ([.ref h0, .long (lN x)]) ++ List.replicate (9 - (lg_sl ([.ref h0, .long (lN x)])).length) Slot.unset).toArray = ls at hl ⊢
  have hl : lv_has ls 9 [(0, .ref h0), (1, .long (lN x))] := hl
  refine lv_lload_n hx hb dX7_left_0 rfl (lv_at hl 1 rfl) ?_
  refine lv_lstore_n (lv' := [(3, .long (lN x)), (0, .ref h0), (1, .long (lN x))]) hx hb dX7_left_1 rfl hl (by decide) rfl (fun ls hl => ?_)
  refine lv_iconst (v := nI 1) hx hb dX7_left_2 (by decide +kernel) ?_
  refine lv_istore (lv' := [(5, .int (nI 1)), (3, .long (lN x)), (0, .ref h0), (1, .long (lN x))]) hx hb dX7_left_3 hl (by decide) rfl (fun ls hl => ?_)
  have cut_5 : ∀ (n_5 : Nat) (z : Nat) (mo : Nat) (v5_1 : Int64) (v5_3 : Int64) (v5_5 : Int32) (ls : Array Slot) (hz : z < 2 ^ 48) (hm : mo < 2) (he : if mo = 0 then z = mleft n t x else mleft n t z = mleft n t x) (hn_5 : 2 * z + mo < n_5) (_ : v5_1 = lN x) (_ : v5_3 = lN z) (_ : v5_5 = nI mo) (_ : lv_has ls 9 [(0, .ref h0), (1, .long v5_1), (3, .long v5_3), (5, .int v5_5)]), W p l e (headSpec wsX7_left ({ frames := 2, cells := 0, slots := 0, locals := 47 })).room s m ([.ref h0, .long (lN x)] : List Value).toArray below meth c s.heap [] 0 0 (MQ below (pu_Q (.long (lN (mleft n t x)))) ([.ref h0, .long (lN x)] : List Value).toArray s 0 0 (fun _ => False)) (F0 m 5 ls []) := by
    intro n_5
    induction n_5 with
    | zero => intros; omega
    | succ n_5 ih_5 =>
      rintro z mo v5_1 v5_3 v5_5 ls hz hm he hn_5 rfl rfl rfl hl
      refine lv_iload hx hb dX7_left_5 (lv_at hl 3 rfl) ?_
      refine wk_if_eq (tgt := 84) hx hb (by omega) dX7_left_7 (by decide) (fun c_7 => ?_) (fun c_7 => ?_)
      · refine lv_lload_n hx hb dX7_left_84 rfl (lv_at hl 2 rfl) ?_
        refine wk_tl (v' := lN (mleft n t x)) (by rw [if_pos c_7] at he; rw [he]) ?_
        exact W.lret hx hb hr (fun t9 ht _ => ⟨rfl, ht⟩) (fun _ h => nomatch h) dX7_left_85
      · refine lv_iconst (v := nI 0) hx hb dX7_left_10 (by decide +kernel) ?_
        refine lv_istore (lv' := [(5, .int (nI 0)), (0, .ref h0), (1, .long (lN x)), (3, .long (lN z))]) hx hb dX7_left_11 hl (by decide) rfl (fun ls hl => ?_)
        have hq2 := ylo_lt z 16
        refine lv_aload_n hx hb dX7_left_13 rfl (lv_at hl 1 rfl) ?_
        refine lv_lload_n hx hb dX7_left_14 rfl (lv_at hl 3 rfl) ?_
        refine pu_go (va_runV (As := [.long (lN z)]) (rest := []) ⟨hx, hb, hml, hown, hts⟩ (c_X7_least l dC dI ws tys h0 fs hw0 z (by first | omega | assumption)) (cwV 1 hts gX7_left_X7_least rfl rfl rfl (by decide +kernel) ⟨Nat.le_of_ble_eq_true rfl, Nat.le_of_ble_eq_true rfl⟩) ⟨fun a U g mk q => ⟨q.1, q.2.1, va_K.moved (u := U) (U := U.calling g mk a) (Vm.Alike.refl U.vm) q.2.2⟩, va_recv hK hP (ci := 6) (q0 := 0) rfl hw0, fun U hU hW => ⟨rfl, by rw [hU]; exact hP, va_K.moved hW.alike hK⟩⟩ rfl rfl hl.1 rfl (lv_room (Nat.le_of_ble_eq_true rfl)) dX7_left_15 ⟨Nat.le_refl _, Nat.le_refl _⟩) ?_
        refine lv_istore (lv' := [(6, .int (nI (ylo z 16))), (5, .int (nI 0)), (0, .ref h0), (1, .long (lN x)), (3, .long (lN z))]) hx hb dX7_left_18 hl (by decide) rfl (fun ls hl => ?_)
        refine lv_iconst (v := nI 0) hx hb dX7_left_20 (by decide +kernel) ?_
        refine lv_istore (lv' := [(7, .int (nI 0)), (6, .int (nI (ylo z 16))), (5, .int (nI 0)), (0, .ref h0), (1, .long (lN x)), (3, .long (lN z))]) hx hb dX7_left_21 hl (by decide) rfl (fun ls hl => ?_)
        have cut_23 : ∀ (n_23 : Nat) (k : Nat) (v23_1 : Int64) (v23_3 : Int64) (v23_5 : Int32) (v23_6 : Int32) (v23_7 : Int32) (ls : Array Slot) (hk : k ≤ n) (hn_23 : n - k < n_23) (_ : v23_1 = lN x) (_ : v23_3 = lN ((mps (ylo z 16) t z k).1)) (_ : v23_5 = nI ((mps (ylo z 16) t z k).2)) (_ : v23_6 = nI (ylo z 16)) (_ : v23_7 = nI k) (_ : lv_has ls 9 [(0, .ref h0), (1, .long v23_1), (3, .long v23_3), (5, .int v23_5), (6, .int v23_6), (7, .int v23_7)]), W p l e (headSpec wsX7_left ({ frames := 2, cells := 0, slots := 0, locals := 47 })).room s m ([.ref h0, .long (lN x)] : List Value).toArray below meth c s.heap [] 0 0 (MQ below (pu_Q (.long (lN (mleft n t x)))) ([.ref h0, .long (lN x)] : List Value).toArray s 0 0 (fun _ => False)) (F0 m 23 ls []) := by
          intro n_23
          induction n_23 with
          | zero => intros; omega
          | succ n_23 ih_23 =>
            rintro k v23_1 v23_3 v23_5 v23_6 v23_7 ls hk hn_23 rfl rfl rfl rfl rfl hl
            have hq3 := mps_ok (ylo z 16) t z k
            have hq3z : (mps (ylo z 16) t z k).1 < 2 ^ 48 := by omega
            have hq5 := mht_le (mps (ylo z 16) t z k).1 k t
            have hq6 := yr_lt (mps (ylo z 16) t z k).1 (4 * k + (mht (mps (ylo z 16) t z k).1 k t - 1))
            refine lv_iload hx hb dX7_left_23 (lv_at hl 5 rfl) ?_
            refine lv_aload_n hx hb dX7_left_25 rfl (lv_at hl 0 rfl) ?_
            refine va_get (D := (dC, dI)) (ci := 6) (v := .int (nI n)) (C := RX7) (T := TX7) (N := 17) hx hb hts hinX7 hown hK hP 0 hw0 rfl 1 (by decide) (hts (.fieldLink RX7 43 "ReshuffleSearchModel" "stacks" "I") (by decide +kernel)) (fun _ h9 => h9) hf1 dX7_left_26 ?_
            refine wk_icmp_ge (tgt := 81) hx hb (by omega) (by omega) dX7_left_29 (by decide) (fun c_29 => ?_) (fun c_29 => ?_)
            · have hq4 := mps_ok (ylo z 16) t z n
              refine lv_goto (tgt := 5) hx hb dX7_left_81 (by decide) ?_
              exact ih_5 ((mps (ylo z 16) t z n).1) ((mps (ylo z 16) t z n).2) _ _ _ ls (by have := hq4.1; omega) (hq4.2.1) (by rw [if_neg c_7] at he; exact mleft_st he) (by omega) (rfl) (by rw [show k = n by omega]) (by rw [show k = n by omega]) (lv_sub hl [0, 1, 2, 3] rfl)
            · refine lv_aload_n hx hb dX7_left_32 rfl (lv_at hl 0 rfl) ?_
              refine lv_lload_n hx hb dX7_left_33 rfl (lv_at hl 2 rfl) ?_
              refine lv_iload hx hb dX7_left_34 (lv_at hl 5 rfl) ?_
              refine pu_go (va_runV (As := [.long (lN ((mps (ylo z 16) t z k).1)), .int (nI k)]) (rest := []) ⟨hx, hb, hml, hown, hts⟩ (c_X7_height l dC dI ws tys h0 fs hw0 t hf2 ht0 ((mps (ylo z 16) t z k).1) k (by first | omega | assumption) (by first | omega | assumption)) (cwV 2 hts gX7_left_X7_height rfl rfl rfl (by decide +kernel) ⟨Nat.le_of_ble_eq_true rfl, Nat.le_of_ble_eq_true rfl⟩) ⟨fun a U g mk q => ⟨q.1, q.2.1, va_K.moved (u := U) (U := U.calling g mk a) (Vm.Alike.refl U.vm) q.2.2⟩, va_recv hK hP (ci := 6) (q0 := 0) rfl hw0, fun U hU hW => ⟨rfl, by rw [hU]; exact hP, va_K.moved hW.alike hK⟩⟩ rfl rfl hl.1 rfl (lv_room (Nat.le_of_ble_eq_true rfl)) dX7_left_36 ⟨Nat.le_refl _, Nat.le_refl _⟩) ?_
              refine lv_istore (lv' := [(8, .int (nI (mht ((mps (ylo z 16) t z k).1) k t))), (0, .ref h0), (1, .long (lN x)), (3, .long (lN ((mps (ylo z 16) t z k).1))), (5, .int (nI ((mps (ylo z 16) t z k).2))), (6, .int (nI (ylo z 16))), (7, .int (nI k))]) hx hb dX7_left_39 hl (by decide) rfl (fun ls hl => ?_)
              have cut_75 : ∀ (v75_1 : Int64) (v75_3 : Int64) (v75_5 : Int32) (v75_6 : Int32) (v75_7 : Int32) (ls : Array Slot) (_ : v75_1 = lN x) (_ : v75_3 = lN ((mps (ylo z 16) t z (k + 1)).1)) (_ : v75_5 = nI ((mps (ylo z 16) t z (k + 1)).2)) (_ : v75_6 = nI (ylo z 16)) (_ : v75_7 = nI k) (_ : lv_has ls 9 [(0, .ref h0), (1, .long v75_1), (3, .long v75_3), (5, .int v75_5), (6, .int v75_6), (7, .int v75_7)]), W p l e (headSpec wsX7_left ({ frames := 2, cells := 0, slots := 0, locals := 47 })).room s m ([.ref h0, .long (lN x)] : List Value).toArray below meth c s.heap [] 0 0 (MQ below (pu_Q (.long (lN (mleft n t x)))) ([.ref h0, .long (lN x)] : List Value).toArray s 0 0 (fun _ => False)) (F0 m 75 ls []) := by
                rintro v75_1 v75_3 v75_5 v75_6 v75_7 ls rfl rfl rfl rfl rfl hl
                refine lv_iinc (v := nI (k + 1)) (lv' := [(7, .int (nI (k + 1))), (0, .ref h0), (1, .long (lN x)), (3, .long (lN ((mps (ylo z 16) t z (k + 1)).1))), (5, .int (nI ((mps (ylo z 16) t z (k + 1)).2))), (6, .int (nI (ylo z 16)))]) hx hb dX7_left_75 hl (k := 5) rfl (wk_inc _ 1 rfl) (by decide) rfl (fun ls hl => ?_)
                refine lv_goto (tgt := 23) hx hb dX7_left_78 (by decide) ?_
                exact ih_23 (k + 1) _ _ _ _ _ ls (by omega) (by omega) (rfl) (rfl) (rfl) (rfl) (rfl) (lv_sub hl [1, 2, 3, 4, 5, 0] rfl)
              refine lv_iload hx hb dX7_left_41 (lv_at hl 0 rfl) ?_
              refine wk_if_le (tgt := 75) hx hb (by omega) dX7_left_43 (by decide) (fun c_43 => ?_) (fun c_43 => ?_)
              · exact cut_75 _ _ _ _ _ ls (rfl) (by rw [mps_s, if_neg (by omega)]) (by rw [mps_s, if_neg (by omega)]) (rfl) (rfl) (lv_sub hl [1, 2, 3, 4, 5, 6] rfl)
              · refine lv_lload_n hx hb dX7_left_46 rfl (lv_at hl 3 rfl) ?_
                refine lv_iload hx hb dX7_left_47 (lv_at hl 6 rfl) ?_
                refine lv_iload hx hb dX7_left_49 (lv_at hl 0 rfl) ?_
                refine lv_iconst (v := nI 1) hx hb dX7_left_51 (by decide +kernel) ?_
                refine wk_isub hx hb (by omega) dX7_left_52 ?_
                refine pu_go (va_runS (As := [.long (lN ((mps (ylo z 16) t z k).1)), .int (nI k), .int (nI ((mht ((mps (ylo z 16) t z k).1) k t) - 1))]) (rest := []) ⟨hx, hb, hml, hown, hts⟩ (c_X7_box l ((mps (ylo z 16) t z k).1) k ((mht ((mps (ylo z 16) t z k).1) k t) - 1) (by first | omega | assumption) (by first | omega | assumption)) (va_cwS 3 hts gX7_left_X7_box rfl rfl rfl (by decide +kernel) ⟨Nat.le_of_ble_eq_true rfl, Nat.le_of_ble_eq_true rfl⟩) ⟨fun _ _ _ _ q => q, fun _ _ _ => ⟨rfl, trivial⟩⟩ rfl rfl hl.1 rfl (lv_room (Nat.le_of_ble_eq_true rfl)) dX7_left_53 ⟨Nat.le_refl _, Nat.le_refl _⟩) ?_
                refine lv_iload hx hb dX7_left_56 (lv_at hl 5 rfl) ?_
                refine wk_icmp_ne (tgt := 75) hx hb (by omega) (by omega) dX7_left_58 (by decide) (fun c_58 => ?_) (fun c_58 => ?_)
                · exact cut_75 _ _ _ _ _ ls (rfl) (by rw [mps_s, if_neg (fun q => c_58 q.2)]) (by rw [mps_s, if_neg (fun q => c_58 q.2)]) (rfl) (rfl) (lv_sub hl [1, 2, 3, 4, 5, 6] rfl)
                · refine lv_lload_n hx hb dX7_left_61 rfl (lv_at hl 3 rfl) ?_
                  refine lv_iload hx hb dX7_left_62 (lv_at hl 6 rfl) ?_
                  refine lv_iload hx hb dX7_left_64 (lv_at hl 0 rfl) ?_
                  refine lv_iconst (v := nI 1) hx hb dX7_left_66 (by decide +kernel) ?_
                  refine wk_isub hx hb (by omega) dX7_left_67 ?_
                  refine pu_go (va_runS (As := [.long (lN ((mps (ylo z 16) t z k).1)), .int (nI k), .int (nI ((mht ((mps (ylo z 16) t z k).1) k t) - 1))]) (rest := []) ⟨hx, hb, hml, hown, hts⟩ (c_X7_without l ((mps (ylo z 16) t z k).1) k ((mht ((mps (ylo z 16) t z k).1) k t) - 1) (by first | omega | assumption) (by first | omega | assumption)) (va_cwS 3 hts gX7_left_X7_without rfl rfl rfl (by decide +kernel) ⟨Nat.le_of_ble_eq_true rfl, Nat.le_of_ble_eq_true rfl⟩) ⟨fun _ _ _ _ q => q, fun _ _ _ => ⟨rfl, trivial⟩⟩ rfl rfl hl.1 rfl (lv_room (Nat.le_of_ble_eq_true rfl)) dX7_left_68 ⟨Nat.le_refl _, Nat.le_refl _⟩) ?_
                  refine lv_lstore_n (lv' := [(3, .long (lN (mwo ((mps (ylo z 16) t z k).1) (4 * k + ((mht ((mps (ylo z 16) t z k).1) k t) - 1))))), (8, .int (nI (mht ((mps (ylo z 16) t z k).1) k t))), (0, .ref h0), (1, .long (lN x)), (5, .int (nI ((mps (ylo z 16) t z k).2))), (6, .int (nI (ylo z 16))), (7, .int (nI k))]) hx hb dX7_left_71 rfl hl (by decide) rfl (fun ls hl => ?_)
                  refine lv_iconst (v := nI 1) hx hb dX7_left_72 (by decide +kernel) ?_
                  refine lv_istore (lv' := [(5, .int (nI 1)), (3, .long (lN (mwo ((mps (ylo z 16) t z k).1) (4 * k + ((mht ((mps (ylo z 16) t z k).1) k t) - 1))))), (8, .int (nI (mht ((mps (ylo z 16) t z k).1) k t))), (0, .ref h0), (1, .long (lN x)), (6, .int (nI (ylo z 16))), (7, .int (nI k))]) hx hb dX7_left_73 hl (by decide) rfl (fun ls hl => ?_)
                  exact cut_75 _ _ _ _ _ ls (rfl) (by rw [mps_s, if_pos ⟨c_43, c_58⟩]) (by rw [mps_s, if_pos ⟨c_43, c_58⟩]) (rfl) (rfl) (lv_sub hl [3, 4, 1, 0, 5, 6] rfl)
        exact cut_23 (n + 1) 0 _ _ _ _ _ ls (by omega) (by omega) (rfl) (rfl) (rfl) (rfl) (rfl) (lv_sub hl [3, 4, 5, 2, 1, 0] rfl)
  exact cut_5 ((2 * x + 1) + 1) x 1 _ _ _ ls (hx0) (by omega) (rfl) (by omega) (rfl) (rfl) (rfl) (lv_sub hl [2, 3, 1, 0] rfl)
set_option maxHeartbeats 4000000 in
set_option maxRecDepth 100000 in
theorem c_X7_isBlocked (l : Launch) (dC : Nat → ClassId) (dI : Nat → Nat → Nat) (ws : va_W) (tys : List (ClassId × FieldType)) (h0 : Nat) (fs : List Value) (hw0 : ws[0]? = some (h0, .inr (6, fs))) (x s0 t1 : Nat) (hx0 : x < 2 ^ 48) (hp0 : 4 * s0 + t1 < 16) : Met l yX7_isBlocked wsX7_isBlocked ({ frames := 1, cells := 0, slots := 0, locals := 23 }) (va_Pc [.ref h0, .long (lN x), .int (nI s0), .int (nI t1)] (fun U => va_P (dC, dI) vwCl ws U.heap ∧ va_K (dC, dI) vwCl tys U)) (pu_Q (.int (nI (bn (mblk x s0 t1 = true))))) 0 0 (fun _ => False) := by
  refine Met.ofW (cc := cX7_isBlocked) (maxL := 7) (ret := (some .boolean)) (by decide) rfl ?_
  intro p e s m args below meth c s₁ B hml hv
  obtain ⟨rfl, hP, hK⟩ := hv
  have hx := B.exec
  have hb := B.bytes
  have hr := B.returns
  have hts := atoms_spec (ws := wsX7_isBlocked) B.pre
  have hown : s.vm.findClass RX7 = some m.cls := findClass_of_methodNamed B.named
  have hlocks := B.notSynchronized
  have hl := lv_entry ([.ref h0, .long (lN x), .int (nI s0), .int (nI t1)]) (n := 7) (Nat.le_of_ble_eq_true rfl)
  rw [lg_entry_eq]
  generalize (lg_sl ([.ref h0, .long (lN x), .int (nI s0), .int (nI t1)]) ++ List.replicate (7 - (lg_sl ([.ref h0, .long (lN x), .int (nI s0), .int (nI t1)])).length) Slot.unset).toArray = ls at hl ⊢
  have hl : lv_has ls 7 [(0, .ref h0), (1, .long (lN x)), (3, .int (nI s0)), (4, .int (nI t1))] := hl
  refine lv_iconst (v := nI 0) hx hb dX7_isBlocked_0 (by decide +kernel) ?_
  refine lv_istore (lv' := [(5, .int (nI 0)), (0, .ref h0), (1, .long (lN x)), (3, .int (nI s0)), (4, .int (nI t1))]) hx hb dX7_isBlocked_1 hl (by decide) rfl (fun ls hl => ?_)
  refine lv_iconst (v := nI 0) hx hb dX7_isBlocked_3 (by decide +kernel) ?_
  refine lv_istore (lv' := [(6, .int (nI 0)), (5, .int (nI 0)), (0, .ref h0), (1, .long (lN x)), (3, .int (nI s0)), (4, .int (nI t1))]) hx hb dX7_isBlocked_4 hl (by decide) rfl (fun ls hl => ?_)
  have cut_6 : ∀ (n_6 : Nat) (k : Nat) (v6_1 : Int64) (v6_3 : Int32) (v6_4 : Int32) (v6_5 : Int32) (v6_6 : Int32) (ls : Array Slot) (hk : k ≤ t1) (hn_6 : t1 - k < n_6) (_ : v6_1 = lN x) (_ : v6_3 = nI s0) (_ : v6_4 = nI t1) (_ : v6_5 = nI (bn (anb (fun j => decide (yr x (4 * s0 + j) < yr x (4 * s0 + t1))) k = true))) (_ : v6_6 = nI k) (_ : lv_has ls 7 [(0, .ref h0), (1, .long v6_1), (3, .int v6_3), (4, .int v6_4), (5, .int v6_5), (6, .int v6_6)]), W p l e (headSpec wsX7_isBlocked ({ frames := 1, cells := 0, slots := 0, locals := 23 })).room s m ([.ref h0, .long (lN x), .int (nI s0), .int (nI t1)] : List Value).toArray below meth c s.heap [] 0 0 (MQ below (pu_Q (.int (nI (bn (mblk x s0 t1 = true))))) ([.ref h0, .long (lN x), .int (nI s0), .int (nI t1)] : List Value).toArray s 0 0 (fun _ => False)) (F0 m 6 ls []) := by
    intro n_6
    induction n_6 with
    | zero => intros; omega
    | succ n_6 ih_6 =>
      rintro k v6_1 v6_3 v6_4 v6_5 v6_6 ls hk hn_6 rfl rfl rfl rfl rfl hl
      have hq1 := yr_lt x (4 * s0 + k)
      have hq2 := yr_lt x (4 * s0 + t1)
      refine lv_iload hx hb dX7_isBlocked_6 (lv_at hl 5 rfl) ?_
      refine lv_iload hx hb dX7_isBlocked_8 (lv_at hl 3 rfl) ?_
      refine wk_icmp_ge (tgt := 48) hx hb (by omega) (by omega) dX7_isBlocked_10 (by decide) (fun c_10 => ?_) (fun c_10 => ?_)
      · have hkt : k = t1 := by omega
        refine lv_iload hx hb dX7_isBlocked_48 (lv_at hl 4 rfl) ?_
        refine wk_bn_eq (tgt := 67) hx hb dX7_isBlocked_50 (by decide) (fun c_50 => ?_) (fun c_50 => ?_)
        · refine lv_iconst (v := nI 0) hx hb dX7_isBlocked_67 (by decide +kernel) ?_
          refine wk_ti (v' := nI (bn (mblk x s0 t1 = true))) (by rw [bn_f (fun q => by unfold mblk at q; rw [Bool.and_eq_true] at q; first | exact c_50 (by rw [hkt]; exact q.1) | (have := of_decide_eq_true q.2; omega))]) ?_
          exact W.zret hx hb hr (bn_nar _) (fun t9 ht _ => ⟨rfl, ht⟩) (fun _ h => nomatch h) dX7_isBlocked_68
        · refine lv_lload_n hx hb dX7_isBlocked_53 rfl (lv_at hl 1 rfl) ?_
          refine lv_iload_n hx hb dX7_isBlocked_54 rfl (lv_at hl 2 rfl) ?_
          refine lv_iload hx hb dX7_isBlocked_55 (lv_at hl 3 rfl) ?_
          refine pu_go (va_runS (As := [.long (lN x), .int (nI s0), .int (nI t1)]) (rest := []) ⟨hx, hb, hml, hown, hts⟩ (c_X7_box l x s0 t1 (by first | omega | assumption) (by first | omega | assumption)) (va_cwS 3 hts gX7_isBlocked_X7_box rfl rfl rfl (by decide +kernel) ⟨Nat.le_of_ble_eq_true rfl, Nat.le_of_ble_eq_true rfl⟩) ⟨fun _ _ _ _ q => q, fun _ _ _ => ⟨rfl, trivial⟩⟩ rfl rfl hl.1 rfl (lv_room (Nat.le_of_ble_eq_true rfl)) dX7_isBlocked_57 ⟨Nat.le_refl _, Nat.le_refl _⟩) ?_
          refine wk_if_le (tgt := 67) hx hb (by omega) dX7_isBlocked_60 (by decide) (fun c_60 => ?_) (fun c_60 => ?_)
          · refine lv_iconst (v := nI 0) hx hb dX7_isBlocked_67 (by decide +kernel) ?_
            refine wk_ti (v' := nI (bn (mblk x s0 t1 = true))) (by rw [bn_f (fun q => by unfold mblk at q; rw [Bool.and_eq_true] at q; first | exact c_50 (by rw [hkt]; exact q.1) | (have := of_decide_eq_true q.2; omega))]) ?_
            exact W.zret hx hb hr (bn_nar _) (fun t9 ht _ => ⟨rfl, ht⟩) (fun _ h => nomatch h) dX7_isBlocked_68
          · refine lv_iconst (v := nI 1) hx hb dX7_isBlocked_63 (by decide +kernel) ?_
            refine lv_goto (tgt := 68) hx hb dX7_isBlocked_64 (by decide) ?_
            refine wk_ti (v' := nI (bn (mblk x s0 t1 = true))) (by rw [bn_t (by unfold mblk; rw [Bool.and_eq_true]; exact ⟨by rw [← hkt]; rw [hkt] at c_50 ⊢; exact c_50, decide_eq_true c_60⟩)]) ?_
            exact W.zret hx hb hr (bn_nar _) (fun t9 ht _ => ⟨rfl, ht⟩) (fun _ h => nomatch h) dX7_isBlocked_68
      · have cut_40 : ∀ (v40_1 : Int64) (v40_3 : Int32) (v40_4 : Int32) (v40_6 : Int32) (u40_0 : Int32) (ls : Array Slot) (_ : v40_1 = lN x) (_ : v40_3 = nI s0) (_ : v40_4 = nI t1) (_ : v40_6 = nI k) (_ : u40_0 = nI (bn (anb (fun j => decide (yr x (4 * s0 + j) < yr x (4 * s0 + t1))) (k + 1) = true))) (_ : lv_has ls 7 [(0, .ref h0), (1, .long v40_1), (3, .int v40_3), (4, .int v40_4), (6, .int v40_6)]), W p l e (headSpec wsX7_isBlocked ({ frames := 1, cells := 0, slots := 0, locals := 23 })).room s m ([.ref h0, .long (lN x), .int (nI s0), .int (nI t1)] : List Value).toArray below meth c s.heap [] 0 0 (MQ below (pu_Q (.int (nI (bn (mblk x s0 t1 = true))))) ([.ref h0, .long (lN x), .int (nI s0), .int (nI t1)] : List Value).toArray s 0 0 (fun _ => False)) (F0 m 40 ls [.int u40_0]) := by
          rintro v40_1 v40_3 v40_4 v40_6 u40_0 ls rfl rfl rfl rfl rfl hl
          refine lv_istore (lv' := [(5, .int (nI (bn (anb (fun j => decide (yr x (4 * s0 + j) < yr x (4 * s0 + t1))) (k + 1) = true)))), (0, .ref h0), (1, .long (lN x)), (3, .int (nI s0)), (4, .int (nI t1)), (6, .int (nI k))]) hx hb dX7_isBlocked_40 hl (by decide) rfl (fun ls hl => ?_)
          refine lv_iinc (v := nI (k + 1)) (lv' := [(6, .int (nI (k + 1))), (5, .int (nI (bn (anb (fun j => decide (yr x (4 * s0 + j) < yr x (4 * s0 + t1))) (k + 1) = true)))), (0, .ref h0), (1, .long (lN x)), (3, .int (nI s0)), (4, .int (nI t1))]) hx hb dX7_isBlocked_42 hl (k := 5) rfl (wk_inc _ 1 rfl) (by decide) rfl (fun ls hl => ?_)
          refine lv_goto (tgt := 6) hx hb dX7_isBlocked_45 (by decide) ?_
          exact ih_6 (k + 1) _ _ _ _ _ ls (by omega) (by omega) (rfl) (rfl) (rfl) (rfl) (rfl) (lv_sub hl [2, 3, 4, 5, 1, 0] rfl)
        refine lv_iload hx hb dX7_isBlocked_13 (lv_at hl 4 rfl) ?_
        refine wk_bn_ne (tgt := 35) hx hb dX7_isBlocked_15 (by decide) (fun c_15 => ?_) (fun c_15 => ?_)
        · refine lv_iconst (v := nI 1) hx hb dX7_isBlocked_35 (by decide +kernel) ?_
          refine lv_goto (tgt := 40) hx hb dX7_isBlocked_36 (by decide) ?_
          exact cut_40 _ _ _ _ _ ls (rfl) (rfl) (rfl) (rfl) (by rw [bn_t (by rw [anb_s, Bool.or_eq_true]; first | exact Or.inl c_15 | exact Or.inr (decide_eq_true c_32))]) (lv_sub hl [0, 1, 2, 3, 5] rfl)
        · refine lv_lload_n hx hb dX7_isBlocked_18 rfl (lv_at hl 1 rfl) ?_
          refine lv_iload_n hx hb dX7_isBlocked_19 rfl (lv_at hl 2 rfl) ?_
          refine lv_iload hx hb dX7_isBlocked_20 (lv_at hl 5 rfl) ?_
          refine pu_go (va_runS (As := [.long (lN x), .int (nI s0), .int (nI k)]) (rest := []) ⟨hx, hb, hml, hown, hts⟩ (c_X7_box l x s0 k (by first | omega | assumption) (by first | omega | assumption)) (va_cwS 3 hts gX7_isBlocked_X7_box rfl rfl rfl (by decide +kernel) ⟨Nat.le_of_ble_eq_true rfl, Nat.le_of_ble_eq_true rfl⟩) ⟨fun _ _ _ _ q => q, fun _ _ _ => ⟨rfl, trivial⟩⟩ rfl rfl hl.1 rfl (lv_room (Nat.le_of_ble_eq_true rfl)) dX7_isBlocked_22 ⟨Nat.le_refl _, Nat.le_refl _⟩) ?_
          refine lv_lload_n hx hb dX7_isBlocked_25 rfl (lv_at hl 1 rfl) ?_
          refine lv_iload_n hx hb dX7_isBlocked_26 rfl (lv_at hl 2 rfl) ?_
          refine lv_iload hx hb dX7_isBlocked_27 (lv_at hl 3 rfl) ?_
          refine pu_go (va_runS (As := [.long (lN x), .int (nI s0), .int (nI t1)]) (rest := [.int (nI (yr x (4 * s0 + k)))]) ⟨hx, hb, hml, hown, hts⟩ (c_X7_box l x s0 t1 (by first | omega | assumption) (by first | omega | assumption)) (va_cwS 3 hts gX7_isBlocked_X7_box rfl rfl rfl (by decide +kernel) ⟨Nat.le_of_ble_eq_true rfl, Nat.le_of_ble_eq_true rfl⟩) ⟨fun _ _ _ _ q => q, fun _ _ _ => ⟨rfl, trivial⟩⟩ rfl rfl hl.1 rfl (lv_room (Nat.le_of_ble_eq_true rfl)) dX7_isBlocked_29 ⟨Nat.le_refl _, Nat.le_refl _⟩) ?_
          refine wk_icmp_ge (tgt := 39) hx hb (by omega) (by omega) dX7_isBlocked_32 (by decide) (fun c_32 => ?_) (fun c_32 => ?_)
          · refine lv_iconst (v := nI 0) hx hb dX7_isBlocked_39 (by decide +kernel) ?_
            exact cut_40 _ _ _ _ _ ls (rfl) (rfl) (rfl) (rfl) (by rw [bn_f (fun q => by rw [anb_s, Bool.or_eq_true] at q; exact q.elim c_15 (fun z => by have := of_decide_eq_true z; omega))]) (lv_sub hl [0, 1, 2, 3, 5] rfl)
          · refine lv_iconst (v := nI 1) hx hb dX7_isBlocked_35 (by decide +kernel) ?_
            refine lv_goto (tgt := 40) hx hb dX7_isBlocked_36 (by decide) ?_
            exact cut_40 _ _ _ _ _ ls (rfl) (rfl) (rfl) (rfl) (by rw [bn_t (by rw [anb_s, Bool.or_eq_true]; first | exact Or.inl c_15 | exact Or.inr (decide_eq_true c_32))]) (lv_sub hl [0, 1, 2, 3, 5] rfl)
  exact cut_6 (t1 + 1) 0 _ _ _ _ _ ls (by omega) (by omega) (rfl) (rfl) (rfl) (rfl) (rfl) (lv_sub hl [2, 3, 4, 5, 1, 0] rfl)
set_option maxHeartbeats 4000000 in
set_option maxRecDepth 100000 in
theorem c_X7_blockedIn (l : Launch) (dC : Nat → ClassId) (dI : Nat → Nat → Nat) (ws : va_W) (tys : List (ClassId × FieldType)) (h0 : Nat) (fs : List Value) (hw0 : ws[0]? = some (h0, .inr (6, fs))) (x : Nat) (hx0 : x < 2 ^ 48) : Met l yX7_blockedIn wsX7_blockedIn ({ frames := 2, cells := 0, slots := 0, locals := 49 }) (va_Pc [.ref h0, .long (lN x)] (fun U => va_P (dC, dI) vwCl ws U.heap ∧ va_K (dC, dI) vwCl tys U)) (pu_Q (.int (nI (mbs x 16)))) 0 0 (fun _ => False) := by
  refine Met.ofW (cc := cX7_blockedIn) (maxL := 5) (ret := (some .int)) (by decide) rfl ?_
  intro p e s m args below meth c s₁ B hml hv
  obtain ⟨rfl, hP, hK⟩ := hv
  have hx := B.exec
  have hb := B.bytes
  have hr := B.returns
  have hts := atoms_spec (ws := wsX7_blockedIn) B.pre
  have hown : s.vm.findClass RX7 = some m.cls := findClass_of_methodNamed B.named
  have hlocks := B.notSynchronized
  have hl := lv_entry ([.ref h0, .long (lN x)]) (n := 5) (Nat.le_of_ble_eq_true rfl)
  rw [lg_entry_eq]
  generalize (lg_sl ([.ref h0, .long (lN x)]) ++ List.replicate (5 - (lg_sl ([.ref h0, .long (lN x)])).length) Slot.unset).toArray = ls at hl ⊢
  have hl : lv_has ls 5 [(0, .ref h0), (1, .long (lN x))] := hl
  refine lv_iconst (v := nI 0) hx hb dX7_blockedIn_0 (by decide +kernel) ?_
  refine lv_istore_n (lv' := [(3, .int (nI 0)), (0, .ref h0), (1, .long (lN x))]) hx hb dX7_blockedIn_1 rfl hl (by decide) rfl (fun ls hl => ?_)
  refine lv_iconst (v := nI 0) hx hb dX7_blockedIn_2 (by decide +kernel) ?_
  refine lv_istore (lv' := [(4, .int (nI 0)), (3, .int (nI 0)), (0, .ref h0), (1, .long (lN x))]) hx hb dX7_blockedIn_3 hl (by decide) rfl (fun ls hl => ?_)
  have cut_5 : ∀ (n_5 : Nat) (k : Nat) (v5_1 : Int64) (v5_3 : Int32) (v5_4 : Int32) (ls : Array Slot) (hk : k ≤ 16) (hn_5 : 16 - k < n_5) (_ : v5_1 = lN x) (_ : v5_3 = nI (mbs x k)) (_ : v5_4 = nI k) (_ : lv_has ls 5 [(0, .ref h0), (1, .long v5_1), (3, .int v5_3), (4, .int v5_4)]), W p l e (headSpec wsX7_blockedIn ({ frames := 2, cells := 0, slots := 0, locals := 49 })).room s m ([.ref h0, .long (lN x)] : List Value).toArray below meth c s.heap [] 0 0 (MQ below (pu_Q (.int (nI (mbs x 16)))) ([.ref h0, .long (lN x)] : List Value).toArray s 0 0 (fun _ => False)) (F0 m 5 ls []) := by
    intro n_5
    induction n_5 with
    | zero => intros; omega
    | succ n_5 ih_5 =>
      rintro k v5_1 v5_3 v5_4 ls hk hn_5 rfl rfl rfl hl
      refine lv_iload hx hb dX7_blockedIn_5 (lv_at hl 3 rfl) ?_
      refine lv_bipush (v := nI 16) hx hb dX7_blockedIn_7 (by decide +kernel) ?_
      refine wk_icmp_ge (tgt := 42) hx hb (by omega) (by omega) dX7_blockedIn_9 (by decide) (fun c_9 => ?_) (fun c_9 => ?_)
      · refine lv_iload_n hx hb dX7_blockedIn_42 rfl (lv_at hl 2 rfl) ?_
        refine wk_ti (v' := nI (mbs x 16)) (by rw [show k = 16 by omega]) ?_
        exact W.iret hx hb hr (fun t9 ht _ => ⟨rfl, ht⟩) (fun _ h => nomatch h) dX7_blockedIn_43
      · have cut_34 : ∀ (v34_1 : Int64) (v34_4 : Int32) (u34_0 : Int32) (u34_1 : Int32) (ls : Array Slot) (_ : v34_1 = lN x) (_ : v34_4 = nI k) (_ : u34_0 = nI (bn (mblk x (k / 4) (k % 4) = true))) (_ : u34_1 = nI (mbs x k)) (_ : lv_has ls 5 [(0, .ref h0), (1, .long v34_1), (4, .int v34_4)]), W p l e (headSpec wsX7_blockedIn ({ frames := 2, cells := 0, slots := 0, locals := 49 })).room s m ([.ref h0, .long (lN x)] : List Value).toArray below meth c s.heap [] 0 0 (MQ below (pu_Q (.int (nI (mbs x 16)))) ([.ref h0, .long (lN x)] : List Value).toArray s 0 0 (fun _ => False)) (F0 m 34 ls [.int u34_0, .int u34_1]) := by
          rintro v34_1 v34_4 u34_0 u34_1 ls rfl rfl rfl rfl hl
          refine wk_iadd hx hb dX7_blockedIn_34 ?_
          refine lv_istore_n (lv' := [(3, .int (nI ((mbs x k) + (bn (mblk x (k / 4) (k % 4) = true))))), (0, .ref h0), (1, .long (lN x)), (4, .int (nI k))]) hx hb dX7_blockedIn_35 rfl hl (by decide) rfl (fun ls hl => ?_)
          refine lv_iinc (v := nI (k + 1)) (lv' := [(4, .int (nI (k + 1))), (3, .int (nI ((mbs x k) + (bn (mblk x (k / 4) (k % 4) = true))))), (0, .ref h0), (1, .long (lN x))]) hx hb dX7_blockedIn_36 hl (k := 3) rfl (wk_inc _ 1 rfl) (by decide) rfl (fun ls hl => ?_)
          refine lv_goto (tgt := 5) hx hb dX7_blockedIn_39 (by decide) ?_
          exact ih_5 (k + 1) _ _ _ ls (by omega) (by omega) (rfl) (rfl) (rfl) (lv_sub hl [2, 3, 1, 0] rfl)
        refine lv_iload_n hx hb dX7_blockedIn_12 rfl (lv_at hl 2 rfl) ?_
        refine lv_aload_n hx hb dX7_blockedIn_13 rfl (lv_at hl 0 rfl) ?_
        refine lv_lload_n hx hb dX7_blockedIn_14 rfl (lv_at hl 1 rfl) ?_
        refine lv_iload hx hb dX7_blockedIn_15 (lv_at hl 3 rfl) ?_
        refine lv_iconst (v := nI 4) hx hb dX7_blockedIn_17 (by decide +kernel) ?_
        refine wk_idiv hx hb (by omega) (by decide) (by decide) dX7_blockedIn_18 ?_
        refine lv_iload hx hb dX7_blockedIn_19 (lv_at hl 3 rfl) ?_
        refine lv_iconst (v := nI 4) hx hb dX7_blockedIn_21 (by decide +kernel) ?_
        refine wk_irem hx hb (by omega) (by decide) (by decide) dX7_blockedIn_22 ?_
        refine pu_go (va_runV (As := [.long (lN x), .int (nI (k / 4)), .int (nI (k % 4))]) (rest := [.int (nI (mbs x k))]) ⟨hx, hb, hml, hown, hts⟩ (c_X7_isBlocked l dC dI ws tys h0 fs hw0 x (k / 4) (k % 4) (by first | omega | assumption) (by first | omega | assumption)) (cwV 3 hts gX7_blockedIn_X7_isBlocked rfl rfl rfl (by decide +kernel) ⟨Nat.le_of_ble_eq_true rfl, Nat.le_of_ble_eq_true rfl⟩) ⟨fun a U g mk q => ⟨q.1, q.2.1, va_K.moved (u := U) (U := U.calling g mk a) (Vm.Alike.refl U.vm) q.2.2⟩, va_recv hK hP (ci := 6) (q0 := 0) rfl hw0, fun U hU hW => ⟨rfl, by rw [hU]; exact hP, va_K.moved hW.alike hK⟩⟩ rfl rfl hl.1 rfl (lv_room (Nat.le_of_ble_eq_true rfl)) dX7_blockedIn_23 ⟨Nat.le_refl _, Nat.le_refl _⟩) ?_
        refine wk_bn_eq (tgt := 33) hx hb dX7_blockedIn_26 (by decide) (fun c_26 => ?_) (fun c_26 => ?_)
        · refine lv_iconst (v := nI 0) hx hb dX7_blockedIn_33 (by decide +kernel) ?_
          exact cut_34 _ _ _ _ ls (rfl) (rfl) (by rw [bn_f c_26]) (rfl) (lv_sub hl [0, 1, 3] rfl)
        · refine lv_iconst (v := nI 1) hx hb dX7_blockedIn_29 (by decide +kernel) ?_
          refine lv_goto (tgt := 34) hx hb dX7_blockedIn_30 (by decide) ?_
          exact cut_34 _ _ _ _ ls (rfl) (rfl) (by rw [bn_t c_26]) (rfl) (lv_sub hl [0, 1, 3] rfl)
  exact cut_5 (16 + 1) 0 _ _ _ ls (by omega) (by omega) (rfl) (rfl) (rfl) (lv_sub hl [2, 3, 1, 0] rfl)
set_option maxHeartbeats 4000000 in
set_option maxRecDepth 100000 in
theorem c_X7_isDone (l : Launch) (dC : Nat → ClassId) (dI : Nat → Nat → Nat) (ws : va_W) (tys : List (ClassId × FieldType)) (h0 : Nat) (fs : List Value) (hw0 : ws[0]? = some (h0, .inr (6, fs))) (x how : Nat) (hx0 : x < 2 ^ 48) (hh0 : how < 3) : Met l yX7_isDone wsX7_isDone ({ frames := 3, cells := 0, slots := 0, locals := 73 }) (va_Pc [.ref h0, .int (nI how), .long (lN x)] (fun U => va_P (dC, dI) vwCl ws U.heap ∧ va_K (dC, dI) vwCl tys U)) (pu_Q (.int (nI (bn ((if how = 2 then mbs x 16 = 0 else x = 0)))))) 0 0 (fun _ => False) := by
  refine Met.ofW (cc := cX7_isDone) (maxL := 4) (ret := (some .boolean)) (by decide) rfl ?_
  intro p e s m args below meth c s₁ B hml hv
  obtain ⟨rfl, hP, hK⟩ := hv
  have hx := B.exec
  have hb := B.bytes
  have hr := B.returns
  have hts := atoms_spec (ws := wsX7_isDone) B.pre
  have hown : s.vm.findClass RX7 = some m.cls := findClass_of_methodNamed B.named
  have hlocks := B.notSynchronized
  have hl := lv_entry ([.ref h0, .int (nI how), .long (lN x)]) (n := 4) (Nat.le_of_ble_eq_true rfl)
  rw [lg_entry_eq]
  generalize (lg_sl ([.ref h0, .int (nI how), .long (lN x)]) ++ List.replicate (4 - (lg_sl ([.ref h0, .int (nI how), .long (lN x)])).length) Slot.unset).toArray = ls at hl ⊢
  have hl : lv_has ls 4 [(0, .ref h0), (1, .int (nI how)), (2, .long (lN x))] := hl
  have hq := mbs_le x 16
  refine lv_iload_n hx hb dX7_isDone_0 rfl (lv_at hl 1 rfl) ?_
  refine lv_iconst (v := nI 2) hx hb dX7_isDone_1 (by decide +kernel) ?_
  refine wk_icmp_ne (tgt := 21) hx hb (by omega) (by omega) dX7_isDone_2 (by decide) (fun c_2 => ?_) (fun c_2 => ?_)
  · refine lv_lload_n hx hb dX7_isDone_21 rfl (lv_at hl 2 rfl) ?_
    refine lv_lconst (v := lN 0) hx hb dX7_isDone_22 (by decide +kernel) ?_
    refine wk_lcmp_ne (tgt := 31) hx hb (by omega) (by omega) dX7_isDone_23 dX7_isDone_24 (by decide) (fun c_24 => ?_) (fun c_24 => ?_)
    · refine lv_iconst (v := nI 0) hx hb dX7_isDone_31 (by decide +kernel) ?_
      refine wk_ti (v' := nI (bn ((if how = 2 then mbs x 16 = 0 else x = 0)))) (by first | rw [bn_f (by rw [if_pos c_2]; exact c_10)] | rw [bn_f (by rw [if_neg c_2]; exact c_24)]) ?_
      exact W.zret hx hb hr (bn_nar _) (fun t9 ht _ => ⟨rfl, ht⟩) (fun _ h => nomatch h) dX7_isDone_32
    · refine lv_iconst (v := nI 1) hx hb dX7_isDone_27 (by decide +kernel) ?_
      refine lv_goto (tgt := 32) hx hb dX7_isDone_28 (by decide) ?_
      refine wk_ti (v' := nI (bn ((if how = 2 then mbs x 16 = 0 else x = 0)))) (by first | rw [bn_t (by rw [if_pos c_2]; exact c_10)] | rw [bn_t (by rw [if_neg c_2]; exact c_24)]) ?_
      exact W.zret hx hb hr (bn_nar _) (fun t9 ht _ => ⟨rfl, ht⟩) (fun _ h => nomatch h) dX7_isDone_32
  · refine lv_aload_n hx hb dX7_isDone_5 rfl (lv_at hl 0 rfl) ?_
    refine lv_lload_n hx hb dX7_isDone_6 rfl (lv_at hl 2 rfl) ?_
    refine pu_go (va_runV (As := [.long (lN x)]) (rest := []) ⟨hx, hb, hml, hown, hts⟩ (c_X7_blockedIn l dC dI ws tys h0 fs hw0 x (by first | omega | assumption)) (cwV 1 hts gX7_isDone_X7_blockedIn rfl rfl rfl (by decide +kernel) ⟨Nat.le_of_ble_eq_true rfl, Nat.le_of_ble_eq_true rfl⟩) ⟨fun a U g mk q => ⟨q.1, q.2.1, va_K.moved (u := U) (U := U.calling g mk a) (Vm.Alike.refl U.vm) q.2.2⟩, va_recv hK hP (ci := 6) (q0 := 0) rfl hw0, fun U hU hW => ⟨rfl, by rw [hU]; exact hP, va_K.moved hW.alike hK⟩⟩ rfl rfl hl.1 rfl (lv_room (Nat.le_of_ble_eq_true rfl)) dX7_isDone_7 ⟨Nat.le_refl _, Nat.le_refl _⟩) ?_
    refine wk_if_ne (tgt := 17) hx hb (by omega) dX7_isDone_10 (by decide) (fun c_10 => ?_) (fun c_10 => ?_)
    · refine lv_iconst (v := nI 0) hx hb dX7_isDone_17 (by decide +kernel) ?_
      refine lv_goto (tgt := 32) hx hb dX7_isDone_18 (by decide) ?_
      refine wk_ti (v' := nI (bn ((if how = 2 then mbs x 16 = 0 else x = 0)))) (by first | rw [bn_f (by rw [if_pos c_2]; exact c_10)] | rw [bn_f (by rw [if_neg c_2]; exact c_24)]) ?_
      exact W.zret hx hb hr (bn_nar _) (fun t9 ht _ => ⟨rfl, ht⟩) (fun _ h => nomatch h) dX7_isDone_32
    · refine lv_iconst (v := nI 1) hx hb dX7_isDone_13 (by decide +kernel) ?_
      refine lv_goto (tgt := 32) hx hb dX7_isDone_14 (by decide) ?_
      refine wk_ti (v' := nI (bn ((if how = 2 then mbs x 16 = 0 else x = 0)))) (by first | rw [bn_t (by rw [if_pos c_2]; exact c_10)] | rw [bn_t (by rw [if_neg c_2]; exact c_24)]) ?_
      exact W.zret hx hb hr (bn_nar _) (fun t9 ht _ => ⟨rfl, ht⟩) (fun _ h => nomatch h) dX7_isDone_32
set_option maxHeartbeats 4000000 in
set_option maxRecDepth 100000 in
theorem c_X7_hasNext (l : Launch) (dC : Nat → ClassId) (dI : Nat → Nat → Nat) (ws : va_W) (tys : List (ClassId × FieldType)) (h0 : Nat) (fs : List Value) (hw0 : ws[0]? = some (h0, .inr (6, fs))) (t : Nat) (hf2 : fs[2]? = some (.int (nI t))) (ht0 : 2 ≤ t ∧ t ≤ 4) (x s0 : Nat) (hx0 : x < 2 ^ 48) (hs0 : s0 < 4) : Met l yX7_hasNext wsX7_hasNext ({ frames := 1, cells := 0, slots := 0, locals := 25 }) (va_Pc [.ref h0, .long (lN x), .int (nI s0)] (fun U => va_P (dC, dI) vwCl ws U.heap ∧ va_K (dC, dI) vwCl tys U)) (pu_Q (.int (nI (bn (mhn x s0 (ylo x 16) t = true))))) 0 0 (fun _ => False) := by
  refine Met.ofW (cc := cX7_hasNext) (maxL := 7) (ret := (some .boolean)) (by decide) rfl ?_
  intro p e s m args below meth c s₁ B hml hv
  obtain ⟨rfl, hP, hK⟩ := hv
  have hx := B.exec
  have hb := B.bytes
  have hr := B.returns
  have hts := atoms_spec (ws := wsX7_hasNext) B.pre
  have hown : s.vm.findClass RX7 = some m.cls := findClass_of_methodNamed B.named
  have hlocks := B.notSynchronized
  have hinX7 : ∀ w ∈ u_ws RX7 TX7 17, w ∈ wsX7_hasNext := by decide +kernel
  have hl := lv_entry ([.ref h0, .long (lN x), .int (nI s0)]) (n := 7) (Nat.le_of_ble_eq_true rfl)
  rw [lg_entry_eq]
  generalize (lg_sl ([.ref h0, .long (lN x), .int (nI s0)]) ++ List.replicate (7 - (lg_sl ([.ref h0, .long (lN x), .int (nI s0)])).length) Slot.unset).toArray = ls at hl ⊢
  have hl : lv_has ls 7 [(0, .ref h0), (1, .long (lN x)), (3, .int (nI s0))] := hl
  have hq0 := ylo_lt x 16
  refine lv_aload_n hx hb dX7_hasNext_0 rfl (lv_at hl 0 rfl) ?_
  refine lv_lload_n hx hb dX7_hasNext_1 rfl (lv_at hl 1 rfl) ?_
  refine pu_go (va_runV (As := [.long (lN x)]) (rest := []) ⟨hx, hb, hml, hown, hts⟩ (c_X7_least l dC dI ws tys h0 fs hw0 x (by first | omega | assumption)) (cwV 1 hts gX7_hasNext_X7_least rfl rfl rfl (by decide +kernel) ⟨Nat.le_of_ble_eq_true rfl, Nat.le_of_ble_eq_true rfl⟩) ⟨fun a U g mk q => ⟨q.1, q.2.1, va_K.moved (u := U) (U := U.calling g mk a) (Vm.Alike.refl U.vm) q.2.2⟩, va_recv hK hP (ci := 6) (q0 := 0) rfl hw0, fun U hU hW => ⟨rfl, by rw [hU]; exact hP, va_K.moved hW.alike hK⟩⟩ rfl rfl hl.1 rfl (lv_room (Nat.le_of_ble_eq_true rfl)) dX7_hasNext_2 ⟨Nat.le_refl _, Nat.le_refl _⟩) ?_
  refine lv_istore (lv' := [(4, .int (nI (ylo x 16))), (0, .ref h0), (1, .long (lN x)), (3, .int (nI s0))]) hx hb dX7_hasNext_5 hl (by decide) rfl (fun ls hl => ?_)
  refine lv_iconst (v := nI 0) hx hb dX7_hasNext_7 (by decide +kernel) ?_
  refine lv_istore (lv' := [(5, .int (nI 0)), (4, .int (nI (ylo x 16))), (0, .ref h0), (1, .long (lN x)), (3, .int (nI s0))]) hx hb dX7_hasNext_8 hl (by decide) rfl (fun ls hl => ?_)
  refine lv_iconst (v := nI 0) hx hb dX7_hasNext_10 (by decide +kernel) ?_
  refine lv_istore (lv' := [(6, .int (nI 0)), (5, .int (nI 0)), (4, .int (nI (ylo x 16))), (0, .ref h0), (1, .long (lN x)), (3, .int (nI s0))]) hx hb dX7_hasNext_11 hl (by decide) rfl (fun ls hl => ?_)
  have cut_13 : ∀ (n_13 : Nat) (k : Nat) (v13_1 : Int64) (v13_3 : Int32) (v13_4 : Int32) (v13_5 : Int32) (v13_6 : Int32) (ls : Array Slot) (hk : k ≤ t) (hn_13 : t - k < n_13) (_ : v13_1 = lN x) (_ : v13_3 = nI s0) (_ : v13_4 = nI (ylo x 16)) (_ : v13_5 = nI (bn (anb (fun j => decide (yr x (4 * s0 + j) = ylo x 16)) k = true))) (_ : v13_6 = nI k) (_ : lv_has ls 7 [(0, .ref h0), (1, .long v13_1), (3, .int v13_3), (4, .int v13_4), (5, .int v13_5), (6, .int v13_6)]), W p l e (headSpec wsX7_hasNext ({ frames := 1, cells := 0, slots := 0, locals := 25 })).room s m ([.ref h0, .long (lN x), .int (nI s0)] : List Value).toArray below meth c s.heap [] 0 0 (MQ below (pu_Q (.int (nI (bn (mhn x s0 (ylo x 16) t = true))))) ([.ref h0, .long (lN x), .int (nI s0)] : List Value).toArray s 0 0 (fun _ => False)) (F0 m 13 ls []) := by
    intro n_13
    induction n_13 with
    | zero => intros; omega
    | succ n_13 ih_13 =>
      rintro k v13_1 v13_3 v13_4 v13_5 v13_6 ls hk hn_13 rfl rfl rfl rfl rfl hl
      have hq1 := yr_lt x (4 * s0 + k)
      refine lv_iload hx hb dX7_hasNext_13 (lv_at hl 5 rfl) ?_
      refine lv_aload_n hx hb dX7_hasNext_15 rfl (lv_at hl 0 rfl) ?_
      refine va_get (D := (dC, dI)) (ci := 6) (v := .int (nI t)) (C := RX7) (T := TX7) (N := 17) hx hb hts hinX7 hown hK hP 0 hw0 rfl 2 (by decide) (hts (.fieldLink RX7 47 "ReshuffleSearchModel" "tiers" "I") (by decide +kernel)) (fun _ h9 => h9) hf2 dX7_hasNext_16 ?_
      refine wk_icmp_ge (tgt := 52) hx hb (by omega) (by omega) dX7_hasNext_19 (by decide) (fun c_19 => ?_) (fun c_19 => ?_)
      · refine lv_iload hx hb dX7_hasNext_52 (lv_at hl 4 rfl) ?_
        refine wk_ti (v' := nI (bn (mhn x s0 (ylo x 16) t = true))) (by unfold mhn; rw [show k = t by omega]) ?_
        exact W.zret hx hb hr (bn_nar _) (fun t9 ht _ => ⟨rfl, ht⟩) (fun _ h => nomatch h) dX7_hasNext_54
      · have cut_44 : ∀ (v44_1 : Int64) (v44_3 : Int32) (v44_4 : Int32) (v44_6 : Int32) (u44_0 : Int32) (ls : Array Slot) (_ : v44_1 = lN x) (_ : v44_3 = nI s0) (_ : v44_4 = nI (ylo x 16)) (_ : v44_6 = nI k) (_ : u44_0 = nI (bn (anb (fun j => decide (yr x (4 * s0 + j) = ylo x 16)) (k + 1) = true))) (_ : lv_has ls 7 [(0, .ref h0), (1, .long v44_1), (3, .int v44_3), (4, .int v44_4), (6, .int v44_6)]), W p l e (headSpec wsX7_hasNext ({ frames := 1, cells := 0, slots := 0, locals := 25 })).room s m ([.ref h0, .long (lN x), .int (nI s0)] : List Value).toArray below meth c s.heap [] 0 0 (MQ below (pu_Q (.int (nI (bn (mhn x s0 (ylo x 16) t = true))))) ([.ref h0, .long (lN x), .int (nI s0)] : List Value).toArray s 0 0 (fun _ => False)) (F0 m 44 ls [.int u44_0]) := by
          rintro v44_1 v44_3 v44_4 v44_6 u44_0 ls rfl rfl rfl rfl rfl hl
          refine lv_istore (lv' := [(5, .int (nI (bn (anb (fun j => decide (yr x (4 * s0 + j) = ylo x 16)) (k + 1) = true)))), (0, .ref h0), (1, .long (lN x)), (3, .int (nI s0)), (4, .int (nI (ylo x 16))), (6, .int (nI k))]) hx hb dX7_hasNext_44 hl (by decide) rfl (fun ls hl => ?_)
          refine lv_iinc (v := nI (k + 1)) (lv' := [(6, .int (nI (k + 1))), (5, .int (nI (bn (anb (fun j => decide (yr x (4 * s0 + j) = ylo x 16)) (k + 1) = true)))), (0, .ref h0), (1, .long (lN x)), (3, .int (nI s0)), (4, .int (nI (ylo x 16)))]) hx hb dX7_hasNext_46 hl (k := 5) rfl (wk_inc _ 1 rfl) (by decide) rfl (fun ls hl => ?_)
          refine lv_goto (tgt := 13) hx hb dX7_hasNext_49 (by decide) ?_
          exact ih_13 (k + 1) _ _ _ _ _ ls (by omega) (by omega) (rfl) (rfl) (rfl) (rfl) (rfl) (lv_sub hl [2, 3, 4, 5, 1, 0] rfl)
        refine lv_iload hx hb dX7_hasNext_22 (lv_at hl 4 rfl) ?_
        refine wk_bn_ne (tgt := 39) hx hb dX7_hasNext_24 (by decide) (fun c_24 => ?_) (fun c_24 => ?_)
        · refine lv_iconst (v := nI 1) hx hb dX7_hasNext_39 (by decide +kernel) ?_
          refine lv_goto (tgt := 44) hx hb dX7_hasNext_40 (by decide) ?_
          exact cut_44 _ _ _ _ _ ls (rfl) (rfl) (rfl) (rfl) (by rw [bn_t (by rw [anb_s, Bool.or_eq_true]; first | exact Or.inl c_24 | exact Or.inr (decide_eq_true c_36))]) (lv_sub hl [0, 1, 2, 3, 5] rfl)
        · refine lv_lload_n hx hb dX7_hasNext_27 rfl (lv_at hl 1 rfl) ?_
          refine lv_iload_n hx hb dX7_hasNext_28 rfl (lv_at hl 2 rfl) ?_
          refine lv_iload hx hb dX7_hasNext_29 (lv_at hl 5 rfl) ?_
          refine pu_go (va_runS (As := [.long (lN x), .int (nI s0), .int (nI k)]) (rest := []) ⟨hx, hb, hml, hown, hts⟩ (c_X7_box l x s0 k (by first | omega | assumption) (by first | omega | assumption)) (va_cwS 3 hts gX7_hasNext_X7_box rfl rfl rfl (by decide +kernel) ⟨Nat.le_of_ble_eq_true rfl, Nat.le_of_ble_eq_true rfl⟩) ⟨fun _ _ _ _ q => q, fun _ _ _ => ⟨rfl, trivial⟩⟩ rfl rfl hl.1 rfl (lv_room (Nat.le_of_ble_eq_true rfl)) dX7_hasNext_31 ⟨Nat.le_refl _, Nat.le_refl _⟩) ?_
          refine lv_iload hx hb dX7_hasNext_34 (lv_at hl 3 rfl) ?_
          refine wk_icmp_ne (tgt := 43) hx hb (by omega) (by omega) dX7_hasNext_36 (by decide) (fun c_36 => ?_) (fun c_36 => ?_)
          · refine lv_iconst (v := nI 0) hx hb dX7_hasNext_43 (by decide +kernel) ?_
            exact cut_44 _ _ _ _ _ ls (rfl) (rfl) (rfl) (rfl) (by rw [bn_f (fun q => by rw [anb_s, Bool.or_eq_true] at q; exact q.elim c_24 (fun z => c_36 (of_decide_eq_true z)))]) (lv_sub hl [0, 1, 2, 3, 5] rfl)
          · refine lv_iconst (v := nI 1) hx hb dX7_hasNext_39 (by decide +kernel) ?_
            refine lv_goto (tgt := 44) hx hb dX7_hasNext_40 (by decide) ?_
            exact cut_44 _ _ _ _ _ ls (rfl) (rfl) (rfl) (rfl) (by rw [bn_t (by rw [anb_s, Bool.or_eq_true]; first | exact Or.inl c_24 | exact Or.inr (decide_eq_true c_36))]) (lv_sub hl [0, 1, 2, 3, 5] rfl)
  exact cut_13 (t + 1) 0 _ _ _ _ _ ls (by omega) (by omega) (rfl) (rfl) (rfl) (rfl) (rfl) (lv_sub hl [3, 4, 5, 2, 1, 0] rfl)
set_option maxHeartbeats 4000000 in
set_option maxRecDepth 100000 in
theorem c_X7_mayMove (l : Launch) (dC : Nat → ClassId) (dI : Nat → Nat → Nat) (ws : va_W) (tys : List (ClassId × FieldType)) (h0 : Nat) (fs : List Value) (hw0 : ws[0]? = some (h0, .inr (6, fs))) (n : Nat) (hf1 : fs[1]? = some (.int (nI n))) (hn0 : 2 ≤ n ∧ n ≤ 4) (t : Nat) (hf2 : fs[2]? = some (.int (nI t))) (ht0 : 2 ≤ t ∧ t ≤ 4) (x how a b : Nat) (hx0 : x < 2 ^ 48) (hh0 : how < 3) (ha0 : a < 4) (hb0 : b < 4) : Met l yX7_mayMove wsX7_mayMove ({ frames := 2, cells := 0, slots := 0, locals := 51 }) (va_Pc [.ref h0, .int (nI how), .long (lN x), .int (nI a), .int (nI b)] (fun U => va_P (dC, dI) vwCl ws U.heap ∧ va_K (dC, dI) vwCl tys U)) (pu_Q (.int (nI (bn (mmay how x a b n t = true))))) 0 0 (fun _ => False) := by
  refine Met.ofW (cc := cX7_mayMove) (maxL := 6) (ret := (some .boolean)) (by decide) rfl ?_
  intro p e s m args below meth c s₁ B hml hv
  obtain ⟨rfl, hP, hK⟩ := hv
  have hx := B.exec
  have hb := B.bytes
  have hr := B.returns
  have hts := atoms_spec (ws := wsX7_mayMove) B.pre
  have hown : s.vm.findClass RX7 = some m.cls := findClass_of_methodNamed B.named
  have hlocks := B.notSynchronized
  have hinX7 : ∀ w ∈ u_ws RX7 TX7 17, w ∈ wsX7_mayMove := by decide +kernel
  have hl := lv_entry ([.ref h0, .int (nI how), .long (lN x), .int (nI a), .int (nI b)]) (n := 6) (Nat.le_of_ble_eq_true rfl)
  rw [lg_entry_eq]
  generalize (lg_sl ([.ref h0, .int (nI how), .long (lN x), .int (nI a), .int (nI b)]) ++ List.replicate (6 - (lg_sl ([.ref h0, .int (nI how), .long (lN x), .int (nI a), .int (nI b)])).length) Slot.unset).toArray = ls at hl ⊢
  have hl : lv_has ls 6 [(0, .ref h0), (1, .int (nI how)), (2, .long (lN x)), (4, .int (nI a)), (5, .int (nI b))] := hl
  have hq1 := mht_le x a t
  have hq2 := mht_le x b t
  refine lv_iload hx hb dX7_mayMove_0 (lv_at hl 3 rfl) ?_
  refine lv_aload_n hx hb dX7_mayMove_2 rfl (lv_at hl 0 rfl) ?_
  refine va_get (D := (dC, dI)) (ci := 6) (v := .int (nI n)) (C := RX7) (T := TX7) (N := 17) hx hb hts hinX7 hown hK hP 0 hw0 rfl 1 (by decide) (hts (.fieldLink RX7 43 "ReshuffleSearchModel" "stacks" "I") (by decide +kernel)) (fun _ h9 => h9) hf1 dX7_mayMove_3 ?_
  refine wk_icmp_ge (tgt := 49) hx hb (by omega) (by omega) dX7_mayMove_6 (by decide) (fun c_6 => ?_) (fun c_6 => ?_)
  · refine lv_iconst (v := nI 0) hx hb dX7_mayMove_49 (by decide +kernel) ?_
    refine wk_ti (v' := nI (bn (mmay how x a b n t = true))) (by rw [bn_f (fun q => by obtain ⟨q1, q2, q3, q4, q5, q6⟩ := (mmay_iff _ _ _ _ _ _).mp q; first | exact absurd q1 (by omega) | exact absurd q2 (by omega) | exact q3 c_22 | exact q4 c_32 | exact q5 c_46 | exact q6.elim (by omega) c_62)]) ?_
    exact W.zret hx hb hr (bn_nar _) (fun t9 ht _ => ⟨rfl, ht⟩) (fun _ h => nomatch h) dX7_mayMove_50
  · refine lv_iload hx hb dX7_mayMove_9 (lv_at hl 4 rfl) ?_
    refine lv_aload_n hx hb dX7_mayMove_11 rfl (lv_at hl 0 rfl) ?_
    refine va_get (D := (dC, dI)) (ci := 6) (v := .int (nI n)) (C := RX7) (T := TX7) (N := 17) hx hb hts hinX7 hown hK hP 0 hw0 rfl 1 (by decide) (hts (.fieldLink RX7 43 "ReshuffleSearchModel" "stacks" "I") (by decide +kernel)) (fun _ h9 => h9) hf1 dX7_mayMove_12 ?_
    refine wk_icmp_ge (tgt := 49) hx hb (by omega) (by omega) dX7_mayMove_15 (by decide) (fun c_15 => ?_) (fun c_15 => ?_)
    · refine lv_iconst (v := nI 0) hx hb dX7_mayMove_49 (by decide +kernel) ?_
      refine wk_ti (v' := nI (bn (mmay how x a b n t = true))) (by rw [bn_f (fun q => by obtain ⟨q1, q2, q3, q4, q5, q6⟩ := (mmay_iff _ _ _ _ _ _).mp q; first | exact absurd q1 (by omega) | exact absurd q2 (by omega) | exact q3 c_22 | exact q4 c_32 | exact q5 c_46 | exact q6.elim (by omega) c_62)]) ?_
      exact W.zret hx hb hr (bn_nar _) (fun t9 ht _ => ⟨rfl, ht⟩) (fun _ h => nomatch h) dX7_mayMove_50
    · refine lv_iload hx hb dX7_mayMove_18 (lv_at hl 3 rfl) ?_
      refine lv_iload hx hb dX7_mayMove_20 (lv_at hl 4 rfl) ?_
      refine wk_icmp_eq (tgt := 49) hx hb (by omega) (by omega) dX7_mayMove_22 (by decide) (fun c_22 => ?_) (fun c_22 => ?_)
      · refine lv_iconst (v := nI 0) hx hb dX7_mayMove_49 (by decide +kernel) ?_
        refine wk_ti (v' := nI (bn (mmay how x a b n t = true))) (by rw [bn_f (fun q => by obtain ⟨q1, q2, q3, q4, q5, q6⟩ := (mmay_iff _ _ _ _ _ _).mp q; first | exact absurd q1 (by omega) | exact absurd q2 (by omega) | exact q3 c_22 | exact q4 c_32 | exact q5 c_46 | exact q6.elim (by omega) c_62)]) ?_
        exact W.zret hx hb hr (bn_nar _) (fun t9 ht _ => ⟨rfl, ht⟩) (fun _ h => nomatch h) dX7_mayMove_50
      · refine lv_aload_n hx hb dX7_mayMove_25 rfl (lv_at hl 0 rfl) ?_
        refine lv_lload_n hx hb dX7_mayMove_26 rfl (lv_at hl 2 rfl) ?_
        refine lv_iload hx hb dX7_mayMove_27 (lv_at hl 3 rfl) ?_
        refine pu_go (va_runV (As := [.long (lN x), .int (nI a)]) (rest := []) ⟨hx, hb, hml, hown, hts⟩ (c_X7_height l dC dI ws tys h0 fs hw0 t hf2 ht0 x a (by first | omega | assumption) (by first | omega | assumption)) (cwV 2 hts gX7_mayMove_X7_height rfl rfl rfl (by decide +kernel) ⟨Nat.le_of_ble_eq_true rfl, Nat.le_of_ble_eq_true rfl⟩) ⟨fun a U g mk q => ⟨q.1, q.2.1, va_K.moved (u := U) (U := U.calling g mk a) (Vm.Alike.refl U.vm) q.2.2⟩, va_recv hK hP (ci := 6) (q0 := 0) rfl hw0, fun U hU hW => ⟨rfl, by rw [hU]; exact hP, va_K.moved hW.alike hK⟩⟩ rfl rfl hl.1 rfl (lv_room (Nat.le_of_ble_eq_true rfl)) dX7_mayMove_29 ⟨Nat.le_refl _, Nat.le_refl _⟩) ?_
        refine wk_if_eq (tgt := 49) hx hb (by omega) dX7_mayMove_32 (by decide) (fun c_32 => ?_) (fun c_32 => ?_)
        · refine lv_iconst (v := nI 0) hx hb dX7_mayMove_49 (by decide +kernel) ?_
          refine wk_ti (v' := nI (bn (mmay how x a b n t = true))) (by rw [bn_f (fun q => by obtain ⟨q1, q2, q3, q4, q5, q6⟩ := (mmay_iff _ _ _ _ _ _).mp q; first | exact absurd q1 (by omega) | exact absurd q2 (by omega) | exact q3 c_22 | exact q4 c_32 | exact q5 c_46 | exact q6.elim (by omega) c_62)]) ?_
          exact W.zret hx hb hr (bn_nar _) (fun t9 ht _ => ⟨rfl, ht⟩) (fun _ h => nomatch h) dX7_mayMove_50
        · refine lv_aload_n hx hb dX7_mayMove_35 rfl (lv_at hl 0 rfl) ?_
          refine lv_lload_n hx hb dX7_mayMove_36 rfl (lv_at hl 2 rfl) ?_
          refine lv_iload hx hb dX7_mayMove_37 (lv_at hl 4 rfl) ?_
          refine pu_go (va_runV (As := [.long (lN x), .int (nI b)]) (rest := []) ⟨hx, hb, hml, hown, hts⟩ (c_X7_height l dC dI ws tys h0 fs hw0 t hf2 ht0 x b (by first | omega | assumption) (by first | omega | assumption)) (cwV 2 hts gX7_mayMove_X7_height rfl rfl rfl (by decide +kernel) ⟨Nat.le_of_ble_eq_true rfl, Nat.le_of_ble_eq_true rfl⟩) ⟨fun a U g mk q => ⟨q.1, q.2.1, va_K.moved (u := U) (U := U.calling g mk a) (Vm.Alike.refl U.vm) q.2.2⟩, va_recv hK hP (ci := 6) (q0 := 0) rfl hw0, fun U hU hW => ⟨rfl, by rw [hU]; exact hP, va_K.moved hW.alike hK⟩⟩ rfl rfl hl.1 rfl (lv_room (Nat.le_of_ble_eq_true rfl)) dX7_mayMove_39 ⟨Nat.le_refl _, Nat.le_refl _⟩) ?_
          refine lv_aload_n hx hb dX7_mayMove_42 rfl (lv_at hl 0 rfl) ?_
          refine va_get (D := (dC, dI)) (ci := 6) (v := .int (nI t)) (C := RX7) (T := TX7) (N := 17) hx hb hts hinX7 hown hK hP 0 hw0 rfl 2 (by decide) (hts (.fieldLink RX7 47 "ReshuffleSearchModel" "tiers" "I") (by decide +kernel)) (fun _ h9 => h9) hf2 dX7_mayMove_43 ?_
          refine wk_icmp_ne (tgt := 51) hx hb (by omega) (by omega) dX7_mayMove_46 (by decide) (fun c_46 => ?_) (fun c_46 => ?_)
          · refine lv_iload_n hx hb dX7_mayMove_51 rfl (lv_at hl 1 rfl) ?_
            refine wk_if_gt (tgt := 65) hx hb (by omega) dX7_mayMove_52 (by decide) (fun c_52 => ?_) (fun c_52 => ?_)
            · refine lv_iconst (v := nI 1) hx hb dX7_mayMove_65 (by decide +kernel) ?_
              refine lv_goto (tgt := 70) hx hb dX7_mayMove_66 (by decide) ?_
              refine wk_ti (v' := nI (bn (mmay how x a b n t = true))) (by rw [bn_t ((mmay_iff _ _ _ _ _ _).mpr ⟨c_6, c_15, c_22, c_32, c_46, by first | exact Or.inl c_52 | exact Or.inr c_62⟩)]) ?_
              exact W.zret hx hb hr (bn_nar _) (fun t9 ht _ => ⟨rfl, ht⟩) (fun _ h => nomatch h) dX7_mayMove_70
            · refine lv_aload_n hx hb dX7_mayMove_55 rfl (lv_at hl 0 rfl) ?_
              refine lv_lload_n hx hb dX7_mayMove_56 rfl (lv_at hl 2 rfl) ?_
              refine lv_iload hx hb dX7_mayMove_57 (lv_at hl 3 rfl) ?_
              refine pu_go (va_runV (As := [.long (lN x), .int (nI a)]) (rest := []) ⟨hx, hb, hml, hown, hts⟩ (c_X7_hasNext l dC dI ws tys h0 fs hw0 t hf2 ht0 x a (by first | omega | assumption) (by first | omega | assumption)) (cwV 2 hts gX7_mayMove_X7_hasNext rfl rfl rfl (by decide +kernel) ⟨Nat.le_of_ble_eq_true rfl, Nat.le_of_ble_eq_true rfl⟩) ⟨fun a U g mk q => ⟨q.1, q.2.1, va_K.moved (u := U) (U := U.calling g mk a) (Vm.Alike.refl U.vm) q.2.2⟩, va_recv hK hP (ci := 6) (q0 := 0) rfl hw0, fun U hU hW => ⟨rfl, by rw [hU]; exact hP, va_K.moved hW.alike hK⟩⟩ rfl rfl hl.1 rfl (lv_room (Nat.le_of_ble_eq_true rfl)) dX7_mayMove_59 ⟨Nat.le_refl _, Nat.le_refl _⟩) ?_
              refine wk_bn_eq (tgt := 69) hx hb dX7_mayMove_62 (by decide) (fun c_62 => ?_) (fun c_62 => ?_)
              · refine lv_iconst (v := nI 0) hx hb dX7_mayMove_69 (by decide +kernel) ?_
                refine wk_ti (v' := nI (bn (mmay how x a b n t = true))) (by rw [bn_f (fun q => by obtain ⟨q1, q2, q3, q4, q5, q6⟩ := (mmay_iff _ _ _ _ _ _).mp q; first | exact absurd q1 (by omega) | exact absurd q2 (by omega) | exact q3 c_22 | exact q4 c_32 | exact q5 c_46 | exact q6.elim (by omega) c_62)]) ?_
                exact W.zret hx hb hr (bn_nar _) (fun t9 ht _ => ⟨rfl, ht⟩) (fun _ h => nomatch h) dX7_mayMove_70
              · refine lv_iconst (v := nI 1) hx hb dX7_mayMove_65 (by decide +kernel) ?_
                refine lv_goto (tgt := 70) hx hb dX7_mayMove_66 (by decide) ?_
                refine wk_ti (v' := nI (bn (mmay how x a b n t = true))) (by rw [bn_t ((mmay_iff _ _ _ _ _ _).mpr ⟨c_6, c_15, c_22, c_32, c_46, by first | exact Or.inl c_52 | exact Or.inr c_62⟩)]) ?_
                exact W.zret hx hb hr (bn_nar _) (fun t9 ht _ => ⟨rfl, ht⟩) (fun _ h => nomatch h) dX7_mayMove_70
          · refine lv_iconst (v := nI 0) hx hb dX7_mayMove_49 (by decide +kernel) ?_
            refine wk_ti (v' := nI (bn (mmay how x a b n t = true))) (by rw [bn_f (fun q => by obtain ⟨q1, q2, q3, q4, q5, q6⟩ := (mmay_iff _ _ _ _ _ _).mp q; first | exact absurd q1 (by omega) | exact absurd q2 (by omega) | exact q3 c_22 | exact q4 c_32 | exact q5 c_46 | exact q6.elim (by omega) c_62)]) ?_
            exact W.zret hx hb hr (bn_nar _) (fun t9 ht _ => ⟨rfl, ht⟩) (fun _ h => nomatch h) dX7_mayMove_50
set_option maxHeartbeats 4000000 in
set_option maxRecDepth 100000 in
theorem c_X7_moved (l : Launch) (dC : Nat → ClassId) (dI : Nat → Nat → Nat) (ws : va_W) (tys : List (ClassId × FieldType)) (h0 : Nat) (fs : List Value) (hw0 : ws[0]? = some (h0, .inr (6, fs))) (t : Nat) (hf2 : fs[2]? = some (.int (nI t))) (ht0 : 2 ≤ t ∧ t ≤ 4) (x a b : Nat) (hx0 : x < 2 ^ 48) (ha0 : a < 4) (hb0 : b < 4) (hha : mht x a t ≠ 0) (hhb : mht x b t < t) : Met l yX7_moved wsX7_moved ({ frames := 2, cells := 0, slots := 0, locals := 47 }) (va_Pc [.ref h0, .long (lN x), .int (nI a), .int (nI b)] (fun U => va_P (dC, dI) vwCl ws U.heap ∧ va_K (dC, dI) vwCl tys U)) (pu_Q (.long (lN (mmv x a b t)))) 0 0 (fun _ => False) := by
  refine Met.ofW (cc := cX7_moved) (maxL := 6) (ret := (some .long)) (by decide) rfl ?_
  intro p e s m args below meth c s₁ B hml hv
  obtain ⟨rfl, hP, hK⟩ := hv
  have hx := B.exec
  have hb := B.bytes
  have hr := B.returns
  have hts := atoms_spec (ws := wsX7_moved) B.pre
  have hown : s.vm.findClass RX7 = some m.cls := findClass_of_methodNamed B.named
  have hlocks := B.notSynchronized
  have hl := lv_entry ([.ref h0, .long (lN x), .int (nI a), .int (nI b)]) (n := 6) (Nat.le_of_ble_eq_true rfl)
  rw [lg_entry_eq]
  generalize (lg_sl ([.ref h0, .long (lN x), .int (nI a), .int (nI b)]) ++ List.replicate (6 - (lg_sl ([.ref h0, .long (lN x), .int (nI a), .int (nI b)])).length) Slot.unset).toArray = ls at hl ⊢
  have hl : lv_has ls 6 [(0, .ref h0), (1, .long (lN x)), (3, .int (nI a)), (4, .int (nI b))] := hl
  have hq1 := mht_le x a t
  have hq2 := mht_le x b t
  have hq3 := yr_lt x (4 * a + (mht x a t - 1))
  refine lv_aload_n hx hb dX7_moved_0 rfl (lv_at hl 0 rfl) ?_
  refine lv_lload_n hx hb dX7_moved_1 rfl (lv_at hl 1 rfl) ?_
  refine lv_iload_n hx hb dX7_moved_2 rfl (lv_at hl 2 rfl) ?_
  refine pu_go (va_runV (As := [.long (lN x), .int (nI a)]) (rest := []) ⟨hx, hb, hml, hown, hts⟩ (c_X7_height l dC dI ws tys h0 fs hw0 t hf2 ht0 x a (by first | omega | assumption) (by first | omega | assumption)) (cwV 2 hts gX7_moved_X7_height rfl rfl rfl (by decide +kernel) ⟨Nat.le_of_ble_eq_true rfl, Nat.le_of_ble_eq_true rfl⟩) ⟨fun a U g mk q => ⟨q.1, q.2.1, va_K.moved (u := U) (U := U.calling g mk a) (Vm.Alike.refl U.vm) q.2.2⟩, va_recv hK hP (ci := 6) (q0 := 0) rfl hw0, fun U hU hW => ⟨rfl, by rw [hU]; exact hP, va_K.moved hW.alike hK⟩⟩ rfl rfl hl.1 rfl (lv_room (Nat.le_of_ble_eq_true rfl)) dX7_moved_3 ⟨Nat.le_refl _, Nat.le_refl _⟩) ?_
  refine lv_iconst (v := nI 1) hx hb dX7_moved_6 (by decide +kernel) ?_
  refine wk_isub hx hb (by omega) dX7_moved_7 ?_
  refine lv_istore (lv' := [(5, .int (nI ((mht x a t) - 1))), (0, .ref h0), (1, .long (lN x)), (3, .int (nI a)), (4, .int (nI b))]) hx hb dX7_moved_8 hl (by decide) rfl (fun ls hl => ?_)
  refine lv_lload_n hx hb dX7_moved_10 rfl (lv_at hl 2 rfl) ?_
  refine lv_iload_n hx hb dX7_moved_11 rfl (lv_at hl 3 rfl) ?_
  refine lv_iload hx hb dX7_moved_12 (lv_at hl 0 rfl) ?_
  refine pu_go (va_runS (As := [.long (lN x), .int (nI a), .int (nI ((mht x a t) - 1))]) (rest := []) ⟨hx, hb, hml, hown, hts⟩ (c_X7_without l x a ((mht x a t) - 1) (by first | omega | assumption) (by first | omega | assumption)) (va_cwS 3 hts gX7_moved_X7_without rfl rfl rfl (by decide +kernel) ⟨Nat.le_of_ble_eq_true rfl, Nat.le_of_ble_eq_true rfl⟩) ⟨fun _ _ _ _ q => q, fun _ _ _ => ⟨rfl, trivial⟩⟩ rfl rfl hl.1 rfl (lv_room (Nat.le_of_ble_eq_true rfl)) dX7_moved_14 ⟨Nat.le_refl _, Nat.le_refl _⟩) ?_
  refine lv_lload_n hx hb dX7_moved_17 rfl (lv_at hl 2 rfl) ?_
  refine lv_iload_n hx hb dX7_moved_18 rfl (lv_at hl 3 rfl) ?_
  refine lv_iload hx hb dX7_moved_19 (lv_at hl 0 rfl) ?_
  refine pu_go (va_runS (As := [.long (lN x), .int (nI a), .int (nI ((mht x a t) - 1))]) (rest := [.long (lN (mwo x (4 * a + ((mht x a t) - 1))))]) ⟨hx, hb, hml, hown, hts⟩ (c_X7_box l x a ((mht x a t) - 1) (by first | omega | assumption) (by first | omega | assumption)) (va_cwS 3 hts gX7_moved_X7_box rfl rfl rfl (by decide +kernel) ⟨Nat.le_of_ble_eq_true rfl, Nat.le_of_ble_eq_true rfl⟩) ⟨fun _ _ _ _ q => q, fun _ _ _ => ⟨rfl, trivial⟩⟩ rfl rfl hl.1 rfl (lv_room (Nat.le_of_ble_eq_true rfl)) dX7_moved_21 ⟨Nat.le_refl _, Nat.le_refl _⟩) ?_
  refine wk_i2l hx hb (by omega) dX7_moved_24 ?_
  refine lv_iconst (v := nI 3) hx hb dX7_moved_25 (by decide +kernel) ?_
  refine lv_iconst (v := nI 4) hx hb dX7_moved_26 (by decide +kernel) ?_
  refine lv_iload hx hb dX7_moved_27 (lv_at hl 4 rfl) ?_
  refine wk_imul hx hb dX7_moved_29 ?_
  refine lv_aload_n hx hb dX7_moved_30 rfl (lv_at hl 1 rfl) ?_
  refine lv_lload_n hx hb dX7_moved_31 rfl (lv_at hl 2 rfl) ?_
  refine lv_iload hx hb dX7_moved_32 (lv_at hl 4 rfl) ?_
  refine pu_go (va_runV (As := [.long (lN x), .int (nI b)]) (rest := [.int (nI (4 * b)), .int (nI 3), .long (lN (yr x (4 * a + ((mht x a t) - 1)))), .long (lN (mwo x (4 * a + ((mht x a t) - 1))))]) ⟨hx, hb, hml, hown, hts⟩ (c_X7_height l dC dI ws tys h0 fs hw0 t hf2 ht0 x b (by first | omega | assumption) (by first | omega | assumption)) (cwV 2 hts gX7_moved_X7_height rfl rfl rfl (by decide +kernel) ⟨Nat.le_of_ble_eq_true rfl, Nat.le_of_ble_eq_true rfl⟩) ⟨fun a U g mk q => ⟨q.1, q.2.1, va_K.moved (u := U) (U := U.calling g mk a) (Vm.Alike.refl U.vm) q.2.2⟩, va_recv hK hP (ci := 6) (q0 := 0) rfl hw0, fun U hU hW => ⟨rfl, by rw [hU]; exact hP, va_K.moved hW.alike hK⟩⟩ rfl rfl hl.1 rfl (lv_room (Nat.le_of_ble_eq_true rfl)) dX7_moved_34 ⟨Nat.le_refl _, Nat.le_refl _⟩) ?_
  refine wk_iadd hx hb dX7_moved_37 ?_
  refine wk_imul hx hb dX7_moved_38 ?_
  refine wk_lshl hx hb (by omega) dX7_moved_39 ?_
  refine lv_lor hx hb dX7_moved_40 ?_
  refine wk_tl (v' := lN (mmv x a b t)) (mmv_eq hx0 (by omega) (by omega) hhb) ?_
  exact W.lret hx hb hr (fun t9 ht _ => ⟨rfl, ht⟩) (fun _ h => nomatch h) dX7_moved_41
set_option maxHeartbeats 4000000 in
set_option maxRecDepth 100000 in
theorem c_X7_above (l : Launch) (dC : Nat → ClassId) (dI : Nat → Nat → Nat) (ws : va_W) (tys : List (ClassId × FieldType)) (h0 : Nat) (fs : List Value) (hw0 : ws[0]? = some (h0, .inr (6, fs))) (t : Nat) (hf2 : fs[2]? = some (.int (nI t))) (ht0 : 2 ≤ t ∧ t ≤ 4) (x s0 : Nat) (hx0 : x < 2 ^ 48) (hs0 : s0 < 4) : Met l yX7_above wsX7_above ({ frames := 2, cells := 0, slots := 0, locals := 47 }) (va_Pc [.ref h0, .long (lN x), .int (nI s0)] (fun U => va_P (dC, dI) vwCl ws U.heap ∧ va_K (dC, dI) vwCl tys U)) (pu_Q (.int (nI (mabv x s0 t)))) 0 0 (fun _ => False) := by
  refine Met.ofW (cc := cX7_above) (maxL := 7) (ret := (some .int)) (by decide) rfl ?_
  intro p e s m args below meth c s₁ B hml hv
  obtain ⟨rfl, hP, hK⟩ := hv
  have hx := B.exec
  have hb := B.bytes
  have hr := B.returns
  have hts := atoms_spec (ws := wsX7_above) B.pre
  have hown : s.vm.findClass RX7 = some m.cls := findClass_of_methodNamed B.named
  have hlocks := B.notSynchronized
  have hl := lv_entry ([.ref h0, .long (lN x), .int (nI s0)]) (n := 7) (Nat.le_of_ble_eq_true rfl)
  rw [lg_entry_eq]
  generalize (lg_sl ([.ref h0, .long (lN x), .int (nI s0)]) ++ List.replicate (7 - (lg_sl ([.ref h0, .long (lN x), .int (nI s0)])).length) Slot.unset).toArray = ls at hl ⊢
  have hl : lv_has ls 7 [(0, .ref h0), (1, .long (lN x)), (3, .int (nI s0))] := hl
  have hq0 := ylo_lt x 16
  have hq1 := mht_le x s0 t
  refine lv_aload_n hx hb dX7_above_0 rfl (lv_at hl 0 rfl) ?_
  refine lv_lload_n hx hb dX7_above_1 rfl (lv_at hl 1 rfl) ?_
  refine pu_go (va_runV (As := [.long (lN x)]) (rest := []) ⟨hx, hb, hml, hown, hts⟩ (c_X7_least l dC dI ws tys h0 fs hw0 x (by first | omega | assumption)) (cwV 1 hts gX7_above_X7_least rfl rfl rfl (by decide +kernel) ⟨Nat.le_of_ble_eq_true rfl, Nat.le_of_ble_eq_true rfl⟩) ⟨fun a U g mk q => ⟨q.1, q.2.1, va_K.moved (u := U) (U := U.calling g mk a) (Vm.Alike.refl U.vm) q.2.2⟩, va_recv hK hP (ci := 6) (q0 := 0) rfl hw0, fun U hU hW => ⟨rfl, by rw [hU]; exact hP, va_K.moved hW.alike hK⟩⟩ rfl rfl hl.1 rfl (lv_room (Nat.le_of_ble_eq_true rfl)) dX7_above_2 ⟨Nat.le_refl _, Nat.le_refl _⟩) ?_
  refine lv_istore (lv' := [(4, .int (nI (ylo x 16))), (0, .ref h0), (1, .long (lN x)), (3, .int (nI s0))]) hx hb dX7_above_5 hl (by decide) rfl (fun ls hl => ?_)
  refine lv_iconst (v := nI 0) hx hb dX7_above_7 (by decide +kernel) ?_
  refine lv_istore (lv' := [(5, .int (nI 0)), (4, .int (nI (ylo x 16))), (0, .ref h0), (1, .long (lN x)), (3, .int (nI s0))]) hx hb dX7_above_8 hl (by decide) rfl (fun ls hl => ?_)
  refine lv_aload_n hx hb dX7_above_10 rfl (lv_at hl 2 rfl) ?_
  refine lv_lload_n hx hb dX7_above_11 rfl (lv_at hl 3 rfl) ?_
  refine lv_iload_n hx hb dX7_above_12 rfl (lv_at hl 4 rfl) ?_
  refine pu_go (va_runV (As := [.long (lN x), .int (nI s0)]) (rest := []) ⟨hx, hb, hml, hown, hts⟩ (c_X7_height l dC dI ws tys h0 fs hw0 t hf2 ht0 x s0 (by first | omega | assumption) (by first | omega | assumption)) (cwV 2 hts gX7_above_X7_height rfl rfl rfl (by decide +kernel) ⟨Nat.le_of_ble_eq_true rfl, Nat.le_of_ble_eq_true rfl⟩) ⟨fun a U g mk q => ⟨q.1, q.2.1, va_K.moved (u := U) (U := U.calling g mk a) (Vm.Alike.refl U.vm) q.2.2⟩, va_recv hK hP (ci := 6) (q0 := 0) rfl hw0, fun U hU hW => ⟨rfl, by rw [hU]; exact hP, va_K.moved hW.alike hK⟩⟩ rfl rfl hl.1 rfl (lv_room (Nat.le_of_ble_eq_true rfl)) dX7_above_13 ⟨Nat.le_refl _, Nat.le_refl _⟩) ?_
  refine lv_istore (lv' := [(6, .int (nI (mht x s0 t))), (5, .int (nI 0)), (4, .int (nI (ylo x 16))), (0, .ref h0), (1, .long (lN x)), (3, .int (nI s0))]) hx hb dX7_above_16 hl (by decide) rfl (fun ls hl => ?_)
  have cut_18 : ∀ (n_18 : Nat) (k : Nat) (v18_1 : Int64) (v18_3 : Int32) (v18_4 : Int32) (v18_5 : Int32) (v18_6 : Int32) (ls : Array Slot) (hk : k ≤ mht x s0 t) (he : mab x s0 (ylo x 16) (mht x s0 t) (5 - k) k = mabv x s0 t) (hn_18 : mht x s0 t - k < n_18) (_ : v18_1 = lN x) (_ : v18_3 = nI s0) (_ : v18_4 = nI (ylo x 16)) (_ : v18_5 = nI k) (_ : v18_6 = nI (mht x s0 t)) (_ : lv_has ls 7 [(0, .ref h0), (1, .long v18_1), (3, .int v18_3), (4, .int v18_4), (5, .int v18_5), (6, .int v18_6)]), W p l e (headSpec wsX7_above ({ frames := 2, cells := 0, slots := 0, locals := 47 })).room s m ([.ref h0, .long (lN x), .int (nI s0)] : List Value).toArray below meth c s.heap [] 0 0 (MQ below (pu_Q (.int (nI (mabv x s0 t)))) ([.ref h0, .long (lN x), .int (nI s0)] : List Value).toArray s 0 0 (fun _ => False)) (F0 m 18 ls []) := by
    intro n_18
    induction n_18 with
    | zero => intros; omega
    | succ n_18 ih_18 =>
      rintro k v18_1 v18_3 v18_4 v18_5 v18_6 ls hk he hn_18 rfl rfl rfl rfl rfl hl
      have hq2 := yr_lt x (4 * s0 + (mht x s0 t - 1 - k))
      refine lv_iload hx hb dX7_above_18 (lv_at hl 4 rfl) ?_
      refine lv_iload hx hb dX7_above_20 (lv_at hl 5 rfl) ?_
      refine wk_icmp_ge (tgt := 48) hx hb (by omega) (by omega) dX7_above_22 (by decide) (fun c_22 => ?_) (fun c_22 => ?_)
      · refine lv_iload hx hb dX7_above_48 (lv_at hl 4 rfl) ?_
        refine lv_iload hx hb dX7_above_50 (lv_at hl 5 rfl) ?_
        refine wk_icmp_ge (tgt := 60) hx hb (by omega) (by omega) dX7_above_52 (by decide) (fun c_52 => ?_) (fun c_52 => ?_)
        · refine lv_bipush (v := nI 9) hx hb dX7_above_60 (by decide +kernel) ?_
          refine wk_ti (v' := nI (mabv x s0 t)) (by first | (exfalso; omega) | skip; rw [← he, show 5 - k = (5 - (k + 1)) + 1 by omega, mab_s]; first | rw [if_pos (by omega)] | rw [if_neg (by omega), if_pos c_39]) ?_
          exact W.iret hx hb hr (fun t9 ht _ => ⟨rfl, ht⟩) (fun _ h => nomatch h) dX7_above_62
        · refine lv_iload hx hb dX7_above_55 (lv_at hl 4 rfl) ?_
          refine lv_goto (tgt := 62) hx hb dX7_above_57 (by decide) ?_
          refine wk_ti (v' := nI (mabv x s0 t)) (by first | (exfalso; omega) | skip; rw [← he, show 5 - k = (5 - (k + 1)) + 1 by omega, mab_s]; first | rw [if_pos (by omega)] | rw [if_neg (by omega), if_pos c_39]) ?_
          exact W.iret hx hb hr (fun t9 ht _ => ⟨rfl, ht⟩) (fun _ h => nomatch h) dX7_above_62
      · refine lv_lload_n hx hb dX7_above_25 rfl (lv_at hl 1 rfl) ?_
        refine lv_iload_n hx hb dX7_above_26 rfl (lv_at hl 2 rfl) ?_
        refine lv_iload hx hb dX7_above_27 (lv_at hl 5 rfl) ?_
        refine lv_iconst (v := nI 1) hx hb dX7_above_29 (by decide +kernel) ?_
        refine wk_isub hx hb (by omega) dX7_above_30 ?_
        refine lv_iload hx hb dX7_above_31 (lv_at hl 4 rfl) ?_
        refine wk_isub hx hb (by omega) dX7_above_33 ?_
        refine pu_go (va_runS (As := [.long (lN x), .int (nI s0), .int (nI (((mht x s0 t) - 1) - k))]) (rest := []) ⟨hx, hb, hml, hown, hts⟩ (c_X7_box l x s0 (((mht x s0 t) - 1) - k) (by first | omega | assumption) (by first | omega | assumption)) (va_cwS 3 hts gX7_above_X7_box rfl rfl rfl (by decide +kernel) ⟨Nat.le_of_ble_eq_true rfl, Nat.le_of_ble_eq_true rfl⟩) ⟨fun _ _ _ _ q => q, fun _ _ _ => ⟨rfl, trivial⟩⟩ rfl rfl hl.1 rfl (lv_room (Nat.le_of_ble_eq_true rfl)) dX7_above_34 ⟨Nat.le_refl _, Nat.le_refl _⟩) ?_
        refine lv_iload hx hb dX7_above_37 (lv_at hl 3 rfl) ?_
        refine wk_icmp_eq (tgt := 48) hx hb (by omega) (by omega) dX7_above_39 (by decide) (fun c_39 => ?_) (fun c_39 => ?_)
        · refine lv_iload hx hb dX7_above_48 (lv_at hl 4 rfl) ?_
          refine lv_iload hx hb dX7_above_50 (lv_at hl 5 rfl) ?_
          refine wk_icmp_ge (tgt := 60) hx hb (by omega) (by omega) dX7_above_52 (by decide) (fun c_52 => ?_) (fun c_52 => ?_)
          · refine lv_bipush (v := nI 9) hx hb dX7_above_60 (by decide +kernel) ?_
            refine wk_ti (v' := nI (mabv x s0 t)) (by first | (exfalso; omega) | skip; rw [← he, show 5 - k = (5 - (k + 1)) + 1 by omega, mab_s]; first | rw [if_pos (by omega)] | rw [if_neg (by omega), if_pos c_39]) ?_
            exact W.iret hx hb hr (fun t9 ht _ => ⟨rfl, ht⟩) (fun _ h => nomatch h) dX7_above_62
          · refine lv_iload hx hb dX7_above_55 (lv_at hl 4 rfl) ?_
            refine lv_goto (tgt := 62) hx hb dX7_above_57 (by decide) ?_
            refine wk_ti (v' := nI (mabv x s0 t)) (by first | (exfalso; omega) | skip; rw [← he, show 5 - k = (5 - (k + 1)) + 1 by omega, mab_s]; first | rw [if_pos (by omega)] | rw [if_neg (by omega), if_pos c_39]) ?_
            exact W.iret hx hb hr (fun t9 ht _ => ⟨rfl, ht⟩) (fun _ h => nomatch h) dX7_above_62
        · refine lv_iinc (v := nI (k + 1)) (lv' := [(5, .int (nI (k + 1))), (0, .ref h0), (1, .long (lN x)), (3, .int (nI s0)), (4, .int (nI (ylo x 16))), (6, .int (nI (mht x s0 t)))]) hx hb dX7_above_42 hl (k := 4) rfl (wk_inc _ 1 rfl) (by decide) rfl (fun ls hl => ?_)
          refine lv_goto (tgt := 18) hx hb dX7_above_45 (by decide) ?_
          exact ih_18 (k + 1) _ _ _ _ _ ls (by omega) (by rw [← he, show 5 - k = (5 - (k + 1)) + 1 by omega, mab_s, if_neg (by omega), if_neg c_39]) (by omega) (rfl) (rfl) (rfl) (rfl) (rfl) (lv_sub hl [1, 2, 3, 4, 0, 5] rfl)
  exact cut_18 ((mht x s0 t) + 1) 0 _ _ _ _ _ ls (by omega) (rfl) (by omega) (rfl) (rfl) (rfl) (rfl) (rfl) (lv_sub hl [3, 4, 5, 2, 1, 0] rfl)
set_option maxHeartbeats 4000000 in
set_option maxRecDepth 100000 in
theorem c_X7_leastOf (l : Launch) (dC : Nat → ClassId) (dI : Nat → Nat → Nat) (ws : va_W) (tys : List (ClassId × FieldType)) (h0 : Nat) (fs : List Value) (hw0 : ws[0]? = some (h0, .inr (6, fs))) (t : Nat) (hf2 : fs[2]? = some (.int (nI t))) (ht0 : 2 ≤ t ∧ t ≤ 4) (x s0 : Nat) (hx0 : x < 2 ^ 48) (hs0 : s0 < 4) : Met l yX7_leastOf wsX7_leastOf ({ frames := 1, cells := 0, slots := 0, locals := 23 }) (va_Pc [.ref h0, .long (lN x), .int (nI s0)] (fun U => va_P (dC, dI) vwCl ws U.heap ∧ va_K (dC, dI) vwCl tys U)) (pu_Q (.int (nI (mlo x s0 t)))) 0 0 (fun _ => False) := by
  refine Met.ofW (cc := cX7_leastOf) (maxL := 6) (ret := (some .int)) (by decide) rfl ?_
  intro p e s m args below meth c s₁ B hml hv
  obtain ⟨rfl, hP, hK⟩ := hv
  have hx := B.exec
  have hb := B.bytes
  have hr := B.returns
  have hts := atoms_spec (ws := wsX7_leastOf) B.pre
  have hown : s.vm.findClass RX7 = some m.cls := findClass_of_methodNamed B.named
  have hlocks := B.notSynchronized
  have hinX7 : ∀ w ∈ u_ws RX7 TX7 17, w ∈ wsX7_leastOf := by decide +kernel
  have hl := lv_entry ([.ref h0, .long (lN x), .int (nI s0)]) (n := 6) (Nat.le_of_ble_eq_true rfl)
  rw [lg_entry_eq]
  generalize (lg_sl ([.ref h0, .long (lN x), .int (nI s0)]) ++ List.replicate (6 - (lg_sl ([.ref h0, .long (lN x), .int (nI s0)])).length) Slot.unset).toArray = ls at hl ⊢
  have hl : lv_has ls 6 [(0, .ref h0), (1, .long (lN x)), (3, .int (nI s0))] := hl
  refine lv_bipush (v := nI 9) hx hb dX7_leastOf_0 (by decide +kernel) ?_
  refine lv_istore (lv' := [(4, .int (nI 9)), (0, .ref h0), (1, .long (lN x)), (3, .int (nI s0))]) hx hb dX7_leastOf_2 hl (by decide) rfl (fun ls hl => ?_)
  refine lv_iconst (v := nI 0) hx hb dX7_leastOf_4 (by decide +kernel) ?_
  refine lv_istore (lv' := [(5, .int (nI 0)), (4, .int (nI 9)), (0, .ref h0), (1, .long (lN x)), (3, .int (nI s0))]) hx hb dX7_leastOf_5 hl (by decide) rfl (fun ls hl => ?_)
  have cut_7 : ∀ (n_7 : Nat) (k : Nat) (v7_1 : Int64) (v7_3 : Int32) (v7_4 : Int32) (v7_5 : Int32) (ls : Array Slot) (hk : k ≤ t) (hn_7 : t - k < n_7) (_ : v7_1 = lN x) (_ : v7_3 = nI s0) (_ : v7_4 = nI (mlo x s0 k)) (_ : v7_5 = nI k) (_ : lv_has ls 6 [(0, .ref h0), (1, .long v7_1), (3, .int v7_3), (4, .int v7_4), (5, .int v7_5)]), W p l e (headSpec wsX7_leastOf ({ frames := 1, cells := 0, slots := 0, locals := 23 })).room s m ([.ref h0, .long (lN x), .int (nI s0)] : List Value).toArray below meth c s.heap [] 0 0 (MQ below (pu_Q (.int (nI (mlo x s0 t)))) ([.ref h0, .long (lN x), .int (nI s0)] : List Value).toArray s 0 0 (fun _ => False)) (F0 m 7 ls []) := by
    intro n_7
    induction n_7 with
    | zero => intros; omega
    | succ n_7 ih_7 =>
      rintro k v7_1 v7_3 v7_4 v7_5 ls hk hn_7 rfl rfl rfl rfl hl
      have hq1 := yr_lt x (4 * s0 + k)
      have hq2 := mlo_le x s0 k
      refine lv_iload hx hb dX7_leastOf_7 (lv_at hl 4 rfl) ?_
      refine lv_aload_n hx hb dX7_leastOf_9 rfl (lv_at hl 0 rfl) ?_
      refine va_get (D := (dC, dI)) (ci := 6) (v := .int (nI t)) (C := RX7) (T := TX7) (N := 17) hx hb hts hinX7 hown hK hP 0 hw0 rfl 2 (by decide) (hts (.fieldLink RX7 47 "ReshuffleSearchModel" "tiers" "I") (by decide +kernel)) (fun _ h9 => h9) hf2 dX7_leastOf_10 ?_
      refine wk_icmp_ge (tgt := 58) hx hb (by omega) (by omega) dX7_leastOf_13 (by decide) (fun c_13 => ?_) (fun c_13 => ?_)
      · refine lv_iload hx hb dX7_leastOf_58 (lv_at hl 3 rfl) ?_
        refine wk_ti (v' := nI (mlo x s0 t)) (by rw [show k = t by omega]) ?_
        exact W.iret hx hb hr (fun t9 ht _ => ⟨rfl, ht⟩) (fun _ h => nomatch h) dX7_leastOf_60
      · have cut_50 : ∀ (v50_1 : Int64) (v50_3 : Int32) (v50_5 : Int32) (u50_0 : Int32) (ls : Array Slot) (_ : v50_1 = lN x) (_ : v50_3 = nI s0) (_ : v50_5 = nI k) (_ : u50_0 = nI (mlo x s0 (k + 1))) (_ : lv_has ls 6 [(0, .ref h0), (1, .long v50_1), (3, .int v50_3), (5, .int v50_5)]), W p l e (headSpec wsX7_leastOf ({ frames := 1, cells := 0, slots := 0, locals := 23 })).room s m ([.ref h0, .long (lN x), .int (nI s0)] : List Value).toArray below meth c s.heap [] 0 0 (MQ below (pu_Q (.int (nI (mlo x s0 t)))) ([.ref h0, .long (lN x), .int (nI s0)] : List Value).toArray s 0 0 (fun _ => False)) (F0 m 50 ls [.int u50_0]) := by
          rintro v50_1 v50_3 v50_5 u50_0 ls rfl rfl rfl rfl hl
          refine lv_istore (lv' := [(4, .int (nI (mlo x s0 (k + 1)))), (0, .ref h0), (1, .long (lN x)), (3, .int (nI s0)), (5, .int (nI k))]) hx hb dX7_leastOf_50 hl (by decide) rfl (fun ls hl => ?_)
          refine lv_iinc (v := nI (k + 1)) (lv' := [(5, .int (nI (k + 1))), (4, .int (nI (mlo x s0 (k + 1)))), (0, .ref h0), (1, .long (lN x)), (3, .int (nI s0))]) hx hb dX7_leastOf_52 hl (k := 4) rfl (wk_inc _ 1 rfl) (by decide) rfl (fun ls hl => ?_)
          refine lv_goto (tgt := 7) hx hb dX7_leastOf_55 (by decide) ?_
          exact ih_7 (k + 1) _ _ _ _ ls (by omega) (by omega) (rfl) (rfl) (rfl) (rfl) (lv_sub hl [2, 3, 4, 1, 0] rfl)
        refine lv_lload_n hx hb dX7_leastOf_16 rfl (lv_at hl 1 rfl) ?_
        refine lv_iload_n hx hb dX7_leastOf_17 rfl (lv_at hl 2 rfl) ?_
        refine lv_iload hx hb dX7_leastOf_18 (lv_at hl 4 rfl) ?_
        refine pu_go (va_runS (As := [.long (lN x), .int (nI s0), .int (nI k)]) (rest := []) ⟨hx, hb, hml, hown, hts⟩ (c_X7_box l x s0 k (by first | omega | assumption) (by first | omega | assumption)) (va_cwS 3 hts gX7_leastOf_X7_box rfl rfl rfl (by decide +kernel) ⟨Nat.le_of_ble_eq_true rfl, Nat.le_of_ble_eq_true rfl⟩) ⟨fun _ _ _ _ q => q, fun _ _ _ => ⟨rfl, trivial⟩⟩ rfl rfl hl.1 rfl (lv_room (Nat.le_of_ble_eq_true rfl)) dX7_leastOf_20 ⟨Nat.le_refl _, Nat.le_refl _⟩) ?_
        refine wk_if_le (tgt := 48) hx hb (by omega) dX7_leastOf_23 (by decide) (fun c_23 => ?_) (fun c_23 => ?_)
        · refine lv_iload hx hb dX7_leastOf_48 (lv_at hl 3 rfl) ?_
          exact cut_50 _ _ _ _ ls (rfl) (rfl) (rfl) (by rw [mlo_s, if_neg (by omega)]) (lv_sub hl [0, 1, 2, 4] rfl)
        · refine lv_lload_n hx hb dX7_leastOf_26 rfl (lv_at hl 1 rfl) ?_
          refine lv_iload_n hx hb dX7_leastOf_27 rfl (lv_at hl 2 rfl) ?_
          refine lv_iload hx hb dX7_leastOf_28 (lv_at hl 4 rfl) ?_
          refine pu_go (va_runS (As := [.long (lN x), .int (nI s0), .int (nI k)]) (rest := []) ⟨hx, hb, hml, hown, hts⟩ (c_X7_box l x s0 k (by first | omega | assumption) (by first | omega | assumption)) (va_cwS 3 hts gX7_leastOf_X7_box rfl rfl rfl (by decide +kernel) ⟨Nat.le_of_ble_eq_true rfl, Nat.le_of_ble_eq_true rfl⟩) ⟨fun _ _ _ _ q => q, fun _ _ _ => ⟨rfl, trivial⟩⟩ rfl rfl hl.1 rfl (lv_room (Nat.le_of_ble_eq_true rfl)) dX7_leastOf_30 ⟨Nat.le_refl _, Nat.le_refl _⟩) ?_
          refine lv_iload hx hb dX7_leastOf_33 (lv_at hl 3 rfl) ?_
          refine wk_icmp_ge (tgt := 48) hx hb (by omega) (by omega) dX7_leastOf_35 (by decide) (fun c_35 => ?_) (fun c_35 => ?_)
          · refine lv_iload hx hb dX7_leastOf_48 (lv_at hl 3 rfl) ?_
            exact cut_50 _ _ _ _ ls (rfl) (rfl) (rfl) (by rw [mlo_s, if_neg (by omega)]) (lv_sub hl [0, 1, 2, 4] rfl)
          · refine lv_lload_n hx hb dX7_leastOf_38 rfl (lv_at hl 1 rfl) ?_
            refine lv_iload_n hx hb dX7_leastOf_39 rfl (lv_at hl 2 rfl) ?_
            refine lv_iload hx hb dX7_leastOf_40 (lv_at hl 4 rfl) ?_
            refine pu_go (va_runS (As := [.long (lN x), .int (nI s0), .int (nI k)]) (rest := []) ⟨hx, hb, hml, hown, hts⟩ (c_X7_box l x s0 k (by first | omega | assumption) (by first | omega | assumption)) (va_cwS 3 hts gX7_leastOf_X7_box rfl rfl rfl (by decide +kernel) ⟨Nat.le_of_ble_eq_true rfl, Nat.le_of_ble_eq_true rfl⟩) ⟨fun _ _ _ _ q => q, fun _ _ _ => ⟨rfl, trivial⟩⟩ rfl rfl hl.1 rfl (lv_room (Nat.le_of_ble_eq_true rfl)) dX7_leastOf_42 ⟨Nat.le_refl _, Nat.le_refl _⟩) ?_
            refine lv_goto (tgt := 50) hx hb dX7_leastOf_45 (by decide) ?_
            exact cut_50 _ _ _ _ ls (rfl) (rfl) (rfl) (by rw [mlo_s, if_pos (by omega)]) (lv_sub hl [0, 1, 2, 4] rfl)
  exact cut_7 (t + 1) 0 _ _ _ _ ls (by omega) (by omega) (rfl) (rfl) (rfl) (rfl) (lv_sub hl [2, 3, 4, 1, 0] rfl)
set_option maxHeartbeats 4000000 in
set_option maxRecDepth 100000 in
theorem c_X7_far (l : Launch) (a b : Nat) (ha0 : a < 1000000) (hb0 : b < 1000000) : Met l yX7_far wsX7_far ({ frames := 0, cells := 0, slots := 0, locals := 0 }) (va_Pc [.int (nI a), .int (nI b)] (fun _ => True)) (pu_Q (.int (nI (2 + (a - b + (b - a)))))) 0 0 (fun _ => False) := by
  refine Met.ofW (cc := cX7_far) (maxL := 2) (ret := (some .int)) (by decide) rfl ?_
  intro p e s m args below meth c s₁ B hml hv
  obtain ⟨rfl, -⟩ := hv
  have hx := B.exec
  have hb := B.bytes
  have hr := B.returns
  have hts := atoms_spec (ws := wsX7_far) B.pre
  have hown : s.vm.findClass RX7 = some m.cls := findClass_of_methodNamed B.named
  have hlocks := B.notSynchronized
  have hl := lv_entry ([.int (nI a), .int (nI b)]) (n := 2) (Nat.le_of_ble_eq_true rfl)
  rw [lg_entry_eq]
  generalize (lg_sl ([.int (nI a), .int (nI b)]) ++ List.replicate (2 - (lg_sl ([.int (nI a), .int (nI b)])).length) Slot.unset).toArray = ls at hl ⊢
  have hl : lv_has ls 2 [(0, .int (nI a)), (1, .int (nI b))] := hl
  refine lv_iconst (v := nI 2) hx hb dX7_far_0 (by decide +kernel) ?_
  refine lv_iload_n hx hb dX7_far_1 rfl (lv_at hl 0 rfl) ?_
  refine lv_iload_n hx hb dX7_far_2 rfl (lv_at hl 1 rfl) ?_
  refine wk_icmp_le (tgt := 12) hx hb (by omega) (by omega) dX7_far_3 (by decide) (fun c_3 => ?_) (fun c_3 => ?_)
  · refine lv_iload_n hx hb dX7_far_12 rfl (lv_at hl 1 rfl) ?_
    refine lv_iload_n hx hb dX7_far_13 rfl (lv_at hl 0 rfl) ?_
    refine wk_isub hx hb (by omega) dX7_far_14 ?_
    refine wk_iadd hx hb dX7_far_15 ?_
    refine wk_ti (v' := nI (2 + (a - b + (b - a)))) (by congr 1; omega) ?_
    exact W.iret hx hb hr (fun t9 ht _ => ⟨rfl, ht⟩) (fun _ h => nomatch h) dX7_far_16
  · refine lv_iload_n hx hb dX7_far_6 rfl (lv_at hl 0 rfl) ?_
    refine lv_iload_n hx hb dX7_far_7 rfl (lv_at hl 1 rfl) ?_
    refine wk_isub hx hb (by omega) dX7_far_8 ?_
    refine lv_goto (tgt := 15) hx hb dX7_far_9 (by decide) ?_
    refine wk_iadd hx hb dX7_far_15 ?_
    refine wk_ti (v' := nI (2 + (a - b + (b - a)))) (by congr 1; omega) ?_
    exact W.iret hx hb hr (fun t9 ht _ => ⟨rfl, ht⟩) (fun _ h => nomatch h) dX7_far_16
