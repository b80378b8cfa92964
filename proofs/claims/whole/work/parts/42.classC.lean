set_option maxHeartbeats 4000000 in
set_option maxRecDepth 100000 in
theorem c_X0_slotOf (l : Launch) (dC : Nat → ClassId) (dI : Nat → Nat → Nat) (ad : Nat → Nat) (cI cJ : ClassId) (n t : Nat) (P HT RK GP : Nat → Nat) (sm : Int32) (F T M ST : Nat → Nat) (ln mn : Int32) (E : Nat → Nat) (hE0 : ∀ j, E j < 2 ^ 54) (k0 : Nat) (hk0 : k0 < 2 ^ 48)  : Met l yX0_slotOf wsX0_slotOf ({ frames := 0, cells := 0, slots := 0, locals := 0 }) (va_Pc [.ref (ad 12), .long (lN k0)] (rc_P (dC, dI) [(cI, .int), (cJ, .long)] (cW ad cI cJ n t P HT RK GP sm F T M ST ln mn E))) (pu_Q (.int (oN (cslot E k0 1024 0)))) 0 0 (fun _ => False) := by
  refine Met.ofW (cc := cX0_slotOf) (maxL := 6) (ret := (some .int)) (by decide) rfl ?_
  intro p e s m args below meth c s₁ B hml hv
  obtain ⟨rfl, hP, hK, hN⟩ := hv
  have hx := B.exec
  have hb := B.bytes
  have hr := B.returns
  have hts := atoms_spec (ws := wsX0_slotOf) B.pre
  have hown : s.vm.findClass RX0 = some m.cls := findClass_of_methodNamed B.named
  have hlocks := B.notSynchronized
  have hinX0 : ∀ w ∈ u_ws RX0 TX0 1, w ∈ wsX0_slotOf := by decide +kernel
  have hl := lv_entry ([.ref (ad 12), .long (lN k0)]) (n := 6) (Nat.le_of_ble_eq_true rfl)
  rw [lg_entry_eq]
  generalize (lg_sl ([.ref (ad 12), .long (lN k0)]) ++ List.replicate (6 - (lg_sl ([.ref (ad 12), .long (lN k0)])).length) Slot.unset).toArray = ls at hl ⊢
  have hl : lv_has ls 6 [(0, .ref (ad 12)), (1, .long (lN k0))] := hl
  have hq0 := chome_lt k0
  refine lv_lload_n hx hb dX0_slotOf_0 rfl (lv_at hl 1 rfl) ?_
  refine lv_ldc2 (v := (-7046029254386353131)) hx hb hown (hts (.constantLong RX0 27 (-7046029254386353131)) (by decide +kernel)) dX0_slotOf_1 ?_
  refine wk_tl (v' := lN 11400714819323198485) (by decide +kernel) ?_
  refine lv_lmul hx hb dX0_slotOf_4 ?_
  refine wk_tl (v' := lN (k0 * 11400714819323198485 % 18446744073709551616)) (by rw [lN_mul, wb_mod]) ?_
  refine lv_bipush (v := nI 54) hx hb dX0_slotOf_5 (by decide +kernel) ?_
  refine wk_lushr hx hb (by omega) (by omega) dX0_slotOf_7 ?_
  refine wk_l2i hx hb dX0_slotOf_8 ?_
  refine wk_ti (v' := nI (chome k0)) (rfl) ?_
  refine lv_istore_n (lv' := [(3, .int (nI (chome k0))), (0, .ref (ad 12)), (1, .long (lN k0))]) hx hb dX0_slotOf_9 rfl hl (by decide) rfl (fun ls hl => ?_)
  refine lv_iconst (v := nI 0) hx hb dX0_slotOf_10 (by decide +kernel) ?_
  refine lv_istore (lv' := [(4, .int (nI 0)), (3, .int (nI (chome k0))), (0, .ref (ad 12)), (1, .long (lN k0))]) hx hb dX0_slotOf_11 hl (by decide) rfl (fun ls hl => ?_)
  have cut_13 : ∀ (n_13 : Nat) (i : Nat) (v13_1 : Int64) (v13_3 : Int32) (v13_4 : Int32) (ls : Array Slot) (hi : i ≤ 1024) (he : cslot E k0 (1024 - i) i = cslot E k0 1024 0) (hn_13 : 1024 - i < n_13) (_ : v13_1 = lN k0) (_ : v13_3 = nI (chome k0)) (_ : v13_4 = nI i) (_ : lv_has ls 6 [(0, .ref (ad 12)), (1, .long v13_1), (3, .int v13_3), (4, .int v13_4)]), W p l e (headSpec wsX0_slotOf ({ frames := 0, cells := 0, slots := 0, locals := 0 })).room s m ([.ref (ad 12), .long (lN k0)] : List Value).toArray below meth c s.heap [] 0 0 (MQ below (pu_Q (.int (oN (cslot E k0 1024 0)))) ([.ref (ad 12), .long (lN k0)] : List Value).toArray s 0 0 (fun _ => False)) (F0 m 13 ls []) := by
    intro n_13
    induction n_13 with
    | zero => intros; omega
    | succ n_13 ih_13 =>
      rintro i v13_1 v13_3 v13_4 ls hi he hn_13 rfl rfl rfl hl
      have hq1 := hE0 ((chome k0 + i) % 1024)
      refine lv_iload hx hb dX0_slotOf_13 (lv_at hl 3 rfl) ?_
      refine lv_sipush (v := nI 1024) hx hb dX0_slotOf_15 (by decide +kernel) ?_
      refine wk_icmp_ge (tgt := 66) hx hb (by omega) (by omega) dX0_slotOf_18 (by decide) (fun c_18 => ?_) (fun c_18 => ?_)
      · refine lv_iconst (v := -1) hx hb dX0_slotOf_66 (by decide +kernel) ?_
        refine wk_ti (v' := oN (cslot E k0 1024 0)) (by rw [← he, show 1024 - i = 0 by omega]; rfl) ?_
        exact W.iret hx hb hr (fun t9 ht _ => ⟨rfl, ht⟩) (fun _ h => nomatch h) dX0_slotOf_67
      · refine lv_iload_n hx hb dX0_slotOf_21 rfl (lv_at hl 2 rfl) ?_
        refine lv_iload hx hb dX0_slotOf_22 (lv_at hl 3 rfl) ?_
        refine wk_iadd hx hb dX0_slotOf_24 ?_
        refine lv_sipush (v := nI 1023) hx hb dX0_slotOf_25 (by decide +kernel) ?_
        refine lv_iand hx hb dX0_slotOf_28 ?_
        refine wk_ti (v' := nI ((chome k0 + i) % 1024)) (and1023 _) ?_
        refine lv_istore (lv' := [(5, .int (nI ((chome k0 + i) % 1024))), (0, .ref (ad 12)), (1, .long (lN k0)), (3, .int (nI (chome k0))), (4, .int (nI i))]) hx hb dX0_slotOf_29 hl (by decide) rfl (fun ls hl => ?_)
        refine lv_aload_n hx hb dX0_slotOf_31 rfl (lv_at hl 1 rfl) ?_
        refine va_get (D := (dC, dI)) (ci := 1) (v := .ref (ad 13)) (C := RX0) (T := TX0) (N := 1) hx hb hts hinX0 hown hK hP 12 rfl rfl 0 (by decide) (hts (.fieldLink RX0 11 "ReshuffleSearch$Hopeless" "entry" "[J") (by decide +kernel)) (fun _ h9 => h9) rfl dX0_slotOf_32 ?_
        refine lv_iload hx hb dX0_slotOf_35 (lv_at hl 0 rfl) ?_
        refine wk_lald hx hb hK hP 13 1 rfl rfl (by omega) dX0_slotOf_37 ?_
        refine lv_lconst (v := lN 0) hx hb dX0_slotOf_38 (by decide +kernel) ?_
        refine wk_lcmp_eq (tgt := 57) hx hb (by omega) (by omega) dX0_slotOf_39 dX0_slotOf_40 (by decide) (fun c_40 => ?_) (fun c_40 => ?_)
        · refine lv_iload hx hb dX0_slotOf_57 (lv_at hl 0 rfl) ?_
          refine wk_ti (v' := oN (cslot E k0 1024 0)) (by rw [← he, show 1024 - i = (1024 - (i + 1)) + 1 by omega, cslot_s, if_pos (Or.inl c_40)]; rfl) ?_
          exact W.iret hx hb hr (fun t9 ht _ => ⟨rfl, ht⟩) (fun _ h => nomatch h) dX0_slotOf_59
        · refine lv_aload_n hx hb dX0_slotOf_43 rfl (lv_at hl 1 rfl) ?_
          refine va_get (D := (dC, dI)) (ci := 1) (v := .ref (ad 13)) (C := RX0) (T := TX0) (N := 1) hx hb hts hinX0 hown hK hP 12 rfl rfl 0 (by decide) (hts (.fieldLink RX0 11 "ReshuffleSearch$Hopeless" "entry" "[J") (by decide +kernel)) (fun _ h9 => h9) rfl dX0_slotOf_44 ?_
          refine lv_iload hx hb dX0_slotOf_47 (lv_at hl 0 rfl) ?_
          refine wk_lald hx hb hK hP 13 1 rfl rfl (by omega) dX0_slotOf_49 ?_
          refine lv_iconst (v := nI 5) hx hb dX0_slotOf_50 (by decide +kernel) ?_
          refine wk_lushr hx hb (by omega) (by omega) dX0_slotOf_51 ?_
          refine lv_lload_n hx hb dX0_slotOf_52 rfl (lv_at hl 2 rfl) ?_
          refine wk_lcmp_ne (tgt := 60) hx hb (by have := Nat.div_le_self (E ((chome k0 + i) % 1024)) (2 ^ 5); omega) (by omega) dX0_slotOf_53 dX0_slotOf_54 (by decide) (fun c_54 => ?_) (fun c_54 => ?_)
          · refine lv_iinc (v := nI (i + 1)) (lv' := [(4, .int (nI (i + 1))), (5, .int (nI ((chome k0 + i) % 1024))), (0, .ref (ad 12)), (1, .long (lN k0)), (3, .int (nI (chome k0)))]) hx hb dX0_slotOf_60 hl (k := 4) rfl (wk_inc _ 1 rfl) (by decide) rfl (fun ls hl => ?_)
            refine lv_goto (tgt := 13) hx hb dX0_slotOf_63 (by decide) ?_
            exact ih_13 (i + 1) _ _ _ ls (by omega) (by rw [← he, show 1024 - i = (1024 - (i + 1)) + 1 by omega, cslot_s, if_neg (fun q => q.elim c_40 c_54)]) (by omega) (rfl) (rfl) (rfl) (lv_sub hl [2, 3, 4, 0] rfl)
          · refine lv_iload hx hb dX0_slotOf_57 (lv_at hl 0 rfl) ?_
            refine wk_ti (v' := oN (cslot E k0 1024 0)) (by rw [← he, show 1024 - i = (1024 - (i + 1)) + 1 by omega, cslot_s, if_pos (Or.inr c_54)]; rfl) ?_
            exact W.iret hx hb hr (fun t9 ht _ => ⟨rfl, ht⟩) (fun _ h => nomatch h) dX0_slotOf_59
  exact cut_13 (1024 + 1) 0 _ _ _ ls (by omega) (rfl) (by omega) (rfl) (rfl) (rfl) (lv_sub hl [2, 3, 1, 0] rfl)
/-- what the table knows of a key -/
def cknow (E : Nat → Nat) (k m : Nat) : Bool := match cslot E k 1024 0 with
  | none => false
  | some q => decide (E q ≠ 0) && decide (m ≤ E q % 32)
def clrn (E : Nat → Nat) (k m : Nat) : Nat → Nat := match cslot E k 1024 0 with
  | none => E
  | some q => upN E q (k * 32 + m)
theorem oN_some {o : Option Nat} (hb : ∀ k, o = some k → k < 1000000) (h : ¬ oN o = -1) : ∃ q, o = some q := by
  cases o with
  | none => exact absurd rfl h
  | some q => exact ⟨q, rfl⟩
set_option maxHeartbeats 4000000 in
set_option maxRecDepth 100000 in
theorem c_X0_isKnown (l : Launch) (dC : Nat → ClassId) (dI : Nat → Nat → Nat) (ad : Nat → Nat) (cI cJ : ClassId) (n t : Nat) (P HT RK GP : Nat → Nat) (sm : Int32) (F T M ST : Nat → Nat) (ln mn : Int32) (E : Nat → Nat) (hE0 : ∀ j, E j < 2 ^ 54) (k0 m0 : Nat) (hk0 : k0 < 2 ^ 48) (hm0 : m0 < 32) : Met l yX0_isKnown wsX0_isKnown ({ frames := 1, cells := 0, slots := 0, locals := 25 }) (va_Pc [.ref (ad 12), .long (lN k0), .int (nI m0)] (rc_P (dC, dI) [(cI, .int), (cJ, .long)] (cW ad cI cJ n t P HT RK GP sm F T M ST ln mn E))) (pu_Q (.int (nI (bn (cknow E k0 m0 = true))))) 0 0 (fun _ => False) := by
  refine Met.ofW (cc := cX0_isKnown) (maxL := 5) (ret := (some .boolean)) (by decide) rfl ?_
  intro p e s m args below meth c s₁ B hml hv
  obtain ⟨rfl, hP, hK, hN⟩ := hv
  have hx := B.exec
  have hb := B.bytes
  have hr := B.returns
  have hts := atoms_spec (ws := wsX0_isKnown) B.pre
  have hown : s.vm.findClass RX0 = some m.cls := findClass_of_methodNamed B.named
  have hlocks := B.notSynchronized
  have hinX0 : ∀ w ∈ u_ws RX0 TX0 1, w ∈ wsX0_isKnown := by decide +kernel
  have hl := lv_entry ([.ref (ad 12), .long (lN k0), .int (nI m0)]) (n := 5) (Nat.le_of_ble_eq_true rfl)
  rw [lg_entry_eq]
  generalize (lg_sl ([.ref (ad 12), .long (lN k0), .int (nI m0)]) ++ List.replicate (5 - (lg_sl ([.ref (ad 12), .long (lN k0), .int (nI m0)])).length) Slot.unset).toArray = ls at hl ⊢
  have hl : lv_has ls 5 [(0, .ref (ad 12)), (1, .long (lN k0)), (3, .int (nI m0))] := hl
  refine lv_aload_n hx hb dX0_isKnown_0 rfl (lv_at hl 0 rfl) ?_
  refine lv_lload_n hx hb dX0_isKnown_1 rfl (lv_at hl 1 rfl) ?_
  refine pu_go (va_runV (As := [.long (lN k0)]) (rest := []) ⟨hx, hb, hml, hown, hts⟩ (c_X0_slotOf l dC dI ad cI cJ n t P HT RK GP sm F T M ST ln mn E hE0 k0 (by first | omega | assumption)) (cwV 1 hts gX0_isKnown_X0_slotOf rfl rfl rfl (by decide +kernel) ⟨Nat.le_of_ble_eq_true rfl, Nat.le_of_ble_eq_true rfl⟩) ⟨rc_blind, va_recv hK hP (ci := 1) (q0 := 12) rfl rfl, fun U hU hW => ⟨rfl, by rw [hU]; exact hP, va_K.moved hW.alike hK, nst_warm hW hN⟩⟩ rfl rfl hl.1 rfl (lv_room (Nat.le_of_ble_eq_true rfl)) dX0_isKnown_2 ⟨Nat.le_refl _, Nat.le_refl _⟩) ?_
  refine lv_istore (lv' := [(4, .int (oN (cslot E k0 1024 0))), (0, .ref (ad 12)), (1, .long (lN k0)), (3, .int (nI m0))]) hx hb dX0_isKnown_5 hl (by decide) rfl (fun ls hl => ?_)
  refine lv_iload hx hb dX0_isKnown_7 (lv_at hl 0 rfl) ?_
  refine lv_iconst (v := -1) hx hb dX0_isKnown_9 (by decide +kernel) ?_
  refine lv_icmp_eq (tgt := 46) hx hb dX0_isKnown_10 (by decide) (fun c_10 => ?_) (fun c_10 => ?_)
  · have h9 := (oN_m1 (fun k h => by have := (cslot_ok _ _ _ _ _ h).1; omega)).mp c_10
    refine lv_iconst (v := nI 0) hx hb dX0_isKnown_46 (by decide +kernel) ?_
    refine wk_ti (v' := nI (bn (cknow E k0 m0 = true))) (by rw [bn_f (fun q => by unfold cknow at q; rw [h9] at q; exact nomatch q)]) ?_
    exact W.zret hx hb hr (bn_nar _) (fun t9 ht _ => ⟨rfl, ht⟩) (fun _ h => nomatch h) dX0_isKnown_47
  · obtain ⟨q9, h9⟩ := oN_some (fun k h => by have := (cslot_ok _ _ _ _ _ h).1; omega) c_10
    have hq9 := (cslot_ok _ _ _ _ _ h9).1
    have hl : lv_has ls 5 [(4, .int (nI q9)), (0, .ref (ad 12)), (1, .long (lN k0)), (3, .int (nI m0))] := by rw [h9] at hl; exact hl
    refine lv_aload_n hx hb dX0_isKnown_13 rfl (lv_at hl 1 rfl) ?_
    refine va_get (D := (dC, dI)) (ci := 1) (v := .ref (ad 13)) (C := RX0) (T := TX0) (N := 1) hx hb hts hinX0 hown hK hP 12 rfl rfl 0 (by decide) (hts (.fieldLink RX0 11 "ReshuffleSearch$Hopeless" "entry" "[J") (by decide +kernel)) (fun _ h9 => h9) rfl dX0_isKnown_14 ?_
    refine lv_iload hx hb dX0_isKnown_17 (lv_at hl 0 rfl) ?_
    refine wk_lald hx hb hK hP 13 1 rfl rfl (by omega) dX0_isKnown_19 ?_
    refine lv_lconst (v := lN 0) hx hb dX0_isKnown_20 (by decide +kernel) ?_
    refine wk_lcmp_eq (tgt := 46) hx hb (by have := hE0 q9; omega) (by omega) dX0_isKnown_21 dX0_isKnown_22 (by decide) (fun c_22 => ?_) (fun c_22 => ?_)
    · refine lv_iconst (v := nI 0) hx hb dX0_isKnown_46 (by decide +kernel) ?_
      refine wk_ti (v' := nI (bn (cknow E k0 m0 = true))) (by rw [bn_f (fun q => by unfold cknow at q; rw [h9] at q; simp only [Bool.and_eq_true, decide_eq_true_eq] at q; exact q.1 c_22)]) ?_
      exact W.zret hx hb hr (bn_nar _) (fun t9 ht _ => ⟨rfl, ht⟩) (fun _ h => nomatch h) dX0_isKnown_47
    · refine lv_aload_n hx hb dX0_isKnown_25 rfl (lv_at hl 1 rfl) ?_
      refine va_get (D := (dC, dI)) (ci := 1) (v := .ref (ad 13)) (C := RX0) (T := TX0) (N := 1) hx hb hts hinX0 hown hK hP 12 rfl rfl 0 (by decide) (hts (.fieldLink RX0 11 "ReshuffleSearch$Hopeless" "entry" "[J") (by decide +kernel)) (fun _ h9 => h9) rfl dX0_isKnown_26 ?_
      refine lv_iload hx hb dX0_isKnown_29 (lv_at hl 0 rfl) ?_
      refine wk_lald hx hb hK hP 13 1 rfl rfl (by omega) dX0_isKnown_31 ?_
      refine lv_ldc2 (v := 31) hx hb hown (hts (.constantLong RX0 25 (31)) (by decide +kernel)) dX0_isKnown_32 ?_
      refine wk_tl (v' := lN 31) (by decide +kernel) ?_
      refine lv_land hx hb dX0_isKnown_35 ?_
      refine wk_tl (v' := lN (E q9 % 32)) (wb_mask (k := 5) (by have := hE0 q9; omega) (by decide)) ?_
      refine lv_iload_n hx hb dX0_isKnown_36 rfl (lv_at hl 3 rfl) ?_
      refine wk_i2l hx hb (by omega) dX0_isKnown_37 ?_
      refine wk_lcmp_lt (tgt := 46) hx hb (by omega) (by omega) dX0_isKnown_38 dX0_isKnown_39 (by decide) (fun c_39 => ?_) (fun c_39 => ?_)
      · refine lv_iconst (v := nI 0) hx hb dX0_isKnown_46 (by decide +kernel) ?_
        refine wk_ti (v' := nI (bn (cknow E k0 m0 = true))) (by rw [bn_f (fun q => by unfold cknow at q; rw [h9] at q; simp only [Bool.and_eq_true, decide_eq_true_eq] at q; omega)]) ?_
        exact W.zret hx hb hr (bn_nar _) (fun t9 ht _ => ⟨rfl, ht⟩) (fun _ h => nomatch h) dX0_isKnown_47
      · refine lv_iconst (v := nI 1) hx hb dX0_isKnown_42 (by decide +kernel) ?_
        refine lv_goto (tgt := 47) hx hb dX0_isKnown_43 (by decide) ?_
        refine wk_ti (v' := nI (bn (cknow E k0 m0 = true))) (by rw [bn_t (by unfold cknow; rw [h9]; simp only [Bool.and_eq_true, decide_eq_true_eq]; exact ⟨c_22, c_39⟩)]) ?_
        exact W.zret hx hb hr (bn_nar _) (fun t9 ht _ => ⟨rfl, ht⟩) (fun _ h => nomatch h) dX0_isKnown_47
set_option maxHeartbeats 4000000 in
set_option maxRecDepth 100000 in
theorem c_X0_learn (l : Launch) (dC : Nat → ClassId) (dI : Nat → Nat → Nat) (ad : Nat → Nat) (cI cJ : ClassId) (n t : Nat) (P HT RK GP : Nat → Nat) (sm : Int32) (F T M ST : Nat → Nat) (ln mn : Int32) (E : Nat → Nat) (hE0 : ∀ j, E j < 2 ^ 54) (k0 m0 : Nat) (hk0 : k0 < 2 ^ 48) (hm0 : m0 < 32)  (sz : Nat) : Met l yX0_learn wsX0_learn ({ frames := 1, cells := 0, slots := 0, locals := 25 }) (va_Pc [.ref (ad 12), .long (lN k0), .int (nI m0)] (wc_P (dC, dI) [(cI, .int), (cJ, .long)] (cW ad cI cJ n t P HT RK GP sm F T M ST ln mn E) sz)) (wr_Q (dC, dI) (va_A (cW ad cI cJ n t P HT RK GP sm F T M ST ln mn E) sz) (fun r W1 => r = none ∧ W1 = (cW ad cI cJ n t P HT RK GP sm F T M ST ln mn (clrn E k0 m0)))) 0 0 (va_A (cW ad cI cJ n t P HT RK GP sm F T M ST ln mn E) sz) := by
  refine Met.ofW (cc := cX0_learn) (maxL := 5) (ret := none) (by decide) rfl ?_
  intro p e s m args below meth c s₁ B hml hv
  obtain ⟨rfl, ⟨hsz, hP, hK, hD0⟩, hN⟩ := hv
  have hx := B.exec
  have hb := B.bytes
  have hr := B.returns
  have hts := atoms_spec (ws := wsX0_learn) B.pre
  have hown : s.vm.findClass RX0 = some m.cls := findClass_of_methodNamed B.named
  have hlocks := B.notSynchronized
  have hinX0 : ∀ w ∈ u_ws RX0 TX0 1, w ∈ wsX0_learn := by decide +kernel
  subst hsz
  have hD := hD0.self (sz := s.heap.size)
  generalize hAe : va_A (cW ad cI cJ n t P HT RK GP sm F T M ST ln mn E) s.heap.size = A at hD ⊢
  have hA : ∀ q : Nat, s.heap.size ≤ q → A q := fun q h => by rw [← hAe]; exact Or.inr h
  have hS : va_S A s.heap s.heap [] := va_S.rf
  have hl := lv_entry ([.ref (ad 12), .long (lN k0), .int (nI m0)]) (n := 5) (Nat.le_of_ble_eq_true rfl)
  rw [lg_entry_eq]
  generalize (lg_sl ([.ref (ad 12), .long (lN k0), .int (nI m0)]) ++ List.replicate (5 - (lg_sl ([.ref (ad 12), .long (lN k0), .int (nI m0)])).length) Slot.unset).toArray = ls at hl ⊢
  have hl : lv_has ls 5 [(0, .ref (ad 12)), (1, .long (lN k0)), (3, .int (nI m0))] := hl
  have cut_30 : ∀ (ls : Array Slot) (H : Heap) (locs : List Loc) (_ : lv_has ls 5 []) (_ : va_P (dC, dI) vwCl (cW ad cI cJ n t P HT RK GP sm F T M ST ln mn (clrn E k0 m0)) H) (_ : va_D A (cW ad cI cJ n t P HT RK GP sm F T M ST ln mn (clrn E k0 m0))) (_ : va_S A s.heap H locs), W p l e (headSpec wsX0_learn ({ frames := 1, cells := 0, slots := 0, locals := 25 })).room s m ([.ref (ad 12), .long (lN k0), .int (nI m0)] : List Value).toArray below meth c H locs 0 0 (MQ below (wr_Q (dC, dI) A (fun r W1 => r = none ∧ W1 = (cW ad cI cJ n t P HT RK GP sm F T M ST ln mn (clrn E k0 m0)))) ([.ref (ad 12), .long (lN k0), .int (nI m0)] : List Value).toArray s 0 0 A) (F0 m 30 ls []) := by
    rintro ls H locs hl hP hD hS
    exact W.vret hx hb hr (fun t9 ht hW => ⟨none, (cW ad cI cJ n t P HT RK GP sm F T M ST ln mn (clrn E k0 m0)), rfl, ⟨rfl, rfl⟩, by rw [ht]; exact hP, hD, hS.F ht⟩) hS.2.2 dX0_learn_30
  refine lv_aload_n hx hb dX0_learn_0 rfl (lv_at hl 0 rfl) ?_
  refine lv_lload_n hx hb dX0_learn_1 rfl (lv_at hl 1 rfl) ?_
  refine pu_go (va_runV (As := [.long (lN k0)]) (rest := []) ⟨hx, hb, hml, hown, hts⟩ (c_X0_slotOf l dC dI ad cI cJ n t P HT RK GP sm F T M ST ln mn E hE0 k0 (by first | omega | assumption)) (cwV 1 hts gX0_learn_X0_slotOf rfl rfl rfl (by decide +kernel) ⟨Nat.le_of_ble_eq_true rfl, Nat.le_of_ble_eq_true rfl⟩) ⟨rc_blind, va_recv hK hP (ci := 1) (q0 := 12) rfl rfl, fun U hU hW => ⟨rfl, by rw [hU]; exact hP, va_K.moved hW.alike hK, nst_warm hW hN⟩⟩ rfl rfl hl.1 rfl (lv_room (Nat.le_of_ble_eq_true rfl)) dX0_learn_2 ⟨Nat.le_refl _, Nat.le_refl _⟩) ?_
  refine lv_istore (lv' := [(4, .int (oN (cslot E k0 1024 0))), (0, .ref (ad 12)), (1, .long (lN k0)), (3, .int (nI m0))]) hx hb dX0_learn_5 hl (by decide) rfl (fun ls hl => ?_)
  refine lv_iload hx hb dX0_learn_7 (lv_at hl 0 rfl) ?_
  refine lv_iconst (v := -1) hx hb dX0_learn_9 (by decide +kernel) ?_
  refine lv_icmp_eq (tgt := 30) hx hb dX0_learn_10 (by decide) (fun c_10 => ?_) (fun c_10 => ?_)
  · have h9 := (oN_m1 (fun k h => by have := (cslot_ok _ _ _ _ _ h).1; omega)).mp c_10
    exact cut_30 ls _ _ (lv_sub hl [] rfl) (by unfold clrn; rw [h9]; exact hP) (by unfold clrn; rw [h9]; exact hD) hS
  · obtain ⟨q9, h9⟩ := oN_some (fun k h => by have := (cslot_ok _ _ _ _ _ h).1; omega) c_10
    have hq9 := (cslot_ok _ _ _ _ _ h9).1
    have hl : lv_has ls 5 [(4, .int (nI q9)), (0, .ref (ad 12)), (1, .long (lN k0)), (3, .int (nI m0))] := by rw [h9] at hl; exact hl
    refine lv_aload_n hx hb dX0_learn_13 rfl (lv_at hl 1 rfl) ?_
    refine va_get (D := (dC, dI)) (ci := 1) (v := .ref (ad 13)) (C := RX0) (T := TX0) (N := 1) hx hb hts hinX0 hown hK hP 12 rfl rfl 0 (by decide) (hts (.fieldLink RX0 11 "ReshuffleSearch$Hopeless" "entry" "[J") (by decide +kernel)) (fun _ h9 => h9) rfl dX0_learn_14 ?_
    refine lv_iload hx hb dX0_learn_17 (lv_at hl 0 rfl) ?_
    refine lv_lload_n hx hb dX0_learn_19 rfl (lv_at hl 2 rfl) ?_
    refine lv_iconst (v := nI 5) hx hb dX0_learn_20 (by decide +kernel) ?_
    refine wk_lshl hx hb (by omega) dX0_learn_21 ?_
    refine lv_iload_n hx hb dX0_learn_22 rfl (lv_at hl 3 rfl) ?_
    refine wk_i2l hx hb (by omega) dX0_learn_23 ?_
    refine lv_ldc2 (v := 31) hx hb hown (hts (.constantLong RX0 25 (31)) (by decide +kernel)) dX0_learn_24 ?_
    refine wk_tl (v' := lN 31) (by decide +kernel) ?_
    refine lv_land hx hb dX0_learn_27 ?_
    refine wk_tl (v' := lN m0) (by rw [show m0 = m0 % 2 ^ 5 by omega]; exact (wb_mask (k := 5) (by omega) (by decide)).trans (by congr 1; omega)) ?_
    refine lv_lor hx hb dX0_learn_28 ?_
    refine wk_tl (v' := lN (k0 * 32 + m0)) (clearn_eq hk0 hm0) ?_
    refine wk_last hx hb hK hP hD hS 13 1 rfl rfl (by omega) dX0_learn_29 (fun H locs hP hD hS => ?_)
    have hP : va_P (dC, dI) vwCl (cW ad cI cJ n t P HT RK GP sm F T M ST ln mn (upN E q9 (k0 * 32 + m0))) H := hP
    have hD : va_D A (cW ad cI cJ n t P HT RK GP sm F T M ST ln mn (upN E q9 (k0 * 32 + m0))) := hD
    exact cut_30 ls _ _ (lv_sub hl [] rfl) (by unfold clrn; rw [h9]; exact hP) (by unfold clrn; rw [h9]; exact hD) hS
