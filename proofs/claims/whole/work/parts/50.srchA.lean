def RE (l : Launch) (lf : Nat) : Prop := ∀ (dC : Nat → ClassId) (dI : Nat → Nat → Nat) (ad : Nat → Nat) (cI cJ : ClassId) (n t : Nat) (P HT RK GP : Nat → Nat) (sm : Int32) (F T M ST : Nat → Nat) (ln mn : Int32) (E : Nat → Nat) (hn0 : 2 ≤ n ∧ n ≤ 4) (ht0 : 2 ≤ t ∧ t ≤ 4) (m0 : Nat) (hm0 : m0 < 3) (Y : Nat → List Nat) (hY : okY n t Y) (hbx : bxY Y ≤ 6) (hnf : m0 ≠ 2 → nf Y) (dn : Nat) (hdl : dn + lf ≤ 30) (hE : hI m0 n t E)  (sz : Nat), Met l yX3_reaches wsX3_reaches ({ frames := 10 + 2 * lf, cells := 0, slots := 0, locals := 1000 + 60 * lf }) (va_Pc [.ref (ad 6), .long (lN (cE Y)), .int (nI dn), .int (nI lf)] (wc_P (dC, dI) [(cI, .int), (cJ, .long)] (cW ad cI cJ n t P HT RK GP (nI m0) F T M ST ln mn E) sz)) (wr_Q (dC, dI) (va_A (cW ad cI cJ n t P HT RK GP (nI m0) F T M ST ln mn E) sz) (fun r W1 => ∃ E1 F1 T1 M1, r = some (.int (nI (bn ((way m0 n t lf Y).isSome = true)))) ∧ W1 = (cW ad cI cJ n t P HT RK GP (nI m0) F1 T1 M1 ST ln mn E1) ∧ hI m0 n t E1 ∧ (∀ j, j < dn → F1 j = F j ∧ T1 j = T j ∧ M1 j = M j) ∧ ∀ w, way m0 n t lf Y = some w → wst m0 n t F1 T1 M1 dn w Y)) 0 0 (va_A (cW ad cI cJ n t P HT RK GP (nI m0) F T M ST ln mn E) sz)
def RB (l : Launch) (lf : Nat) : Prop := ∀ (dC : Nat → ClassId) (dI : Nat → Nat → Nat) (ad : Nat → Nat) (cI cJ : ClassId) (n t : Nat) (P HT RK GP : Nat → Nat) (sm : Int32) (F T M ST : Nat → Nat) (ln mn : Int32) (E : Nat → Nat) (hn0 : 2 ≤ n ∧ n ≤ 4) (ht0 : 2 ≤ t ∧ t ≤ 4) (m0 : Nat) (hm0 : m0 < 3) (Y : Nat → List Nat) (hY : okY n t Y) (hbx : bxY Y ≤ 6) (hnf : m0 ≠ 2 → nf Y) (dn : Nat) (hdl : dn + lf ≤ 30) (hE : hI m0 n t E) (hb0 : blk Y ≠ 0)  (sz : Nat), Met l yX3_reachesByMove wsX3_reachesByMove ({ frames := 9 + 2 * lf, cells := 0, slots := 0, locals := 970 + 60 * lf }) (va_Pc [.ref (ad 6), .long (lN (cE Y)), .int (nI dn), .int (nI lf)] (wc_P (dC, dI) [(cI, .int), (cJ, .long)] (cW ad cI cJ n t P HT RK GP (nI m0) F T M ST ln mn E) sz)) (wr_Q (dC, dI) (va_A (cW ad cI cJ n t P HT RK GP (nI m0) F T M ST ln mn E) sz) (fun r W1 => ∃ E1 F1 T1 M1, r = some (.int (nI (bn ((way m0 n t lf Y).isSome = true)))) ∧ W1 = (cW ad cI cJ n t P HT RK GP (nI m0) F1 T1 M1 ST ln mn E1) ∧ hI m0 n t E1 ∧ (∀ j, j < dn → F1 j = F j ∧ T1 j = T j ∧ M1 j = M j) ∧ ∀ w, way m0 n t lf Y = some w → wst m0 n t F1 T1 M1 dn w Y)) 0 0 (va_A (cW ad cI cJ n t P HT RK GP (nI m0) F T M ST ln mn E) sz)
theorem cknow_h {E : Nat → Nat} {k m : Nat} (h : cknow E k m = true) : hcknow E k m := by
  unfold cknow at h
  cases hs : cslot E k 1024 0 with
  | none => rw [hs] at h; exact nomatch h
  | some q =>
    rw [hs] at h
    simp only [Bool.and_eq_true, decide_eq_true_eq] at h
    obtain ⟨h1, h2⟩ := cslot_ok _ _ _ _ _ hs
    exact ⟨q, h1, h.1, h2.resolve_left h.1, h.2⟩
theorem hI_clrn {man n t : Nat} {E : Nat → Nat} (hn : n ≤ 4) (ht : t ≤ 4) (h : hI man n t E) {Y : Nat → List Nat} (hY : okY n t Y) {m : Nat} (hm : m < 32) (hw : way man n t m Y = none) : hI man n t (clrn E (ysrt (cE Y)) m) := by
  unfold clrn
  split
  · exact h
  · exact hI_learn hn ht h hY hm hw
theorem some_of {α : Type} {o : Option α} (h : o.isSome = true) : ∃ v, o = some v := Option.isSome_iff_exists.mp h
theorem none_of {α : Type} {o : Option α} (h : ¬ o.isSome = true) : o = none := by
  cases o with
  | none => rfl
  | some v => exact absurd rfl h
set_option maxHeartbeats 4000000 in
set_option maxRecDepth 100000 in
theorem c_X3_reachesByMove (l : Launch) (lf k : Nat) (hlk : lf = k + 1) (ihR : RE l k) (dC : Nat → ClassId) (dI : Nat → Nat → Nat) (ad : Nat → Nat) (cI cJ : ClassId) (n t : Nat) (P HT RK GP : Nat → Nat) (sm : Int32) (F T M ST : Nat → Nat) (ln mn : Int32) (E : Nat → Nat) (hn0 : 2 ≤ n ∧ n ≤ 4) (ht0 : 2 ≤ t ∧ t ≤ 4) (m0 : Nat) (hm0 : m0 < 3) (Y : Nat → List Nat) (hY : okY n t Y) (hbx : bxY Y ≤ 6) (hnf : m0 ≠ 2 → nf Y) (dn : Nat) (hdl : dn + lf ≤ 30) (hE : hI m0 n t E) (hb0 : blk Y ≠ 0)  (sz : Nat) : Met l yX3_reachesByMove wsX3_reachesByMove ({ frames := 9 + 2 * lf, cells := 0, slots := 0, locals := 970 + 60 * lf }) (va_Pc [.ref (ad 6), .long (lN (cE Y)), .int (nI dn), .int (nI lf)] (wc_P (dC, dI) [(cI, .int), (cJ, .long)] (cW ad cI cJ n t P HT RK GP (nI m0) F T M ST ln mn E) sz)) (wr_Q (dC, dI) (va_A (cW ad cI cJ n t P HT RK GP (nI m0) F T M ST ln mn E) sz) (fun r W1 => ∃ E1 F1 T1 M1, r = some (.int (nI (bn ((way m0 n t lf Y).isSome = true)))) ∧ W1 = (cW ad cI cJ n t P HT RK GP (nI m0) F1 T1 M1 ST ln mn E1) ∧ hI m0 n t E1 ∧ (∀ j, j < dn → F1 j = F j ∧ T1 j = T j ∧ M1 j = M j) ∧ ∀ w, way m0 n t lf Y = some w → wst m0 n t F1 T1 M1 dn w Y)) 0 0 (va_A (cW ad cI cJ n t P HT RK GP (nI m0) F T M ST ln mn E) sz) := by
  refine Met.ofW (cc := cX3_reachesByMove) (maxL := 9) (ret := (some .boolean)) (by decide) rfl ?_
  intro p e s m args below meth c s₁ B hml hv
  obtain ⟨rfl, ⟨hsz, hP, hK, hD0⟩, hN⟩ := hv
  have hx := B.exec
  have hb := B.bytes
  have hr := B.returns
  have hts := atoms_spec (ws := wsX3_reachesByMove) B.pre
  have hown : s.vm.findClass RX3 = some m.cls := findClass_of_methodNamed B.named
  have hlocks := B.notSynchronized
  have hinX3 : ∀ w ∈ u_ws RX3 TX3 5, w ∈ wsX3_reachesByMove := by decide +kernel
  subst hsz
  have hD := hD0.self (sz := s.heap.size)
  generalize hAe : va_A (cW ad cI cJ n t P HT RK GP (nI m0) F T M ST ln mn E) s.heap.size = A at hD ⊢
  have hA : ∀ q : Nat, s.heap.size ≤ q → A q := fun q h => by rw [← hAe]; exact Or.inr h
  have hS : va_S A s.heap s.heap [] := va_S.rf
  have hl := lv_entry ([.ref (ad 6), .long (lN (cE Y)), .int (nI dn), .int (nI lf)]) (n := 9) (Nat.le_of_ble_eq_true rfl)
  rw [lg_entry_eq]
  generalize (lg_sl ([.ref (ad 6), .long (lN (cE Y)), .int (nI dn), .int (nI lf)]) ++ List.replicate (9 - (lg_sl ([.ref (ad 6), .long (lN (cE Y)), .int (nI dn), .int (nI lf)])).length) Slot.unset).toArray = ls at hl ⊢
  have hl : lv_has ls 9 [(0, .ref (ad 6)), (1, .long (lN (cE Y))), (3, .int (nI dn)), (4, .int (nI lf))] := hl
  have hq0 := ylo_lt (cE Y) 16
  have hqx := cE_lt hY ht0.2
  refine lv_iload hx hb dX3_reachesByMove_0 (lv_at hl 3 rfl) ?_
  refine wk_if_le (tgt := 11) hx hb (by omega) dX3_reachesByMove_2 (by decide) (fun c_2 => ?_) (fun c_2 => ?_)
  · exact (by exfalso; omega)
  · refine lv_iload_n hx hb dX3_reachesByMove_5 rfl (lv_at hl 2 rfl) ?_
    refine lv_bipush (v := nI 30) hx hb dX3_reachesByMove_6 (by decide +kernel) ?_
    refine wk_icmp_lt (tgt := 13) hx hb (by omega) (by omega) dX3_reachesByMove_8 (by decide) (fun c_8 => ?_) (fun c_8 => ?_)
    · refine lv_lload_n hx hb dX3_reachesByMove_13 rfl (lv_at hl 1 rfl) ?_
      refine pu_go (va_runS (As := [.long (lN (cE Y))]) (rest := []) ⟨hx, hb, hml, hown, hts⟩ (c_X5_nextRank l (cE Y) (by first | omega | assumption)) (va_cwS 1 hts gX3_reachesByMove_X5_nextRank rfl rfl rfl (by decide +kernel) ⟨Nat.le_trans (Nat.le_of_ble_eq_true rfl : _ ≤ 9) (Nat.le_add_right 9 _), Nat.le_trans (Nat.le_of_ble_eq_true rfl : _ ≤ 970) (Nat.le_add_right 970 _)⟩) ⟨fun _ _ _ _ q => q, fun _ _ _ => ⟨rfl, trivial⟩⟩ rfl rfl hl.1 rfl (lv_room (Nat.le_of_ble_eq_true rfl)) dX3_reachesByMove_14 ⟨Nat.le_refl _, Nat.le_refl _⟩) ?_
      refine lv_istore (lv' := [(5, .int (nI (ylo (cE Y) 16))), (0, .ref (ad 6)), (1, .long (lN (cE Y))), (3, .int (nI dn)), (4, .int (nI lf))]) hx hb dX3_reachesByMove_17 hl (by decide) rfl (fun ls hl => ?_)
      refine lv_iconst (v := nI 0) hx hb dX3_reachesByMove_19 (by decide +kernel) ?_
      refine lv_istore (lv' := [(6, .int (nI 0)), (5, .int (nI (ylo (cE Y) 16))), (0, .ref (ad 6)), (1, .long (lN (cE Y))), (3, .int (nI dn)), (4, .int (nI lf))]) hx hb dX3_reachesByMove_20 hl (by decide) rfl (fun ls hl => ?_)
      have cut_22 : ∀ (n_22 : Nat) (fr : Nat) (E1 : Nat → Nat) (F1 : Nat → Nat) (T1 : Nat → Nat) (M1 : Nat → Nat) (v22_1 : Int64) (v22_3 : Int32) (v22_4 : Int32) (v22_5 : Int32) (v22_6 : Int32) (ls : Array Slot) (H : Heap) (locs : List Loc) (hfr : fr ≤ n) (hfl : flt m0 n t k Y (4 * fr + 0)) (hE1 : hI m0 n t E1) (hU1 : ∀ j, j < dn → F1 j = F j ∧ T1 j = T j ∧ M1 j = M j) (hn_22 : n - fr < n_22) (_ : v22_1 = lN (cE Y)) (_ : v22_3 = nI dn) (_ : v22_4 = nI lf) (_ : v22_5 = nI (ylo (cE Y) 16)) (_ : v22_6 = nI fr) (_ : lv_has ls 9 [(0, .ref (ad 6)), (1, .long v22_1), (3, .int v22_3), (4, .int v22_4), (5, .int v22_5), (6, .int v22_6)]) (_ : va_P (dC, dI) vwCl (cW ad cI cJ n t P HT RK GP (nI m0) F1 T1 M1 ST ln mn E1) H) (_ : va_D A (cW ad cI cJ n t P HT RK GP (nI m0) F1 T1 M1 ST ln mn E1)) (_ : va_S A s.heap H locs), W p l e (headSpec wsX3_reachesByMove ({ frames := 9 + 2 * lf, cells := 0, slots := 0, locals := 970 + 60 * lf })).room s m ([.ref (ad 6), .long (lN (cE Y)), .int (nI dn), .int (nI lf)] : List Value).toArray below meth c H locs 0 0 (MQ below (wr_Q (dC, dI) A (fun r W1 => ∃ E1 F1 T1 M1, r = some (.int (nI (bn ((way m0 n t lf Y).isSome = true)))) ∧ W1 = (cW ad cI cJ n t P HT RK GP (nI m0) F1 T1 M1 ST ln mn E1) ∧ hI m0 n t E1 ∧ (∀ j, j < dn → F1 j = F j ∧ T1 j = T j ∧ M1 j = M j) ∧ ∀ w, way m0 n t lf Y = some w → wst m0 n t F1 T1 M1 dn w Y)) ([.ref (ad 6), .long (lN (cE Y)), .int (nI dn), .int (nI lf)] : List Value).toArray s 0 0 A) (F0 m 22 ls []) := by
        intro n_22
        induction n_22 with
        | zero => intros; omega
        | succ n_22 ih_22 =>
          rintro fr E1 F1 T1 M1 v22_1 v22_3 v22_4 v22_5 v22_6 ls H locs hfr hfl hE1 hU1 hn_22 rfl rfl rfl rfl rfl hl hP hD hS
          have hqw := yw_lt (cE Y) fr
          refine lv_iload hx hb dX3_reachesByMove_22 (lv_at hl 5 rfl) ?_
          refine lv_aload_n hx hb dX3_reachesByMove_24 rfl (lv_at hl 0 rfl) ?_
          refine va_get (D := (dC, dI)) (ci := 3) (v := .int (nI n)) (C := RX3) (T := TX3) (N := 5) hx hb hts hinX3 hown hK hP 6 rfl rfl 0 (by decide) (hts (.fieldLink RX3 29 "ReshuffleSearch$Search" "stacks" "I") (by decide +kernel)) (fun _ h9 => h9) rfl dX3_reachesByMove_25 ?_
          refine wk_icmp_ge (tgt := 149) hx hb (by omega) (by omega) dX3_reachesByMove_28 (by decide) (fun c_28 => ?_) (fun c_28 => ?_)
          · refine lv_iconst (v := nI 0) hx hb dX3_reachesByMove_149 (by decide +kernel) ?_
            exact W.zret hx hb hr (by decide +kernel) (fun t9 ht hW => ⟨some (.int (nI 0)), (cW ad cI cJ n t P HT RK GP (nI m0) F1 T1 M1 ST ln mn E1), rfl, ⟨E1, F1, T1, M1, by rw [hlk, flt_end hb0 (by rw [show n = fr by omega]; rw [show n = fr by omega] at hfl; exact hfl)]; rfl, rfl, hE1, hU1, fun w hw => by rw [hlk, flt_end hb0 (by rw [show n = fr by omega]; rw [show n = fr by omega] at hfl; exact hfl)] at hw; exact nomatch hw⟩, by rw [ht]; exact hP, hD, hS.F ht⟩) hS.2.2 dX3_reachesByMove_150
          · have cut_143 : ∀ (E4 : Nat → Nat) (F4 : Nat → Nat) (T4 : Nat → Nat) (M4 : Nat → Nat) (v143_1 : Int64) (v143_3 : Int32) (v143_4 : Int32) (v143_5 : Int32) (v143_6 : Int32) (ls : Array Slot) (H : Heap) (locs : List Loc) (hfl4 : flt m0 n t k Y (4 * (fr + 1) + 0)) (hE4 : hI m0 n t E4) (hU4 : ∀ j, j < dn → F4 j = F j ∧ T4 j = T j ∧ M4 j = M j) (_ : v143_1 = lN (cE Y)) (_ : v143_3 = nI dn) (_ : v143_4 = nI lf) (_ : v143_5 = nI (ylo (cE Y) 16)) (_ : v143_6 = nI fr) (_ : lv_has ls 9 [(0, .ref (ad 6)), (1, .long v143_1), (3, .int v143_3), (4, .int v143_4), (5, .int v143_5), (6, .int v143_6)]) (_ : va_P (dC, dI) vwCl (cW ad cI cJ n t P HT RK GP (nI m0) F4 T4 M4 ST ln mn E4) H) (_ : va_D A (cW ad cI cJ n t P HT RK GP (nI m0) F4 T4 M4 ST ln mn E4)) (_ : va_S A s.heap H locs), W p l e (headSpec wsX3_reachesByMove ({ frames := 9 + 2 * lf, cells := 0, slots := 0, locals := 970 + 60 * lf })).room s m ([.ref (ad 6), .long (lN (cE Y)), .int (nI dn), .int (nI lf)] : List Value).toArray below meth c H locs 0 0 (MQ below (wr_Q (dC, dI) A (fun r W1 => ∃ E1 F1 T1 M1, r = some (.int (nI (bn ((way m0 n t lf Y).isSome = true)))) ∧ W1 = (cW ad cI cJ n t P HT RK GP (nI m0) F1 T1 M1 ST ln mn E1) ∧ hI m0 n t E1 ∧ (∀ j, j < dn → F1 j = F j ∧ T1 j = T j ∧ M1 j = M j) ∧ ∀ w, way m0 n t lf Y = some w → wst m0 n t F1 T1 M1 dn w Y)) ([.ref (ad 6), .long (lN (cE Y)), .int (nI dn), .int (nI lf)] : List Value).toArray s 0 0 A) (F0 m 143 ls []) := by
              rintro E4 F4 T4 M4 v143_1 v143_3 v143_4 v143_5 v143_6 ls H locs hfl4 hE4 hU4 rfl rfl rfl rfl rfl hl hP hD hS
              refine lv_iinc (v := nI (fr + 1)) (lv' := [(6, .int (nI (fr + 1))), (0, .ref (ad 6)), (1, .long (lN (cE Y))), (3, .int (nI dn)), (4, .int (nI lf)), (5, .int (nI (ylo (cE Y) 16)))]) hx hb dX3_reachesByMove_143 hl (k := 5) rfl (wk_inc _ 1 rfl) (by decide) rfl (fun ls hl => ?_)
              refine lv_goto (tgt := 22) hx hb dX3_reachesByMove_146 (by decide) ?_
              exact ih_22 (fr + 1) E4 F4 T4 M4 _ _ _ _ _ ls _ _ (by omega) (hfl4) (hE4) (hU4) (by omega) (rfl) (rfl) (rfl) (rfl) (rfl) (lv_sub hl [1, 2, 3, 4, 5, 0] rfl) (hP) (hD) hS
            refine lv_lload_n hx hb dX3_reachesByMove_31 rfl (lv_at hl 1 rfl) ?_
            refine lv_iload hx hb dX3_reachesByMove_32 (lv_at hl 5 rfl) ?_
            refine pu_go (va_runS (As := [.long (lN (cE Y)), .int (nI fr)]) (rest := []) ⟨hx, hb, hml, hown, hts⟩ (c_X5_wordOf l (cE Y) fr (by first | omega | assumption) (by first | omega | assumption)) (va_cwS 2 hts gX3_reachesByMove_X5_wordOf rfl rfl rfl (by decide +kernel) ⟨Nat.le_trans (Nat.le_of_ble_eq_true rfl : _ ≤ 9) (Nat.le_add_right 9 _), Nat.le_trans (Nat.le_of_ble_eq_true rfl : _ ≤ 970) (Nat.le_add_right 970 _)⟩) ⟨fun _ _ _ _ q => q, fun _ _ _ => ⟨rfl, trivial⟩⟩ rfl rfl hl.1 rfl (lv_room (Nat.le_of_ble_eq_true rfl)) dX3_reachesByMove_34 ⟨Nat.le_refl _, Nat.le_refl _⟩) ?_
            refine lv_istore (lv' := [(7, .int (nI (yw (cE Y) fr))), (0, .ref (ad 6)), (1, .long (lN (cE Y))), (3, .int (nI dn)), (4, .int (nI lf)), (5, .int (nI (ylo (cE Y) 16))), (6, .int (nI fr))]) hx hb dX3_reachesByMove_37 hl (by decide) rfl (fun ls hl => ?_)
            refine lv_aload_n hx hb dX3_reachesByMove_39 rfl (lv_at hl 1 rfl) ?_
            refine lv_iload hx hb dX3_reachesByMove_40 (lv_at hl 0 rfl) ?_
            refine lv_iload hx hb dX3_reachesByMove_42 (lv_at hl 5 rfl) ?_
            refine pu_go (va_runV (As := [.int (nI (yw (cE Y) fr)), .int (nI (ylo (cE Y) 16))]) (rest := []) ⟨hx, hb, hml, hown, hts⟩ (c_X3_isOpenFrom l dC dI ad cI cJ n t P HT RK GP (nI m0) F1 T1 M1 ST ln mn E1 m0 hm0 (yw (cE Y) fr) (ylo (cE Y) 16) (by first | omega | assumption) (by first | omega | assumption)) (cwV 2 hts gX3_reachesByMove_X3_isOpenFrom rfl rfl rfl (by decide +kernel) ⟨Nat.le_trans (Nat.le_of_ble_eq_true rfl : _ ≤ 9) (Nat.le_add_right 9 _), Nat.le_trans (Nat.le_of_ble_eq_true rfl : _ ≤ 970) (Nat.le_add_right 970 _)⟩) ⟨rc_blind, va_recv hK hP (ci := 3) (q0 := 6) rfl rfl, fun U hU hW => ⟨rfl, by rw [hU]; exact hP, va_K.moved hW.alike hK, nst_warm hW hN⟩⟩ rfl rfl hl.1 rfl (lv_room (Nat.le_of_ble_eq_true rfl)) dX3_reachesByMove_44 ⟨Nat.le_refl _, Nat.le_refl _⟩) ?_
            refine wk_bn_ne (tgt := 53) hx hb dX3_reachesByMove_47 (by decide) (fun c_47 => ?_) (fun c_47 => ?_)
            · have hop := (opn_iff hY ht0.2 (by omega)).mp c_47
              refine lv_iconst (v := nI 0) hx hb dX3_reachesByMove_53 (by decide +kernel) ?_
              refine lv_istore (lv' := [(8, .int (nI 0)), (7, .int (nI (yw (cE Y) fr))), (0, .ref (ad 6)), (1, .long (lN (cE Y))), (3, .int (nI dn)), (4, .int (nI lf)), (5, .int (nI (ylo (cE Y) 16))), (6, .int (nI fr))]) hx hb dX3_reachesByMove_54 hl (by decide) rfl (fun ls hl => ?_)
              have cut_56 : ∀ (n_56 : Nat) (to : Nat) (E2 : Nat → Nat) (F2 : Nat → Nat) (T2 : Nat → Nat) (M2 : Nat → Nat) (v56_1 : Int64) (v56_3 : Int32) (v56_4 : Int32) (v56_5 : Int32) (v56_6 : Int32) (v56_7 : Int32) (v56_8 : Int32) (ls : Array Slot) (H : Heap) (locs : List Loc) (hto : to ≤ n) (hfl2 : flt m0 n t k Y (4 * fr + to)) (hE2 : hI m0 n t E2) (hU2 : ∀ j, j < dn → F2 j = F j ∧ T2 j = T j ∧ M2 j = M j) (hn_56 : n - to < n_56) (_ : v56_1 = lN (cE Y)) (_ : v56_3 = nI dn) (_ : v56_4 = nI lf) (_ : v56_5 = nI (ylo (cE Y) 16)) (_ : v56_6 = nI fr) (_ : v56_7 = nI (yw (cE Y) fr)) (_ : v56_8 = nI to) (_ : lv_has ls 9 [(0, .ref (ad 6)), (1, .long v56_1), (3, .int v56_3), (4, .int v56_4), (5, .int v56_5), (6, .int v56_6), (7, .int v56_7), (8, .int v56_8)]) (_ : va_P (dC, dI) vwCl (cW ad cI cJ n t P HT RK GP (nI m0) F2 T2 M2 ST ln mn E2) H) (_ : va_D A (cW ad cI cJ n t P HT RK GP (nI m0) F2 T2 M2 ST ln mn E2)) (_ : va_S A s.heap H locs), W p l e (headSpec wsX3_reachesByMove ({ frames := 9 + 2 * lf, cells := 0, slots := 0, locals := 970 + 60 * lf })).room s m ([.ref (ad 6), .long (lN (cE Y)), .int (nI dn), .int (nI lf)] : List Value).toArray below meth c H locs 0 0 (MQ below (wr_Q (dC, dI) A (fun r W1 => ∃ E1 F1 T1 M1, r = some (.int (nI (bn ((way m0 n t lf Y).isSome = true)))) ∧ W1 = (cW ad cI cJ n t P HT RK GP (nI m0) F1 T1 M1 ST ln mn E1) ∧ hI m0 n t E1 ∧ (∀ j, j < dn → F1 j = F j ∧ T1 j = T j ∧ M1 j = M j) ∧ ∀ w, way m0 n t lf Y = some w → wst m0 n t F1 T1 M1 dn w Y)) ([.ref (ad 6), .long (lN (cE Y)), .int (nI dn), .int (nI lf)] : List Value).toArray s 0 0 A) (F0 m 56 ls []) := by
                intro n_56
                induction n_56 with
                | zero => intros; omega
                | succ n_56 ih_56 =>
                  rintro to E2 F2 T2 M2 v56_1 v56_3 v56_4 v56_5 v56_6 v56_7 v56_8 ls H locs hto hfl2 hE2 hU2 hn_56 rfl rfl rfl rfl rfl rfl rfl hl hP hD hS
                  have hqt := yw_lt (cE Y) to
                  refine lv_iload hx hb dX3_reachesByMove_56 (lv_at hl 7 rfl) ?_
                  refine lv_aload_n hx hb dX3_reachesByMove_58 rfl (lv_at hl 0 rfl) ?_
                  refine va_get (D := (dC, dI)) (ci := 3) (v := .int (nI n)) (C := RX3) (T := TX3) (N := 5) hx hb hts hinX3 hown hK hP 6 rfl rfl 0 (by decide) (hts (.fieldLink RX3 29 "ReshuffleSearch$Search" "stacks" "I") (by decide +kernel)) (fun _ h9 => h9) rfl dX3_reachesByMove_59 ?_
                  refine wk_icmp_ge (tgt := 143) hx hb (by omega) (by omega) dX3_reachesByMove_62 (by decide) (fun c_62 => ?_) (fun c_62 => ?_)
                  · exact cut_143 E2 F2 T2 M2 _ _ _ _ _ ls _ _ (flt_row (by rw [show n = to by omega]; rw [show n = to by omega] at hfl2; exact hfl2)) (hE2) (hU2) (rfl) (rfl) (rfl) (rfl) (rfl) (lv_sub hl [0, 1, 2, 3, 4, 5] rfl) (hP) (hD) hS
                  · have cut_137 : ∀ (E3 : Nat → Nat) (F3 : Nat → Nat) (T3 : Nat → Nat) (M3 : Nat → Nat) (v137_1 : Int64) (v137_3 : Int32) (v137_4 : Int32) (v137_5 : Int32) (v137_6 : Int32) (v137_7 : Int32) (v137_8 : Int32) (ls : Array Slot) (H : Heap) (locs : List Loc) (hfl3 : flt m0 n t k Y (4 * fr + (to + 1))) (hE3 : hI m0 n t E3) (hU3 : ∀ j, j < dn → F3 j = F j ∧ T3 j = T j ∧ M3 j = M j) (_ : v137_1 = lN (cE Y)) (_ : v137_3 = nI dn) (_ : v137_4 = nI lf) (_ : v137_5 = nI (ylo (cE Y) 16)) (_ : v137_6 = nI fr) (_ : v137_7 = nI (yw (cE Y) fr)) (_ : v137_8 = nI to) (_ : lv_has ls 9 [(0, .ref (ad 6)), (1, .long v137_1), (3, .int v137_3), (4, .int v137_4), (5, .int v137_5), (6, .int v137_6), (7, .int v137_7), (8, .int v137_8)]) (_ : va_P (dC, dI) vwCl (cW ad cI cJ n t P HT RK GP (nI m0) F3 T3 M3 ST ln mn E3) H) (_ : va_D A (cW ad cI cJ n t P HT RK GP (nI m0) F3 T3 M3 ST ln mn E3)) (_ : va_S A s.heap H locs), W p l e (headSpec wsX3_reachesByMove ({ frames := 9 + 2 * lf, cells := 0, slots := 0, locals := 970 + 60 * lf })).room s m ([.ref (ad 6), .long (lN (cE Y)), .int (nI dn), .int (nI lf)] : List Value).toArray below meth c H locs 0 0 (MQ below (wr_Q (dC, dI) A (fun r W1 => ∃ E1 F1 T1 M1, r = some (.int (nI (bn ((way m0 n t lf Y).isSome = true)))) ∧ W1 = (cW ad cI cJ n t P HT RK GP (nI m0) F1 T1 M1 ST ln mn E1) ∧ hI m0 n t E1 ∧ (∀ j, j < dn → F1 j = F j ∧ T1 j = T j ∧ M1 j = M j) ∧ ∀ w, way m0 n t lf Y = some w → wst m0 n t F1 T1 M1 dn w Y)) ([.ref (ad 6), .long (lN (cE Y)), .int (nI dn), .int (nI lf)] : List Value).toArray s 0 0 A) (F0 m 137 ls []) := by
                      rintro E3 F3 T3 M3 v137_1 v137_3 v137_4 v137_5 v137_6 v137_7 v137_8 ls H locs hfl3 hE3 hU3 rfl rfl rfl rfl rfl rfl rfl hl hP hD hS
                      refine lv_iinc (v := nI (to + 1)) (lv' := [(8, .int (nI (to + 1))), (0, .ref (ad 6)), (1, .long (lN (cE Y))), (3, .int (nI dn)), (4, .int (nI lf)), (5, .int (nI (ylo (cE Y) 16))), (6, .int (nI fr)), (7, .int (nI (yw (cE Y) fr)))]) hx hb dX3_reachesByMove_137 hl (k := 7) rfl (wk_inc _ 1 rfl) (by decide) rfl (fun ls hl => ?_)
                      refine lv_goto (tgt := 56) hx hb dX3_reachesByMove_140 (by decide) ?_
                      exact ih_56 (to + 1) E3 F3 T3 M3 _ _ _ _ _ _ _ ls _ _ (by omega) (hfl3) (hE3) (hU3) (by omega) (rfl) (rfl) (rfl) (rfl) (rfl) (rfl) (rfl) (lv_sub hl [1, 2, 3, 4, 5, 6, 7, 0] rfl) (hP) (hD) hS
                    refine lv_iload hx hb dX3_reachesByMove_65 (lv_at hl 7 rfl) ?_
                    refine lv_iload hx hb dX3_reachesByMove_67 (lv_at hl 5 rfl) ?_
                    refine wk_icmp_eq (tgt := 137) hx hb (by omega) (by omega) dX3_reachesByMove_69 (by decide) (fun c_69 => ?_) (fun c_69 => ?_)
                    · exact cut_137 E2 F2 T2 M2 _ _ _ _ _ _ _ ls _ _ (flt_s (p := 4 * fr + to) hfl2 (fun q => by rw [show (4 * fr + to) / 4 = fr by omega, show (4 * fr + to) % 4 = to by omega] at q; exact absurd c_69.symm (mayb_iff.mp q).2.2.1)) (hE2) (hU2) (rfl) (rfl) (rfl) (rfl) (rfl) (rfl) (rfl) (lv_sub hl [0, 1, 2, 3, 4, 5, 6, 7] rfl) (hP) (hD) hS
                    · refine lv_lload_n hx hb dX3_reachesByMove_72 rfl (lv_at hl 1 rfl) ?_
                      refine lv_iload hx hb dX3_reachesByMove_73 (lv_at hl 7 rfl) ?_
                      refine pu_go (va_runS (As := [.long (lN (cE Y)), .int (nI to)]) (rest := []) ⟨hx, hb, hml, hown, hts⟩ (c_X5_wordOf l (cE Y) to (by first | omega | assumption) (by first | omega | assumption)) (va_cwS 2 hts gX3_reachesByMove_X5_wordOf rfl rfl rfl (by decide +kernel) ⟨Nat.le_trans (Nat.le_of_ble_eq_true rfl : _ ≤ 9) (Nat.le_add_right 9 _), Nat.le_trans (Nat.le_of_ble_eq_true rfl : _ ≤ 970) (Nat.le_add_right 970 _)⟩) ⟨fun _ _ _ _ q => q, fun _ _ _ => ⟨rfl, trivial⟩⟩ rfl rfl hl.1 rfl (lv_room (Nat.le_of_ble_eq_true rfl)) dX3_reachesByMove_75 ⟨Nat.le_refl _, Nat.le_refl _⟩) ?_
                      refine lv_aload_n hx hb dX3_reachesByMove_78 rfl (lv_at hl 0 rfl) ?_
                      refine va_get (D := (dC, dI)) (ci := 3) (v := .int (nI t)) (C := RX3) (T := TX3) (N := 5) hx hb hts hinX3 hown hK hP 6 rfl rfl 1 (by decide) (hts (.fieldLink RX3 32 "ReshuffleSearch$Search" "tiers" "I") (by decide +kernel)) (fun _ h9 => h9) rfl dX3_reachesByMove_79 ?_
                      refine pu_go (va_runS (As := [.int (nI (yw (cE Y) to)), .int (nI t)]) (rest := []) ⟨hx, hb, hml, hown, hts⟩ (c_X5_isFull l (yw (cE Y) to) t (by first | omega | assumption) (by first | omega | assumption)) (va_cwS 2 hts gX3_reachesByMove_X5_isFull rfl rfl rfl (by decide +kernel) ⟨Nat.le_trans (Nat.le_of_ble_eq_true rfl : _ ≤ 9) (Nat.le_add_right 9 _), Nat.le_trans (Nat.le_of_ble_eq_true rfl : _ ≤ 970) (Nat.le_add_right 970 _)⟩) ⟨fun _ _ _ _ q => q, fun _ _ _ => ⟨rfl, trivial⟩⟩ rfl rfl hl.1 rfl (lv_room (Nat.le_of_ble_eq_true rfl)) dX3_reachesByMove_82 ⟨Nat.le_refl _, Nat.le_refl _⟩) ?_
                      refine wk_bn_eq (tgt := 91) hx hb dX3_reachesByMove_85 (by decide) (fun c_85 => ?_) (fun c_85 => ?_)
                      · have hmay : mayb m0 n t Y fr to = true := mayb_iff.mpr ⟨by omega, by omega, fun q => c_69 q.symm, hop.1, fun q => c_85 ((full_iff hY ht0.2 (by omega) (by omega)).mpr q), hop.2⟩
                        have hch := chd_ok hn0.2 hY hmay
                        have hmay2 : mayb m0 n t Y ((4 * fr + to) / 4) ((4 * fr + to) % 4) = true := by rw [show (4 * fr + to) / 4 = fr by omega, show (4 * fr + to) % 4 = to by omega]; exact hmay
                        have hys := yshift_lt (x := cE Y) (a := fr) (b := to) hqx (by omega) (by omega)
                        refine lv_aload_n hx hb dX3_reachesByMove_91 rfl (lv_at hl 0 rfl) ?_
                        refine lv_aload_n hx hb dX3_reachesByMove_92 rfl (lv_at hl 0 rfl) ?_
                        refine lv_lload_n hx hb dX3_reachesByMove_93 rfl (lv_at hl 1 rfl) ?_
                        refine lv_iload hx hb dX3_reachesByMove_94 (lv_at hl 5 rfl) ?_
                        refine lv_iload hx hb dX3_reachesByMove_96 (lv_at hl 7 rfl) ?_
                        refine pu_go (va_runS (As := [.long (lN (cE Y)), .int (nI fr), .int (nI to)]) (rest := [.ref (ad 6), .ref (ad 6)]) ⟨hx, hb, hml, hown, hts⟩ (c_X5_shifted l (cE Y) fr to (by first | omega | assumption) (by omega) (by omega)) (va_cwS 3 hts gX3_reachesByMove_X5_shifted rfl rfl rfl (by decide +kernel) ⟨Nat.le_trans (Nat.le_of_ble_eq_true rfl : _ ≤ 9) (Nat.le_add_right 9 _), Nat.le_trans (Nat.le_of_ble_eq_true rfl : _ ≤ 970) (Nat.le_add_right 970 _)⟩) ⟨fun _ _ _ _ q => q, fun _ _ _ => ⟨rfl, trivial⟩⟩ rfl rfl hl.1 rfl (lv_room (Nat.le_of_ble_eq_true rfl)) dX3_reachesByMove_98 ⟨Nat.le_refl _, Nat.le_refl _⟩) ?_
                        refine pu_go (va_runV (As := [.long (lN (yshift (cE Y) fr to))]) (rest := [.ref (ad 6)]) ⟨hx, hb, hml, hown, hts⟩ (c_X3_settled l dC dI ad cI cJ n t P HT RK GP (nI m0) F2 T2 M2 ST ln mn E2 m0 hm0 (yshift (cE Y) fr to) (by first | omega | assumption)) (cwV 1 hts gX3_reachesByMove_X3_settled rfl rfl rfl (by decide +kernel) ⟨Nat.le_trans (Nat.le_of_ble_eq_true rfl : _ ≤ 9) (Nat.le_add_right 9 _), Nat.le_trans (Nat.le_of_ble_eq_true rfl : _ ≤ 970) (Nat.le_add_right 970 _)⟩) ⟨rc_blind, va_recv hK hP (ci := 3) (q0 := 6) rfl rfl, fun U hU hW => ⟨rfl, by rw [hU]; exact hP, va_K.moved hW.alike hK, nst_warm hW hN⟩⟩ rfl rfl hl.1 rfl (lv_room (Nat.le_of_ble_eq_true rfl)) dX3_reachesByMove_101 ⟨Nat.le_refl _, Nat.le_refl _⟩) ?_
                        refine wk_tl (v' := lN (cE (chd m0 n t Y (4 * fr + to)))) (congrArg lN (chd_cE hn0.2 ht0.2 hY hbx hmay)) ?_
                        refine lv_iload_n hx hb dX3_reachesByMove_104 rfl (lv_at hl 2 rfl) ?_
                        refine lv_iconst (v := nI 1) hx hb dX3_reachesByMove_105 (by decide +kernel) ?_
                        refine wk_iadd hx hb dX3_reachesByMove_106 ?_
                        refine lv_iload hx hb dX3_reachesByMove_107 (lv_at hl 3 rfl) ?_
                        refine lv_iconst (v := nI 1) hx hb dX3_reachesByMove_109 (by decide +kernel) ?_
                        refine wk_isub hx hb (by omega) dX3_reachesByMove_110 ?_
                        refine wk_ti (v' := nI k) (by rw [hlk]; rfl) ?_
                        have hFc := va_free (wc := (cW ad cI cJ n t P HT RK GP (nI m0) F2 T2 M2 ST ln mn E2)) hD hS hA [0, 1, 2, 3, 4, 5, 6, 7, 8, 9, 10, 11, 12, 13] rfl
                        refine wr_go (va_runV (As := [.long (lN (cE (chd m0 n t Y (4 * fr + to)))), .int (nI (dn + 1)), .int (nI k)]) (rest := []) ⟨hx, hb, hml, hown, hts⟩ (ihR dC dI ad cI cJ n t P HT RK GP (nI m0) F2 T2 M2 ST ln mn E2 hn0 ht0 m0 hm0 (chd m0 n t Y (4 * fr + to)) hch.1 (by have := hch.2.1; omega) hch.2.2 (dn + 1) (by omega) hE2 H.size) (cwV 3 hts gX3_reachesByMove_X3_reaches rfl rfl rfl (by decide +kernel) ⟨by show 10 + 2 * k + 1 ≤ 9 + 2 * lf; omega, by show 8 + (8 + 11) + (1000 + 60 * k) ≤ 970 + 60 * lf; omega⟩) ⟨wc_blind, va_recv hK hP (ci := 3) (q0 := 6) rfl rfl, fun U hU hW => ⟨rfl, ⟨by rw [hU], by rw [hU]; exact hP, va_K.moved hW.alike hK, hD.weaken (fun _ _ _ _ => trivial)⟩, nst_warm hW hN⟩⟩ rfl rfl hl.1 rfl (lv_room (Nat.le_of_ble_eq_true rfl)) dX3_reachesByMove_111 ⟨Nat.le_refl _, Nat.le_refl _⟩) hS hFc hFc (fun r9 W9 H locs hpost hP hD9 hz9 hk9 hS => ?_)
                        have hD := hD9.weaken (fun _ _ _ h => hFc _ h)
                        obtain ⟨E9, F9, T9, M9, rfl, rfl, hE9, hU9, hW9⟩ := hpost
                        have hP : va_P (dC, dI) vwCl (cW ad cI cJ n t P HT RK GP (nI m0) F9 T9 M9 ST ln mn E9) H := hP
                        have hD : va_D A (cW ad cI cJ n t P HT RK GP (nI m0) F9 T9 M9 ST ln mn E9) := hD
                        refine W.eq (g2 := F0 m 114 ls [.int (nI (bn ((way m0 n t k (chd m0 n t Y (4 * fr + to))).isSome = true)))]) rfl ?_
                        refine wk_bn_eq (tgt := 137) hx hb dX3_reachesByMove_114 (by decide) (fun c_114 => ?_) (fun c_114 => ?_)
                        · exact cut_137 E9 F9 T9 M9 _ _ _ _ _ _ _ ls _ _ (flt_s (p := 4 * fr + to) hfl2 (fun _ => none_of c_114)) (hE9) (fun j hj => ⟨(hU9 j (by omega)).1.trans (hU2 j hj).1, (hU9 j (by omega)).2.1.trans (hU2 j hj).2.1, (hU9 j (by omega)).2.2.trans (hU2 j hj).2.2⟩) (rfl) (rfl) (rfl) (rfl) (rfl) (rfl) (rfl) (lv_sub hl [0, 1, 2, 3, 4, 5, 6, 7] rfl) (hP) (hD) hS
                        · obtain ⟨v, hv⟩ := some_of c_114
                          have hway := flt_hit hb0 hfl2 (by omega) hmay2 hv
                          rw [← hlk] at hway
                          have hqr := yr_lt (yw (cE Y) fr) 0
                          refine lv_aload_n hx hb dX3_reachesByMove_117 rfl (lv_at hl 0 rfl) ?_
                          refine va_get (D := (dC, dI)) (ci := 3) (v := .ref (ad 7)) (C := RX3) (T := TX3) (N := 5) hx hb hts hinX3 hown hK hP 6 rfl rfl 2 (by decide) (hts (.fieldLink RX3 12 "ReshuffleSearch$Search" "way" "LReshuffleSearch$Way;") (by decide +kernel)) (fun _ h9 => h9) rfl dX3_reachesByMove_118 ?_
                          refine lv_iload_n hx hb dX3_reachesByMove_121 rfl (lv_at hl 2 rfl) ?_
                          refine lv_iload hx hb dX3_reachesByMove_122 (lv_at hl 5 rfl) ?_
                          refine lv_iload hx hb dX3_reachesByMove_124 (lv_at hl 7 rfl) ?_
                          refine lv_iload hx hb dX3_reachesByMove_126 (lv_at hl 6 rfl) ?_
                          refine lv_iconst (v := nI 0) hx hb dX3_reachesByMove_128 (by decide +kernel) ?_
                          refine pu_go (va_runS (As := [.int (nI (yw (cE Y) fr)), .int (nI 0)]) (rest := [.int (nI to), .int (nI fr), .int (nI dn), .ref (ad 7)]) ⟨hx, hb, hml, hown, hts⟩ (c_X5_rankIn l (yw (cE Y) fr) 0 (by first | omega | assumption) (by first | omega | assumption)) (va_cwS 2 hts gX3_reachesByMove_X5_rankIn rfl rfl rfl (by decide +kernel) ⟨Nat.le_trans (Nat.le_of_ble_eq_true rfl : _ ≤ 9) (Nat.le_add_right 9 _), Nat.le_trans (Nat.le_of_ble_eq_true rfl : _ ≤ 970) (Nat.le_add_right 970 _)⟩) ⟨fun _ _ _ _ q => q, fun _ _ _ => ⟨rfl, trivial⟩⟩ rfl rfl hl.1 rfl (lv_room (Nat.le_of_ble_eq_true rfl)) dX3_reachesByMove_129 ⟨Nat.le_refl _, Nat.le_refl _⟩) ?_
                          have hFc := va_free (wc := (cW ad cI cJ n t P HT RK GP (nI m0) F9 T9 M9 ST ln mn E9)) hD hS hA [0, 1, 2, 3, 4, 5, 6, 7, 8, 9, 10, 11, 12, 13] rfl
                          refine wr_go (va_runV (As := [.int (nI dn), .int (nI fr), .int (nI to), .int (nI (yr (yw (cE Y) fr) 0))]) (rest := []) ⟨hx, hb, hml, hown, hts⟩ (c_X4_note l dC dI ad cI cJ n t P HT RK GP (nI m0) F9 T9 M9 ST ln mn E9 dn fr to (yr (yw (cE Y) fr) 0) (by first | omega | assumption) H.size) (cwV 4 hts gX3_reachesByMove_X4_note rfl rfl rfl (by decide +kernel) ⟨Nat.le_trans (Nat.le_of_ble_eq_true rfl : _ ≤ 9) (Nat.le_add_right 9 _), Nat.le_trans (Nat.le_of_ble_eq_true rfl : _ ≤ 970) (Nat.le_add_right 970 _)⟩) ⟨wc_blind, va_recv hK hP (ci := 4) (q0 := 7) rfl rfl, fun U hU hW => ⟨rfl, ⟨by rw [hU], by rw [hU]; exact hP, va_K.moved hW.alike hK, hD.weaken (fun _ _ _ _ => trivial)⟩, nst_warm hW hN⟩⟩ rfl rfl hl.1 rfl (lv_room (Nat.le_of_ble_eq_true rfl)) dX3_reachesByMove_132 ⟨Nat.le_refl _, Nat.le_refl _⟩) hS hFc hFc (fun r9 W9 H locs hpost hP hD9 hz9 hk9 hS => ?_)
                          have hD := hD9.weaken (fun _ _ _ h => hFc _ h)
                          obtain ⟨rfl, rfl⟩ := hpost
                          have hP : va_P (dC, dI) vwCl (cW ad cI cJ n t P HT RK GP (nI m0) (upN F9 dn fr) (upN T9 dn to) (upN M9 dn (yr (yw (cE Y) fr) 0)) ST ln mn E9) H := hP
                          have hD : va_D A (cW ad cI cJ n t P HT RK GP (nI m0) (upN F9 dn fr) (upN T9 dn to) (upN M9 dn (yr (yw (cE Y) fr) 0)) ST ln mn E9) := hD
                          refine W.eq (g2 := F0 m 135 ls []) rfl ?_
                          refine lv_iconst (v := nI 1) hx hb dX3_reachesByMove_135 (by decide +kernel) ?_
                          exact W.zret hx hb hr (by decide +kernel) (fun t9 ht hW => ⟨some (.int (nI 1)), (cW ad cI cJ n t P HT RK GP (nI m0) (upN F9 dn fr) (upN T9 dn to) (upN M9 dn (yr (yw (cE Y) fr) 0)) ST ln mn E9), rfl, ⟨E9, upN F9 dn fr, upN T9 dn to, upN M9 dn (yr (yw (cE Y) fr) 0), by rw [bn_t (by rw [hway]; rfl)], rfl, hE9, fun j hj => ⟨(upN_n (by omega)).trans ((hU9 j (by omega)).1.trans (hU2 j hj).1), (upN_n (by omega)).trans ((hU9 j (by omega)).2.1.trans (hU2 j hj).2.1), (upN_n (by omega)).trans ((hU9 j (by omega)).2.2.trans (hU2 j hj).2.2)⟩, fun w hw => by rw [hway] at hw; cases hw; exact ⟨⟨(upN_s _ _ _).trans (by omega), (upN_s _ _ _).trans (by omega), (upN_s _ _ _).trans (by rw [yr_top hY ht0.2 (by omega), show (4 * fr + to) / 4 = fr by omega])⟩, wst_congr v (dn + 1) _ (fun j hj => ⟨upN_n (by omega), upN_n (by omega), upN_n (by omega)⟩) (hW9 v hv)⟩⟩, by rw [ht]; exact hP, hD, hS.F ht⟩) hS.2.2 dX3_reachesByMove_136
                      · refine lv_goto (tgt := 137) hx hb dX3_reachesByMove_88 (by decide) ?_
                        exact cut_137 E2 F2 T2 M2 _ _ _ _ _ _ _ ls _ _ (flt_s (p := 4 * fr + to) hfl2 (fun q => by rw [show (4 * fr + to) / 4 = fr by omega, show (4 * fr + to) % 4 = to by omega] at q; exact absurd ((full_iff hY ht0.2 (by omega) (by omega)).mp c_85) (mayb_iff.mp q).2.2.2.2.1)) (hE2) (hU2) (rfl) (rfl) (rfl) (rfl) (rfl) (rfl) (rfl) (lv_sub hl [0, 1, 2, 3, 4, 5, 6, 7] rfl) (hP) (hD) hS
              exact cut_56 (n + 1) 0 E1 F1 T1 M1 _ _ _ _ _ _ _ ls _ _ (by omega) (hfl) (hE1) (hU1) (by omega) (rfl) (rfl) (rfl) (rfl) (rfl) (rfl) (rfl) (lv_sub hl [2, 3, 4, 5, 6, 7, 1, 0] rfl) (hP) (hD) hS
            · refine lv_goto (tgt := 143) hx hb dX3_reachesByMove_50 (by decide) ?_
              exact cut_143 E1 F1 T1 M1 _ _ _ _ _ ls _ _ (flt_skip hfl (fun b q => by obtain ⟨-, -, -, q4, -, q6⟩ := mayb_iff.mp q; exact c_47 ((opn_iff hY ht0.2 (by omega)).mpr ⟨q4, q6⟩))) (hE1) (hU1) (rfl) (rfl) (rfl) (rfl) (rfl) (lv_sub hl [1, 2, 3, 4, 5, 6] rfl) (hP) (hD) hS
      exact cut_22 (n + 1) 0 E F T M _ _ _ _ _ ls _ _ (by omega) (flt_0) (hE) (fun _ _ => ⟨rfl, rfl, rfl⟩) (by omega) (rfl) (rfl) (rfl) (rfl) (rfl) (lv_sub hl [2, 3, 4, 5, 1, 0] rfl) (hP) (hD) hS
    · exact (by exfalso; omega)
set_option maxHeartbeats 4000000 in
set_option maxRecDepth 100000 in
theorem c_X3_reaches (l : Launch) (lf : Nat) (ihB : 0 < lf → RB l lf) (dC : Nat → ClassId) (dI : Nat → Nat → Nat) (ad : Nat → Nat) (cI cJ : ClassId) (n t : Nat) (P HT RK GP : Nat → Nat) (sm : Int32) (F T M ST : Nat → Nat) (ln mn : Int32) (E : Nat → Nat) (hn0 : 2 ≤ n ∧ n ≤ 4) (ht0 : 2 ≤ t ∧ t ≤ 4) (m0 : Nat) (hm0 : m0 < 3) (Y : Nat → List Nat) (hY : okY n t Y) (hbx : bxY Y ≤ 6) (hnf : m0 ≠ 2 → nf Y) (dn : Nat) (hdl : dn + lf ≤ 30) (hE : hI m0 n t E)  (sz : Nat) : Met l yX3_reaches wsX3_reaches ({ frames := 10 + 2 * lf, cells := 0, slots := 0, locals := 1000 + 60 * lf }) (va_Pc [.ref (ad 6), .long (lN (cE Y)), .int (nI dn), .int (nI lf)] (wc_P (dC, dI) [(cI, .int), (cJ, .long)] (cW ad cI cJ n t P HT RK GP (nI m0) F T M ST ln mn E) sz)) (wr_Q (dC, dI) (va_A (cW ad cI cJ n t P HT RK GP (nI m0) F T M ST ln mn E) sz) (fun r W1 => ∃ E1 F1 T1 M1, r = some (.int (nI (bn ((way m0 n t lf Y).isSome = true)))) ∧ W1 = (cW ad cI cJ n t P HT RK GP (nI m0) F1 T1 M1 ST ln mn E1) ∧ hI m0 n t E1 ∧ (∀ j, j < dn → F1 j = F j ∧ T1 j = T j ∧ M1 j = M j) ∧ ∀ w, way m0 n t lf Y = some w → wst m0 n t F1 T1 M1 dn w Y)) 0 0 (va_A (cW ad cI cJ n t P HT RK GP (nI m0) F T M ST ln mn E) sz) := by
  refine Met.ofW (cc := cX3_reaches) (maxL := 8) (ret := (some .boolean)) (by decide) rfl ?_
  intro p e s m args below meth c s₁ B hml hv
  obtain ⟨rfl, ⟨hsz, hP, hK, hD0⟩, hN⟩ := hv
  have hx := B.exec
  have hb := B.bytes
  have hr := B.returns
  have hts := atoms_spec (ws := wsX3_reaches) B.pre
  have hown : s.vm.findClass RX3 = some m.cls := findClass_of_methodNamed B.named
  have hlocks := B.notSynchronized
  have hinX3 : ∀ w ∈ u_ws RX3 TX3 5, w ∈ wsX3_reaches := by decide +kernel
  subst hsz
  have hD := hD0.self (sz := s.heap.size)
  generalize hAe : va_A (cW ad cI cJ n t P HT RK GP (nI m0) F T M ST ln mn E) s.heap.size = A at hD ⊢
  have hA : ∀ q : Nat, s.heap.size ≤ q → A q := fun q h => by rw [← hAe]; exact Or.inr h
  have hS : va_S A s.heap s.heap [] := va_S.rf
  have hl := lv_entry ([.ref (ad 6), .long (lN (cE Y)), .int (nI dn), .int (nI lf)]) (n := 8) (Nat.le_of_ble_eq_true rfl)
  rw [lg_entry_eq]
  generalize (lg_sl ([.ref (ad 6), .long (lN (cE Y)), .int (nI dn), .int (nI lf)]) ++ List.replicate (8 - (lg_sl ([.ref (ad 6), .long (lN (cE Y)), .int (nI dn), .int (nI lf)])).length) Slot.unset).toArray = ls at hl ⊢
  have hl : lv_has ls 8 [(0, .ref (ad 6)), (1, .long (lN (cE Y))), (3, .int (nI dn)), (4, .int (nI lf))] := hl
  have hqx := cE_lt hY ht0.2
  have hqs := ysrt_lt (cE Y)
  refine lv_lload_n hx hb dX3_reaches_0 rfl (lv_at hl 1 rfl) ?_
  refine pu_go (va_runS (As := [.long (lN (cE Y))]) (rest := []) ⟨hx, hb, hml, hown, hts⟩ (c_X5_blockedBoxes l (cE Y) (by first | omega | assumption)) (va_cwS 1 hts gX3_reaches_X5_blockedBoxes rfl rfl rfl (by decide +kernel) ⟨Nat.le_trans (Nat.le_of_ble_eq_true rfl : _ ≤ 10) (Nat.le_add_right 10 _), Nat.le_trans (Nat.le_of_ble_eq_true rfl : _ ≤ 1000) (Nat.le_add_right 1000 _)⟩) ⟨fun _ _ _ _ q => q, fun _ _ _ => ⟨rfl, trivial⟩⟩ rfl rfl hl.1 rfl (lv_room (Nat.le_of_ble_eq_true rfl)) dX3_reaches_1 ⟨Nat.le_refl _, Nat.le_refl _⟩) ?_
  refine wk_ti (v' := nI (blk Y)) (congrArg nI (ybb_cE hY ht0.2)) ?_
  refine lv_istore (lv' := [(5, .int (nI (blk Y))), (0, .ref (ad 6)), (1, .long (lN (cE Y))), (3, .int (nI dn)), (4, .int (nI lf))]) hx hb dX3_reaches_4 hl (by decide) rfl (fun ls hl => ?_)
  refine lv_iload hx hb dX3_reaches_6 (lv_at hl 0 rfl) ?_
  refine wk_if_ne (tgt := 13) hx hb (by have := ybb_le (cE Y) 4; rw [ybb_cE hY ht0.2] at this; omega) dX3_reaches_8 (by decide) (fun c_8 => ?_) (fun c_8 => ?_)
  · refine lv_iload hx hb dX3_reaches_13 (lv_at hl 0 rfl) ?_
    refine lv_iload hx hb dX3_reaches_15 (lv_at hl 4 rfl) ?_
    refine wk_icmp_le (tgt := 22) hx hb (by have := ybb_le (cE Y) 4; rw [ybb_cE hY ht0.2] at this; omega) (by omega) dX3_reaches_17 (by decide) (fun c_17 => ?_) (fun c_17 => ?_)
    · refine lv_lload_n hx hb dX3_reaches_22 rfl (lv_at hl 2 rfl) ?_
      refine pu_go (va_runS (As := [.long (lN (cE Y))]) (rest := []) ⟨hx, hb, hml, hown, hts⟩ (c_X5_sorted l (cE Y) (by first | omega | assumption)) (va_cwS 1 hts gX3_reaches_X5_sorted rfl rfl rfl (by decide +kernel) ⟨Nat.le_trans (Nat.le_of_ble_eq_true rfl : _ ≤ 10) (Nat.le_add_right 10 _), Nat.le_trans (Nat.le_of_ble_eq_true rfl : _ ≤ 1000) (Nat.le_add_right 1000 _)⟩) ⟨fun _ _ _ _ q => q, fun _ _ _ => ⟨rfl, trivial⟩⟩ rfl rfl hl.1 rfl (lv_room (Nat.le_of_ble_eq_true rfl)) dX3_reaches_23 ⟨Nat.le_refl _, Nat.le_refl _⟩) ?_
      refine lv_lstore (lv' := [(6, .long (lN (ysrt (cE Y)))), (5, .int (nI (blk Y))), (0, .ref (ad 6)), (1, .long (lN (cE Y))), (3, .int (nI dn)), (4, .int (nI lf))]) hx hb dX3_reaches_26 hl (by decide) rfl (fun ls hl => ?_)
      refine lv_aload_n hx hb dX3_reaches_28 rfl (lv_at hl 2 rfl) ?_
      refine va_get (D := (dC, dI)) (ci := 3) (v := .ref (ad 12)) (C := RX3) (T := TX3) (N := 5) hx hb hts hinX3 hown hK hP 6 rfl rfl 3 (by decide) (hts (.fieldLink RX3 21 "ReshuffleSearch$Search" "hopeless" "LReshuffleSearch$Hopeless;") (by decide +kernel)) (fun _ h9 => h9) rfl dX3_reaches_29 ?_
      refine lv_lload hx hb dX3_reaches_32 (lv_at hl 0 rfl) ?_
      refine lv_iload hx hb dX3_reaches_34 (lv_at hl 5 rfl) ?_
      refine pu_go (va_runV (As := [.long (lN (ysrt (cE Y))), .int (nI lf)]) (rest := []) ⟨hx, hb, hml, hown, hts⟩ (c_X0_isKnown l dC dI ad cI cJ n t P HT RK GP (nI m0) F T M ST ln mn E hE.1 (ysrt (cE Y)) lf (by first | omega | assumption) (by first | omega | assumption)) (cwV 2 hts gX3_reaches_X0_isKnown rfl rfl rfl (by decide +kernel) ⟨Nat.le_trans (Nat.le_of_ble_eq_true rfl : _ ≤ 10) (Nat.le_add_right 10 _), Nat.le_trans (Nat.le_of_ble_eq_true rfl : _ ≤ 1000) (Nat.le_add_right 1000 _)⟩) ⟨rc_blind, va_recv hK hP (ci := 1) (q0 := 12) rfl rfl, fun U hU hW => ⟨rfl, by rw [hU]; exact hP, va_K.moved hW.alike hK, nst_warm hW hN⟩⟩ rfl rfl hl.1 rfl (lv_room (Nat.le_of_ble_eq_true rfl)) dX3_reaches_36 ⟨Nat.le_refl _, Nat.le_refl _⟩) ?_
      refine wk_bn_eq (tgt := 44) hx hb dX3_reaches_39 (by decide) (fun c_39 => ?_) (fun c_39 => ?_)
      · have ihB := ihB (by omega)
        refine lv_aload_n hx hb dX3_reaches_44 rfl (lv_at hl 2 rfl) ?_
        refine lv_lload_n hx hb dX3_reaches_45 rfl (lv_at hl 3 rfl) ?_
        refine lv_iload_n hx hb dX3_reaches_46 rfl (lv_at hl 4 rfl) ?_
        refine lv_iload hx hb dX3_reaches_47 (lv_at hl 5 rfl) ?_
        have hFc := va_free (wc := (cW ad cI cJ n t P HT RK GP (nI m0) F T M ST ln mn E)) hD hS hA [0, 1, 2, 3, 4, 5, 6, 7, 8, 9, 10, 11, 12, 13] rfl
        refine wr_go (va_runV (As := [.long (lN (cE Y)), .int (nI dn), .int (nI lf)]) (rest := []) ⟨hx, hb, hml, hown, hts⟩ (ihB dC dI ad cI cJ n t P HT RK GP (nI m0) F T M ST ln mn E hn0 ht0 m0 hm0 Y hY hbx hnf dn hdl hE c_8 s.heap.size) (cwV 3 hts gX3_reaches_X3_reachesByMove rfl rfl rfl (by decide +kernel) ⟨by show 9 + 2 * lf + 1 ≤ 10 + 2 * lf; omega, by show 8 + (9 + 11) + (970 + 60 * lf) ≤ 1000 + 60 * lf; omega⟩) ⟨wc_blind, va_recv hK hP (ci := 3) (q0 := 6) rfl rfl, fun U hU hW => ⟨rfl, ⟨by rw [hU], by rw [hU]; exact hP, va_K.moved hW.alike hK, hD.weaken (fun _ _ _ _ => trivial)⟩, nst_warm hW hN⟩⟩ rfl rfl hl.1 rfl (lv_room (Nat.le_of_ble_eq_true rfl)) dX3_reaches_49 ⟨Nat.le_refl _, Nat.le_refl _⟩) hS hFc hFc (fun r9 W9 H locs hpost hP hD9 hz9 hk9 hS => ?_)
        have hD := hD9.weaken (fun _ _ _ h => hFc _ h)
        obtain ⟨E9, F9, T9, M9, rfl, rfl, hE9, hU9, hW9⟩ := hpost
        have hP : va_P (dC, dI) vwCl (cW ad cI cJ n t P HT RK GP (nI m0) F9 T9 M9 ST ln mn E9) H := hP
        have hD : va_D A (cW ad cI cJ n t P HT RK GP (nI m0) F9 T9 M9 ST ln mn E9) := hD
        refine W.eq (g2 := F0 m 52 ls [.int (nI (bn ((way m0 n t lf Y).isSome = true)))]) rfl ?_
        refine wk_bn_eq (tgt := 57) hx hb dX3_reaches_52 (by decide) (fun c_52 => ?_) (fun c_52 => ?_)
        · have hno := none_of c_52
          refine lv_aload_n hx hb dX3_reaches_57 rfl (lv_at hl 2 rfl) ?_
          refine va_get (D := (dC, dI)) (ci := 3) (v := .ref (ad 12)) (C := RX3) (T := TX3) (N := 5) hx hb hts hinX3 hown hK hP 6 rfl rfl 3 (by decide) (hts (.fieldLink RX3 21 "ReshuffleSearch$Search" "hopeless" "LReshuffleSearch$Hopeless;") (by decide +kernel)) (fun _ h9 => h9) rfl dX3_reaches_58 ?_
          refine lv_lload hx hb dX3_reaches_61 (lv_at hl 0 rfl) ?_
          refine lv_iload hx hb dX3_reaches_63 (lv_at hl 5 rfl) ?_
          have hFc := va_free (wc := (cW ad cI cJ n t P HT RK GP (nI m0) F9 T9 M9 ST ln mn E9)) hD hS hA [0, 1, 2, 3, 4, 5, 6, 7, 8, 9, 10, 11, 12, 13] rfl
          refine wr_go (va_runV (As := [.long (lN (ysrt (cE Y))), .int (nI lf)]) (rest := []) ⟨hx, hb, hml, hown, hts⟩ (c_X0_learn l dC dI ad cI cJ n t P HT RK GP (nI m0) F9 T9 M9 ST ln mn E9 hE9.1 (ysrt (cE Y)) lf (by first | omega | assumption) (by first | omega | assumption) H.size) (cwV 2 hts gX3_reaches_X0_learn rfl rfl rfl (by decide +kernel) ⟨Nat.le_trans (Nat.le_of_ble_eq_true rfl : _ ≤ 10) (Nat.le_add_right 10 _), Nat.le_trans (Nat.le_of_ble_eq_true rfl : _ ≤ 1000) (Nat.le_add_right 1000 _)⟩) ⟨wc_blind, va_recv hK hP (ci := 1) (q0 := 12) rfl rfl, fun U hU hW => ⟨rfl, ⟨by rw [hU], by rw [hU]; exact hP, va_K.moved hW.alike hK, hD.weaken (fun _ _ _ _ => trivial)⟩, nst_warm hW hN⟩⟩ rfl rfl hl.1 rfl (lv_room (Nat.le_of_ble_eq_true rfl)) dX3_reaches_65 ⟨Nat.le_refl _, Nat.le_refl _⟩) hS hFc hFc (fun r9 W9 H locs hpost hP hD9 hz9 hk9 hS => ?_)
          have hD := hD9.weaken (fun _ _ _ h => hFc _ h)
          obtain ⟨rfl, rfl⟩ := hpost
          have hP : va_P (dC, dI) vwCl (cW ad cI cJ n t P HT RK GP (nI m0) F9 T9 M9 ST ln mn (clrn E9 (ysrt (cE Y)) lf)) H := hP
          have hD : va_D A (cW ad cI cJ n t P HT RK GP (nI m0) F9 T9 M9 ST ln mn (clrn E9 (ysrt (cE Y)) lf)) := hD
          refine W.eq (g2 := F0 m 68 ls []) rfl ?_
          refine lv_iconst (v := nI 0) hx hb dX3_reaches_68 (by decide +kernel) ?_
          exact W.zret hx hb hr (by decide +kernel) (fun t9 ht hW => ⟨some (.int (nI 0)), (cW ad cI cJ n t P HT RK GP (nI m0) F9 T9 M9 ST ln mn (clrn E9 (ysrt (cE Y)) lf)), rfl, ⟨clrn E9 (ysrt (cE Y)) lf, F9, T9, M9, by rw [bn_f c_52], rfl, hI_clrn hn0.2 ht0.2 hE9 hY (by omega) hno, hU9, hW9⟩, by rw [ht]; exact hP, hD, hS.F ht⟩) hS.2.2 dX3_reaches_69
        · refine lv_iconst (v := nI 1) hx hb dX3_reaches_55 (by decide +kernel) ?_
          exact W.zret hx hb hr (by decide +kernel) (fun t9 ht hW => ⟨some (.int (nI 1)), (cW ad cI cJ n t P HT RK GP (nI m0) F9 T9 M9 ST ln mn E9), rfl, ⟨E9, F9, T9, M9, by rw [bn_t c_52], rfl, hE9, hU9, hW9⟩, by rw [ht]; exact hP, hD, hS.F ht⟩) hS.2.2 dX3_reaches_56
      · have hno := hI_know hE hY (cknow_h c_39)
        refine lv_iconst (v := nI 0) hx hb dX3_reaches_42 (by decide +kernel) ?_
        exact W.zret hx hb hr (by decide +kernel) (fun t9 ht hW => ⟨some (.int (nI 0)), (cW ad cI cJ n t P HT RK GP (nI m0) F T M ST ln mn E), rfl, ⟨E, F, T, M, by rw [bn_f (by rw [hno]; decide)], rfl, hE, fun _ _ => ⟨rfl, rfl, rfl⟩, fun w hw => by rw [hno] at hw; exact nomatch hw⟩, by rw [ht]; exact hP, hD, hS.F ht⟩) hS.2.2 dX3_reaches_43
    · have hno := way_blk (man := m0) (n := n) (t := t) lf Y c_17
      refine lv_iconst (v := nI 0) hx hb dX3_reaches_20 (by decide +kernel) ?_
      exact W.zret hx hb hr (by decide +kernel) (fun t9 ht hW => ⟨some (.int (nI 0)), (cW ad cI cJ n t P HT RK GP (nI m0) F T M ST ln mn E), rfl, ⟨E, F, T, M, by rw [bn_f (by rw [hno]; decide)], rfl, hE, fun _ _ => ⟨rfl, rfl, rfl⟩, fun w hw => by rw [hno] at hw; exact nomatch hw⟩, by rw [ht]; exact hP, hD, hS.F ht⟩) hS.2.2 dX3_reaches_21
  · refine lv_iconst (v := nI 1) hx hb dX3_reaches_11 (by decide +kernel) ?_
    exact W.zret hx hb hr (by decide +kernel) (fun t9 ht hW => ⟨some (.int (nI 1)), (cW ad cI cJ n t P HT RK GP (nI m0) F T M ST ln mn E), rfl, ⟨E, F, T, M, by rw [bn_t (by rw [way_done c_8]; rfl)], rfl, hE, fun _ _ => ⟨rfl, rfl, rfl⟩, fun w hw => by rw [way_done c_8] at hw; cases hw; trivial⟩, by rw [ht]; exact hP, hD, hS.F ht⟩) hS.2.2 dX3_reaches_12
theorem re_all (l : Launch) : ∀ lf, RE l lf
  | 0 => fun dC dI => c_X3_reaches l 0 (fun h => absurd h (Nat.lt_irrefl 0)) dC dI
  | k + 1 => fun dC dI => c_X3_reaches l (k + 1) (fun _ => fun dC dI => c_X3_reachesByMove l (k + 1) k rfl (re_all l k) dC dI) dC dI
set_option maxHeartbeats 4000000 in
set_option maxRecDepth 100000 in
theorem c_X3_fewest (l : Launch) (dC : Nat → ClassId) (dI : Nat → Nat → Nat) (ad : Nat → Nat) (cI cJ : ClassId) (n t : Nat) (P HT RK GP : Nat → Nat) (sm : Int32) (F T M ST : Nat → Nat) (ln mn : Int32) (E : Nat → Nat) (hn0 : 2 ≤ n ∧ n ≤ 4) (ht0 : 2 ≤ t ∧ t ≤ 4) (m0 : Nat) (hm0 : m0 < 3) (Y : Nat → List Nat) (hY : okY n t Y) (hbx : bxY Y ≤ 6) (hE0 : ∀ j, E j < 2 ^ 54)  (sz : Nat) : Met l yX3_fewest wsX3_fewest ({ frames := 75, cells := 0, slots := 0, locals := 3000 }) (va_Pc [.ref (ad 6), .int (nI m0), .long (lN (cE Y))] (wc_P (dC, dI) [(cI, .int), (cJ, .long)] (cW ad cI cJ n t P HT RK GP sm F T M ST ln mn E) sz)) (wr_Q (dC, dI) (va_A (cW ad cI cJ n t P HT RK GP sm F T M ST ln mn E) sz) (fun r W1 => ∃ E1 F1 T1 M1, W1 = (cW ad cI cJ n t P HT RK GP (nI m0) F1 T1 M1 ST ln mn E1) ∧ hI m0 n t E1 ∧ ((r = some (.int (-2)) ∧ ∀ j, j ≤ 30 → way m0 n t j (stl m0 Y) = none) ∨ ∃ k, r = some (.int (nI k)) ∧ least m0 n t (stl m0 Y) k ∧ ∀ w, way m0 n t k (stl m0 Y) = some w → wst m0 n t F1 T1 M1 0 w (stl m0 Y)))) 0 0 (va_A (cW ad cI cJ n t P HT RK GP sm F T M ST ln mn E) sz) := by
  refine Met.ofW (cc := cX3_fewest) (maxL := 7) (ret := (some .int)) (by decide) rfl ?_
  intro p e s m args below meth c s₁ B hml hv
  obtain ⟨rfl, ⟨hsz, hP, hK, hD0⟩, hN⟩ := hv
  have hx := B.exec
  have hb := B.bytes
  have hr := B.returns
  have hts := atoms_spec (ws := wsX3_fewest) B.pre
  have hown : s.vm.findClass RX3 = some m.cls := findClass_of_methodNamed B.named
  have hlocks := B.notSynchronized
  have hinX3 : ∀ w ∈ u_ws RX3 TX3 5, w ∈ wsX3_fewest := by decide +kernel
  subst hsz
  have hD := hD0.self (sz := s.heap.size)
  generalize hAe : va_A (cW ad cI cJ n t P HT RK GP sm F T M ST ln mn E) s.heap.size = A at hD ⊢
  have hA : ∀ q : Nat, s.heap.size ≤ q → A q := fun q h => by rw [← hAe]; exact Or.inr h
  have hS : va_S A s.heap s.heap [] := va_S.rf
  have hl := lv_entry ([.ref (ad 6), .int (nI m0), .long (lN (cE Y))]) (n := 7) (Nat.le_of_ble_eq_true rfl)
  rw [lg_entry_eq]
  generalize (lg_sl ([.ref (ad 6), .int (nI m0), .long (lN (cE Y))]) ++ List.replicate (7 - (lg_sl ([.ref (ad 6), .int (nI m0), .long (lN (cE Y))])).length) Slot.unset).toArray = ls at hl ⊢
  have hl : lv_has ls 7 [(0, .ref (ad 6)), (1, .int (nI m0)), (2, .long (lN (cE Y)))] := hl
  have hqx := cE_lt hY ht0.2
  have hst := stl_ok (man := m0) hY hbx
  have hqy := cE_lt hst.1 ht0.2
  have hb24 := blk_24 ht0.2 hst.1
  refine lv_aload_n hx hb dX3_fewest_0 rfl (lv_at hl 0 rfl) ?_
  refine lv_iload_n hx hb dX3_fewest_1 rfl (lv_at hl 1 rfl) ?_
  refine va_put (D := (dC, dI)) (ci := 3) (v := .int (nI m0)) (ty := .int) (C := RX3) (T := TX3) (N := 5) hx hb hts hinX3 tyX3 tyX3_ok nmX3 hown hK hP hD hS 6 rfl rfl 4 (by decide) (hts (.fieldLink RX3 25 "ReshuffleSearch$Search" "manner" "I") (by decide +kernel)) (fun _ h9 => h9) rfl (by decide +kernel) (rfl) (rfl) (Nat.le_of_ble_eq_true rfl) dX3_fewest_2 (fun H locs hP hD hS => ?_)
  have hP : va_P (dC, dI) vwCl (cW ad cI cJ n t P HT RK GP (nI m0) F T M ST ln mn E) H := hP
  have hD : va_D A (cW ad cI cJ n t P HT RK GP (nI m0) F T M ST ln mn E) := hD
  refine lv_aload_n hx hb dX3_fewest_5 rfl (lv_at hl 0 rfl) ?_
  refine va_get (D := (dC, dI)) (ci := 3) (v := .ref (ad 12)) (C := RX3) (T := TX3) (N := 5) hx hb hts hinX3 hown hK hP 6 rfl rfl 3 (by decide) (hts (.fieldLink RX3 21 "ReshuffleSearch$Search" "hopeless" "LReshuffleSearch$Hopeless;") (by decide +kernel)) (fun _ h9 => h9) rfl dX3_fewest_6 ?_
  have hFc := va_free (wc := (cW ad cI cJ n t P HT RK GP (nI m0) F T M ST ln mn E)) hD hS hA [0, 1, 2, 3, 4, 5, 6, 7, 8, 9, 10, 11, 12, 13] rfl
  refine wr_go (va_runV (As := []) (rest := []) ⟨hx, hb, hml, hown, hts⟩ (c_X0_forget l dC dI ad cI cJ n t P HT RK GP (nI m0) F T M ST ln mn E  H.size) (cwV 0 hts gX3_fewest_X0_forget rfl rfl rfl (by decide +kernel) ⟨by first | exact Nat.le_of_ble_eq_true rfl | (show 10 + 2 * mv9 + 1 ≤ 75; omega), by first | exact Nat.le_of_ble_eq_true rfl | (show 8 + (8 + 11) + (1000 + 60 * mv9) ≤ 3000; omega)⟩) ⟨wc_blind, va_recv hK hP (ci := 1) (q0 := 12) rfl rfl, fun U hU hW => ⟨rfl, ⟨by rw [hU], by rw [hU]; exact hP, va_K.moved hW.alike hK, hD.weaken (fun _ _ _ _ => trivial)⟩, nst_warm hW hN⟩⟩ rfl rfl hl.1 rfl (lv_room (Nat.le_of_ble_eq_true rfl)) dX3_fewest_9 ⟨Nat.le_refl _, Nat.le_refl _⟩) hS hFc hFc (fun r9 W9 H locs hpost hP hD9 hz9 hk9 hS => ?_)
  have hD := hD9.weaken (fun _ _ _ h => hFc _ h)
  obtain ⟨rfl, rfl⟩ := hpost
  have hP : va_P (dC, dI) vwCl (cW ad cI cJ n t P HT RK GP (nI m0) F T M ST ln mn (zr 1024 0 E)) H := hP
  have hD : va_D A (cW ad cI cJ n t P HT RK GP (nI m0) F T M ST ln mn (zr 1024 0 E)) := hD
  refine W.eq (g2 := F0 m 12 ls []) rfl ?_
  refine lv_aload_n hx hb dX3_fewest_12 rfl (lv_at hl 0 rfl) ?_
  refine lv_lload_n hx hb dX3_fewest_13 rfl (lv_at hl 2 rfl) ?_
  refine pu_go (va_runV (As := [.long (lN (cE Y))]) (rest := []) ⟨hx, hb, hml, hown, hts⟩ (c_X3_settled l dC dI ad cI cJ n t P HT RK GP (nI m0) F T M ST ln mn (zr 1024 0 E) m0 hm0 (cE Y) (by first | omega | assumption)) (cwV 1 hts gX3_fewest_X3_settled rfl rfl rfl (by decide +kernel) ⟨by first | exact Nat.le_of_ble_eq_true rfl | (show 10 + 2 * mv9 + 1 ≤ 75; omega), by first | exact Nat.le_of_ble_eq_true rfl | (show 8 + (8 + 11) + (1000 + 60 * mv9) ≤ 3000; omega)⟩) ⟨rc_blind, va_recv hK hP (ci := 3) (q0 := 6) rfl rfl, fun U hU hW => ⟨rfl, by rw [hU]; exact hP, va_K.moved hW.alike hK, nst_warm hW hN⟩⟩ rfl rfl hl.1 rfl (lv_room (Nat.le_of_ble_eq_true rfl)) dX3_fewest_14 ⟨Nat.le_refl _, Nat.le_refl _⟩) ?_
  refine wk_tl (v' := lN (cE (stl m0 Y))) (congrArg lN (stl_cE ht0.2 hY hbx)) ?_
  refine lv_lstore (lv' := [(4, .long (lN (cE (stl m0 Y)))), (0, .ref (ad 6)), (1, .int (nI m0)), (2, .long (lN (cE Y)))]) hx hb dX3_fewest_17 hl (by decide) rfl (fun ls hl => ?_)
  refine lv_lload hx hb dX3_fewest_19 (lv_at hl 0 rfl) ?_
  refine pu_go (va_runS (As := [.long (lN (cE (stl m0 Y)))]) (rest := []) ⟨hx, hb, hml, hown, hts⟩ (c_X5_blockedBoxes l (cE (stl m0 Y)) (by first | omega | assumption)) (va_cwS 1 hts gX3_fewest_X5_blockedBoxes rfl rfl rfl (by decide +kernel) ⟨by first | exact Nat.le_of_ble_eq_true rfl | (show 10 + 2 * mv9 + 1 ≤ 75; omega), by first | exact Nat.le_of_ble_eq_true rfl | (show 8 + (8 + 11) + (1000 + 60 * mv9) ≤ 3000; omega)⟩) ⟨fun _ _ _ _ q => q, fun _ _ _ => ⟨rfl, trivial⟩⟩ rfl rfl hl.1 rfl (lv_room (Nat.le_of_ble_eq_true rfl)) dX3_fewest_21 ⟨Nat.le_refl _, Nat.le_refl _⟩) ?_
  refine wk_ti (v' := nI (blk (stl m0 Y))) (congrArg nI (ybb_cE hst.1 ht0.2)) ?_
  refine lv_istore (lv' := [(6, .int (nI (blk (stl m0 Y)))), (4, .long (lN (cE (stl m0 Y)))), (0, .ref (ad 6)), (1, .int (nI m0)), (2, .long (lN (cE Y)))]) hx hb dX3_fewest_24 hl (by decide) rfl (fun ls hl => ?_)
  have cut_26 : ∀ (n_26 : Nat) (mv9 : Nat) (E2 : Nat → Nat) (F2 : Nat → Nat) (T2 : Nat → Nat) (M2 : Nat → Nat) (v26_4 : Int64) (v26_6 : Int32) (ls : Array Slot) (H : Heap) (locs : List Loc) (hmv : mv9 ≤ 31) (hE2 : hI m0 n t E2) (hlo : ∀ j, j < mv9 → way m0 n t j (stl m0 Y) = none) (hn_26 : 31 - mv9 < n_26) (_ : v26_4 = lN (cE (stl m0 Y))) (_ : v26_6 = nI mv9) (_ : lv_has ls 7 [(0, .ref (ad 6)), (4, .long v26_4), (6, .int v26_6)]) (_ : va_P (dC, dI) vwCl (cW ad cI cJ n t P HT RK GP (nI m0) F2 T2 M2 ST ln mn E2) H) (_ : va_D A (cW ad cI cJ n t P HT RK GP (nI m0) F2 T2 M2 ST ln mn E2)) (_ : va_S A s.heap H locs), W p l e (headSpec wsX3_fewest ({ frames := 75, cells := 0, slots := 0, locals := 3000 })).room s m ([.ref (ad 6), .int (nI m0), .long (lN (cE Y))] : List Value).toArray below meth c H locs 0 0 (MQ below (wr_Q (dC, dI) A (fun r W1 => ∃ E1 F1 T1 M1, W1 = (cW ad cI cJ n t P HT RK GP (nI m0) F1 T1 M1 ST ln mn E1) ∧ hI m0 n t E1 ∧ ((r = some (.int (-2)) ∧ ∀ j, j ≤ 30 → way m0 n t j (stl m0 Y) = none) ∨ ∃ k, r = some (.int (nI k)) ∧ least m0 n t (stl m0 Y) k ∧ ∀ w, way m0 n t k (stl m0 Y) = some w → wst m0 n t F1 T1 M1 0 w (stl m0 Y)))) ([.ref (ad 6), .int (nI m0), .long (lN (cE Y))] : List Value).toArray s 0 0 A) (F0 m 26 ls []) := by
    intro n_26
    induction n_26 with
    | zero => intros; omega
    | succ n_26 ih_26 =>
      rintro mv9 E2 F2 T2 M2 v26_4 v26_6 ls H locs hmv hE2 hlo hn_26 rfl rfl hl hP hD hS
      refine lv_iload hx hb dX3_fewest_26 (lv_at hl 2 rfl) ?_
      refine lv_bipush (v := nI 30) hx hb dX3_fewest_28 (by decide +kernel) ?_
      refine wk_icmp_gt (tgt := 54) hx hb (by omega) (by omega) dX3_fewest_30 (by decide) (fun c_30 => ?_) (fun c_30 => ?_)
      · refine lv_bipush (v := -2) hx hb dX3_fewest_54 (by decide +kernel) ?_
        exact W.iret hx hb hr (fun t9 ht hW => ⟨some (.int (-2)), (cW ad cI cJ n t P HT RK GP (nI m0) F2 T2 M2 ST ln mn E2), rfl, ⟨E2, F2, T2, M2, rfl, hE2, Or.inl ⟨rfl, fun j hj => hlo j (by omega)⟩⟩, by rw [ht]; exact hP, hD, hS.F ht⟩) hS.2.2 dX3_fewest_56
      · refine lv_aload_n hx hb dX3_fewest_33 rfl (lv_at hl 0 rfl) ?_
        refine lv_lload hx hb dX3_fewest_34 (lv_at hl 1 rfl) ?_
        refine lv_iconst (v := nI 0) hx hb dX3_fewest_36 (by decide +kernel) ?_
        refine lv_iload hx hb dX3_fewest_37 (lv_at hl 2 rfl) ?_
        have hFc := va_free (wc := (cW ad cI cJ n t P HT RK GP (nI m0) F2 T2 M2 ST ln mn E2)) hD hS hA [0, 1, 2, 3, 4, 5, 6, 7, 8, 9, 10, 11, 12, 13] rfl
        refine wr_go (va_runV (As := [.long (lN (cE (stl m0 Y))), .int (nI 0), .int (nI mv9)]) (rest := []) ⟨hx, hb, hml, hown, hts⟩ (re_all l mv9 dC dI ad cI cJ n t P HT RK GP (nI m0) F2 T2 M2 ST ln mn E2 hn0 ht0 m0 hm0 (stl m0 Y) hst.1 hst.2.1 hst.2.2 0 (by omega) hE2 H.size) (cwV 3 hts gX3_fewest_X3_reaches rfl rfl rfl (by decide +kernel) ⟨by first | exact Nat.le_of_ble_eq_true rfl | (show 10 + 2 * mv9 + 1 ≤ 75; omega), by first | exact Nat.le_of_ble_eq_true rfl | (show 8 + (8 + 11) + (1000 + 60 * mv9) ≤ 3000; omega)⟩) ⟨wc_blind, va_recv hK hP (ci := 3) (q0 := 6) rfl rfl, fun U hU hW => ⟨rfl, ⟨by rw [hU], by rw [hU]; exact hP, va_K.moved hW.alike hK, hD.weaken (fun _ _ _ _ => trivial)⟩, nst_warm hW hN⟩⟩ rfl rfl hl.1 rfl (lv_room (Nat.le_of_ble_eq_true rfl)) dX3_fewest_39 ⟨Nat.le_refl _, Nat.le_refl _⟩) hS hFc hFc (fun r9 W9 H locs hpost hP hD9 hz9 hk9 hS => ?_)
        have hD := hD9.weaken (fun _ _ _ h => hFc _ h)
        obtain ⟨E9, F9, T9, M9, rfl, rfl, hE9, hU9, hW9⟩ := hpost
        have hP : va_P (dC, dI) vwCl (cW ad cI cJ n t P HT RK GP (nI m0) F9 T9 M9 ST ln mn E9) H := hP
        have hD : va_D A (cW ad cI cJ n t P HT RK GP (nI m0) F9 T9 M9 ST ln mn E9) := hD
        refine W.eq (g2 := F0 m 42 ls [.int (nI (bn ((way m0 n t mv9 (stl m0 Y)).isSome = true)))]) rfl ?_
        refine wk_bn_eq (tgt := 48) hx hb dX3_fewest_42 (by decide) (fun c_42 => ?_) (fun c_42 => ?_)
        · refine lv_iinc (v := nI (mv9 + 1)) (lv' := [(6, .int (nI (mv9 + 1))), (0, .ref (ad 6)), (4, .long (lN (cE (stl m0 Y))))]) hx hb dX3_fewest_48 hl (k := 2) rfl (wk_inc _ 1 rfl) (by decide) rfl (fun ls hl => ?_)
          refine lv_goto (tgt := 26) hx hb dX3_fewest_51 (by decide) ?_
          exact ih_26 (mv9 + 1) E9 F9 T9 M9 _ _ ls _ _ (by omega) (hE9) (fun j hj => by rcases Nat.lt_or_ge j mv9 with q | q; exact hlo j q; rw [show j = mv9 by omega]; exact none_of c_42) (by omega) (rfl) (rfl) (lv_sub hl [1, 2, 0] rfl) (hP) (hD) hS
        · refine lv_iload hx hb dX3_fewest_45 (lv_at hl 2 rfl) ?_
          exact W.iret hx hb hr (fun t9 ht hW => ⟨some (.int (nI mv9)), (cW ad cI cJ n t P HT RK GP (nI m0) F9 T9 M9 ST ln mn E9), rfl, ⟨E9, F9, T9, M9, rfl, hE9, Or.inr ⟨mv9, rfl, ⟨by omega, c_42, hlo⟩, hW9⟩⟩, by rw [ht]; exact hP, hD, hS.F ht⟩) hS.2.2 dX3_fewest_47
  exact cut_26 (31 + 1) (blk (stl m0 Y)) (zr 1024 0 E) F T M _ _ ls _ _ (by omega) (hI_0 hE0) (fun j hj => way_blk j _ hj) (by omega) (rfl) (rfl) (lv_sub hl [2, 1, 0] rfl) (hP) (hD) hS
