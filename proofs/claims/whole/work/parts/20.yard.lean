set_option maxHeartbeats 4000000 in
set_option maxRecDepth 100000 in
/-- wordOf -/
theorem c_X5_wordOf (l : Launch) (x s0 : Nat) (hx0 : x < 2 ^ 48) (hs0 : s0 < 4) : Met l yX5_wordOf wsX5_wordOf ({ frames := 0, cells := 0, slots := 0, locals := 0 }) (va_Pc [.long (lN x), .int (nI s0)] (fun _ => True)) (pu_Q (.int (nI (yw x s0)))) 0 0 (fun _ => False) := by
  refine Met.ofW (cc := cX5_wordOf) (maxL := 3) (ret := (some .int)) (by decide) rfl ?_
  intro p e s m args below meth c s₁ B hml hv
  obtain ⟨rfl, -⟩ := hv
  have hx := B.exec
  have hb := B.bytes
  have hr := B.returns
  have hts := atoms_spec (ws := wsX5_wordOf) B.pre
  have hown : s.vm.findClass RX5 = some m.cls := findClass_of_methodNamed B.named
  have hlocks := B.notSynchronized
  have hl := lv_entry ([.long (lN x), .int (nI s0)]) (n := 3) (Nat.le_of_ble_eq_true rfl)
  rw [lg_entry_eq]
  generalize (lg_sl ([.long (lN x), .int (nI s0)]) ++ List.replicate (3 - (lg_sl ([.long (lN x), .int (nI s0)])).length) Slot.unset).toArray = ls at hl ⊢
  have hl : lv_has ls 3 [(0, .long (lN x)), (2, .int (nI s0))] := hl
  refine lv_lload_n hx hb dX5_wordOf_0 rfl (lv_at hl 0 rfl) ?_
  refine lv_iload_n hx hb dX5_wordOf_1 rfl (lv_at hl 1 rfl) ?_
  refine lv_bipush (v := nI 12) hx hb dX5_wordOf_2 (by decide +kernel) ?_
  refine wk_imul hx hb dX5_wordOf_4 ?_
  refine wk_lushr hx hb (by omega) (by omega) dX5_wordOf_5 ?_
  refine lv_ldc2 (v := 4095) hx hb hown (hts (.constantLong RX5 11 (4095)) (by decide +kernel)) dX5_wordOf_6 ?_
  refine wk_tl (v' := lN 4095) (by decide +kernel) ?_
  refine lv_land hx hb dX5_wordOf_9 ?_
  refine wk_tl (v' := lN (x / 2 ^ (s0 * 12) % 4096)) (wb_mask (k := 12) (by have := Nat.div_le_self x (2 ^ (s0 * 12)); omega) (by decide)) ?_
  refine wk_l2i hx hb dX5_wordOf_10 ?_
  refine wk_ti (v' := nI (yw x s0)) (rfl) ?_
  exact W.iret hx hb hr (fun t9 ht _ => ⟨rfl, ht⟩) (fun _ h => nomatch h) dX5_wordOf_11
set_option maxHeartbeats 4000000 in
set_option maxRecDepth 100000 in
/-- rankIn -/
theorem c_X5_rankIn (l : Launch) (w j : Nat) (hw0 : w < 2 ^ 32) (hj0 : j < 8) : Met l yX5_rankIn wsX5_rankIn ({ frames := 0, cells := 0, slots := 0, locals := 0 }) (va_Pc [.int (nI w), .int (nI j)] (fun _ => True)) (pu_Q (.int (nI (yr w j)))) 0 0 (fun _ => False) := by
  refine Met.ofW (cc := cX5_rankIn) (maxL := 2) (ret := (some .int)) (by decide) rfl ?_
  intro p e s m args below meth c s₁ B hml hv
  obtain ⟨rfl, -⟩ := hv
  have hx := B.exec
  have hb := B.bytes
  have hr := B.returns
  have hts := atoms_spec (ws := wsX5_rankIn) B.pre
  have hown : s.vm.findClass RX5 = some m.cls := findClass_of_methodNamed B.named
  have hlocks := B.notSynchronized
  have hl := lv_entry ([.int (nI w), .int (nI j)]) (n := 2) (Nat.le_of_ble_eq_true rfl)
  rw [lg_entry_eq]
  generalize (lg_sl ([.int (nI w), .int (nI j)]) ++ List.replicate (2 - (lg_sl ([.int (nI w), .int (nI j)])).length) Slot.unset).toArray = ls at hl ⊢
  have hl : lv_has ls 2 [(0, .int (nI w)), (1, .int (nI j))] := hl
  refine lv_iload_n hx hb dX5_rankIn_0 rfl (lv_at hl 0 rfl) ?_
  refine lv_iload_n hx hb dX5_rankIn_1 rfl (lv_at hl 1 rfl) ?_
  refine lv_iconst (v := nI 3) hx hb dX5_rankIn_2 (by decide +kernel) ?_
  refine wk_imul hx hb dX5_rankIn_3 ?_
  refine wk_iushr hx hb (by omega) (by omega) dX5_rankIn_4 ?_
  refine lv_bipush (v := nI 7) hx hb dX5_rankIn_5 (by decide +kernel) ?_
  refine wk_and7 hx hb dX5_rankIn_7 ?_
  refine wk_ti (v' := nI (yr w j)) (rfl) ?_
  exact W.iret hx hb hr (fun t9 ht _ => ⟨rfl, ht⟩) (fun _ h => nomatch h) dX5_rankIn_8
set_option maxHeartbeats 4000000 in
set_option maxRecDepth 100000 in
/-- sizeOf -/
theorem c_X5_sizeOf (l : Launch) (w : Nat) (hw0 : w < 2 ^ 32) : Met l yX5_sizeOf wsX5_sizeOf ({ frames := 1, cells := 0, slots := 0, locals := 21 }) (va_Pc [.int (nI w)] (fun _ => True)) (pu_Q (.int (nI (ysz w)))) 0 0 (fun _ => False) := by
  refine Met.ofW (cc := cX5_sizeOf) (maxL := 2) (ret := (some .int)) (by decide) rfl ?_
  intro p e s m args below meth c s₁ B hml hv
  obtain ⟨rfl, -⟩ := hv
  have hx := B.exec
  have hb := B.bytes
  have hr := B.returns
  have hts := atoms_spec (ws := wsX5_sizeOf) B.pre
  have hown : s.vm.findClass RX5 = some m.cls := findClass_of_methodNamed B.named
  have hlocks := B.notSynchronized
  have hl := lv_entry ([.int (nI w)]) (n := 2) (Nat.le_of_ble_eq_true rfl)
  rw [lg_entry_eq]
  generalize (lg_sl ([.int (nI w)]) ++ List.replicate (2 - (lg_sl ([.int (nI w)])).length) Slot.unset).toArray = ls at hl ⊢
  have hl : lv_has ls 2 [(0, .int (nI w))] := hl
  refine lv_iconst (v := nI 0) hx hb dX5_sizeOf_0 (by decide +kernel) ?_
  refine lv_istore_n (lv' := [(1, .int (nI 0)), (0, .int (nI w))]) hx hb dX5_sizeOf_1 rfl hl (by decide) rfl (fun ls hl => ?_)
  have cut_2 : ∀ (n_2 : Nat) (k : Nat) (v2_0 : Int32) (v2_1 : Int32) (ls : Array Slot) (hk : k ≤ 4) (hj : ∀ j, j < k → yr w j ≠ 0) (hn_2 : 4 - k < n_2) (_ : v2_0 = nI w) (_ : v2_1 = nI k) (_ : lv_has ls 2 [(0, .int v2_0), (1, .int v2_1)]), W p l e (headSpec wsX5_sizeOf ({ frames := 1, cells := 0, slots := 0, locals := 21 })).room s m ([.int (nI w)] : List Value).toArray below meth c s.heap [] 0 0 (MQ below (pu_Q (.int (nI (ysz w)))) ([.int (nI w)] : List Value).toArray s 0 0 (fun _ => False)) (F0 m 2 ls []) := by
    intro n_2
    induction n_2 with
    | zero => intros; omega
    | succ n_2 ih_2 =>
      rintro k v2_0 v2_1 ls hk hj hn_2 rfl rfl hl
      refine lv_iload_n hx hb dX5_sizeOf_2 rfl (lv_at hl 1 rfl) ?_
      refine lv_iconst (v := nI 4) hx hb dX5_sizeOf_3 (by decide +kernel) ?_
      refine wk_icmp_ge (tgt := 21) hx hb (by omega) (by omega) dX5_sizeOf_4 (by decide) (fun c_4 => ?_) (fun c_4 => ?_)
      · refine lv_iload_n hx hb dX5_sizeOf_21 rfl (lv_at hl 1 rfl) ?_
        refine wk_ti (v' := nI (ysz w)) (by rw [ysz_of hj hk (fun _ => by first | exact c_12 | omega)]) ?_
        exact W.iret hx hb hr (fun t9 ht _ => ⟨rfl, ht⟩) (fun _ h => nomatch h) dX5_sizeOf_22
      · refine lv_iload_n hx hb dX5_sizeOf_7 rfl (lv_at hl 0 rfl) ?_
        refine lv_iload_n hx hb dX5_sizeOf_8 rfl (lv_at hl 1 rfl) ?_
        refine pu_go (va_runS (As := [.int (nI w), .int (nI k)]) (rest := []) ⟨hx, hb, hml, hown, hts⟩ (c_X5_rankIn l w k (by first | omega | assumption) (by first | omega | assumption)) (va_cwS 2 hts gX5_sizeOf_X5_rankIn rfl rfl rfl (by decide +kernel) ⟨Nat.le_of_ble_eq_true rfl, Nat.le_of_ble_eq_true rfl⟩) ⟨fun _ _ _ _ q => q, fun _ _ _ => ⟨rfl, trivial⟩⟩ rfl rfl hl.1 rfl (lv_room (Nat.le_of_ble_eq_true rfl)) dX5_sizeOf_9 ⟨Nat.le_refl _, Nat.le_refl _⟩) ?_
        refine wk_if_eq (tgt := 21) hx hb (by have := yr_lt w k; omega) dX5_sizeOf_12 (by decide) (fun c_12 => ?_) (fun c_12 => ?_)
        · refine lv_iload_n hx hb dX5_sizeOf_21 rfl (lv_at hl 1 rfl) ?_
          refine wk_ti (v' := nI (ysz w)) (by rw [ysz_of hj hk (fun _ => by first | exact c_12 | omega)]) ?_
          exact W.iret hx hb hr (fun t9 ht _ => ⟨rfl, ht⟩) (fun _ h => nomatch h) dX5_sizeOf_22
        · refine lv_iinc (v := nI (k + 1)) (lv' := [(1, .int (nI (k + 1))), (0, .int (nI w))]) hx hb dX5_sizeOf_15 hl (k := 1) rfl (wk_inc _ 1 rfl) (by decide) rfl (fun ls hl => ?_)
          refine lv_goto (tgt := 2) hx hb dX5_sizeOf_18 (by decide) ?_
          exact ih_2 (k + 1) _ _ ls (by omega) (lt_s hj c_12) (by omega) (rfl) (rfl) (lv_sub hl [1, 0] rfl)
  exact cut_2 (4 + 1) 0 _ _ ls (by omega) (fun j h => by omega) (by omega) (rfl) (rfl) (lv_sub hl [1, 0] rfl)
set_option maxHeartbeats 4000000 in
set_option maxRecDepth 100000 in
/-- isFull -/
theorem c_X5_isFull (l : Launch) (w t0 : Nat) (hw0 : w < 2 ^ 32) (ht0 : 0 < t0 ∧ t0 < 8) : Met l yX5_isFull wsX5_isFull ({ frames := 1, cells := 0, slots := 0, locals := 21 }) (va_Pc [.int (nI w), .int (nI t0)] (fun _ => True)) (pu_Q (.int (nI (bn (yr w (t0 - 1) ≠ 0))))) 0 0 (fun _ => False) := by
  refine Met.ofW (cc := cX5_isFull) (maxL := 2) (ret := (some .boolean)) (by decide) rfl ?_
  intro p e s m args below meth c s₁ B hml hv
  obtain ⟨rfl, -⟩ := hv
  have hx := B.exec
  have hb := B.bytes
  have hr := B.returns
  have hts := atoms_spec (ws := wsX5_isFull) B.pre
  have hown : s.vm.findClass RX5 = some m.cls := findClass_of_methodNamed B.named
  have hlocks := B.notSynchronized
  have hl := lv_entry ([.int (nI w), .int (nI t0)]) (n := 2) (Nat.le_of_ble_eq_true rfl)
  rw [lg_entry_eq]
  generalize (lg_sl ([.int (nI w), .int (nI t0)]) ++ List.replicate (2 - (lg_sl ([.int (nI w), .int (nI t0)])).length) Slot.unset).toArray = ls at hl ⊢
  have hl : lv_has ls 2 [(0, .int (nI w)), (1, .int (nI t0))] := hl
  refine lv_iload_n hx hb dX5_isFull_0 rfl (lv_at hl 0 rfl) ?_
  refine lv_iload_n hx hb dX5_isFull_1 rfl (lv_at hl 1 rfl) ?_
  refine lv_iconst (v := nI 1) hx hb dX5_isFull_2 (by decide +kernel) ?_
  refine wk_isub hx hb (by omega) dX5_isFull_3 ?_
  refine pu_go (va_runS (As := [.int (nI w), .int (nI (t0 - 1))]) (rest := []) ⟨hx, hb, hml, hown, hts⟩ (c_X5_rankIn l w (t0 - 1) (by first | omega | assumption) (by first | omega | assumption)) (va_cwS 2 hts gX5_isFull_X5_rankIn rfl rfl rfl (by decide +kernel) ⟨Nat.le_of_ble_eq_true rfl, Nat.le_of_ble_eq_true rfl⟩) ⟨fun _ _ _ _ q => q, fun _ _ _ => ⟨rfl, trivial⟩⟩ rfl rfl hl.1 rfl (lv_room (Nat.le_of_ble_eq_true rfl)) dX5_isFull_4 ⟨Nat.le_refl _, Nat.le_refl _⟩) ?_
  refine wk_if_eq (tgt := 14) hx hb (by have := yr_lt w (t0 - 1); omega) dX5_isFull_7 (by decide) (fun c_7 => ?_) (fun c_7 => ?_)
  · refine lv_iconst (v := nI 0) hx hb dX5_isFull_14 (by decide +kernel) ?_
    refine wk_ti (v' := nI (bn (yr w (t0 - 1) ≠ 0))) (by rw [bn_f (fun q => q c_7)]) ?_
    exact W.zret hx hb hr (bn_nar _) (fun t9 ht _ => ⟨rfl, ht⟩) (fun _ h => nomatch h) dX5_isFull_15
  · refine lv_iconst (v := nI 1) hx hb dX5_isFull_10 (by decide +kernel) ?_
    refine lv_goto (tgt := 15) hx hb dX5_isFull_11 (by decide) ?_
    refine wk_ti (v' := nI (bn (yr w (t0 - 1) ≠ 0))) (by rw [bn_t c_7]) ?_
    exact W.zret hx hb hr (bn_nar _) (fun t9 ht _ => ⟨rfl, ht⟩) (fun _ h => nomatch h) dX5_isFull_15
set_option maxHeartbeats 4000000 in
set_option maxRecDepth 100000 in
/-- withWord -/
theorem c_X5_withWord (l : Launch) (x s0 w : Nat) (hx0 : x < 2 ^ 48) (hs0 : s0 < 4) (hw0 : w < 2 ^ 31) : Met l yX5_withWord wsX5_withWord ({ frames := 0, cells := 0, slots := 0, locals := 0 }) (va_Pc [.long (lN x), .int (nI s0), .int (nI w)] (fun _ => True)) (pu_Q (.long (lN (yww x s0 w)))) 0 0 (fun _ => False) := by
  refine Met.ofW (cc := cX5_withWord) (maxL := 5) (ret := (some .long)) (by decide) rfl ?_
  intro p e s m args below meth c s₁ B hml hv
  obtain ⟨rfl, -⟩ := hv
  have hx := B.exec
  have hb := B.bytes
  have hr := B.returns
  have hts := atoms_spec (ws := wsX5_withWord) B.pre
  have hown : s.vm.findClass RX5 = some m.cls := findClass_of_methodNamed B.named
  have hlocks := B.notSynchronized
  have hl := lv_entry ([.long (lN x), .int (nI s0), .int (nI w)]) (n := 5) (Nat.le_of_ble_eq_true rfl)
  rw [lg_entry_eq]
  generalize (lg_sl ([.long (lN x), .int (nI s0), .int (nI w)]) ++ List.replicate (5 - (lg_sl ([.long (lN x), .int (nI s0), .int (nI w)])).length) Slot.unset).toArray = ls at hl ⊢
  have hl : lv_has ls 5 [(0, .long (lN x)), (2, .int (nI s0)), (3, .int (nI w))] := hl
  refine lv_iload_n hx hb dX5_withWord_0 rfl (lv_at hl 1 rfl) ?_
  refine lv_bipush (v := nI 12) hx hb dX5_withWord_1 (by decide +kernel) ?_
  refine wk_imul hx hb dX5_withWord_3 ?_
  refine lv_istore (lv' := [(4, .int (nI (s0 * 12))), (0, .long (lN x)), (2, .int (nI s0)), (3, .int (nI w))]) hx hb dX5_withWord_4 hl (by decide) rfl (fun ls hl => ?_)
  refine lv_lload_n hx hb dX5_withWord_6 rfl (lv_at hl 1 rfl) ?_
  refine lv_ldc2 (v := 4095) hx hb hown (hts (.constantLong RX5 11 (4095)) (by decide +kernel)) dX5_withWord_7 ?_
  refine wk_tl (v' := lN 4095) (by decide +kernel) ?_
  refine lv_iload hx hb dX5_withWord_10 (lv_at hl 0 rfl) ?_
  refine wk_lshl hx hb (by omega) dX5_withWord_12 ?_
  refine lv_ldc2 (v := (-1)) hx hb hown (hts (.constantLong RX5 51 (-1)) (by decide +kernel)) dX5_withWord_13 ?_
  refine lv_lxor hx hb dX5_withWord_16 ?_
  refine lv_land hx hb dX5_withWord_17 ?_
  refine lv_iload_n hx hb dX5_withWord_18 rfl (lv_at hl 3 rfl) ?_
  refine wk_i2l hx hb (by omega) dX5_withWord_19 ?_
  refine lv_ldc2 (v := 4095) hx hb hown (hts (.constantLong RX5 11 (4095)) (by decide +kernel)) dX5_withWord_20 ?_
  refine wk_tl (v' := lN 4095) (by decide +kernel) ?_
  refine lv_land hx hb dX5_withWord_23 ?_
  refine wk_tl (v' := lN (w % 4096)) (wb_mask (k := 12) (by omega) (by decide)) ?_
  refine lv_iload hx hb dX5_withWord_24 (lv_at hl 0 rfl) ?_
  refine wk_lshl hx hb (by omega) dX5_withWord_26 ?_
  refine lv_lor hx hb dX5_withWord_27 ?_
  refine wk_tl (v' := lN (yww x s0 w)) (yww_eq hx0 hs0) ?_
  exact W.lret hx hb hr (fun t9 ht _ => ⟨rfl, ht⟩) (fun _ h => nomatch h) dX5_withWord_28
set_option maxHeartbeats 4000000 in
set_option maxRecDepth 100000 in
/-- laid -/
theorem c_X5_laid (l : Launch) (x s0 r : Nat) (hx0 : x < 2 ^ 48) (hs0 : s0 < 4) (hr0 : r < 8) : Met l yX5_laid wsX5_laid ({ frames := 1, cells := 0, slots := 0, locals := 24 }) (va_Pc [.long (lN x), .int (nI s0), .int (nI r)] (fun _ => True)) (pu_Q (.long (lN (ylaid x s0 r)))) 0 0 (fun _ => False) := by
  refine Met.ofW (cc := cX5_laid) (maxL := 4) (ret := (some .long)) (by decide) rfl ?_
  intro p e s m args below meth c s₁ B hml hv
  obtain ⟨rfl, -⟩ := hv
  have hx := B.exec
  have hb := B.bytes
  have hr := B.returns
  have hts := atoms_spec (ws := wsX5_laid) B.pre
  have hown : s.vm.findClass RX5 = some m.cls := findClass_of_methodNamed B.named
  have hlocks := B.notSynchronized
  have hl := lv_entry ([.long (lN x), .int (nI s0), .int (nI r)]) (n := 4) (Nat.le_of_ble_eq_true rfl)
  rw [lg_entry_eq]
  generalize (lg_sl ([.long (lN x), .int (nI s0), .int (nI r)]) ++ List.replicate (4 - (lg_sl ([.long (lN x), .int (nI s0), .int (nI r)])).length) Slot.unset).toArray = ls at hl ⊢
  have hl : lv_has ls 4 [(0, .long (lN x)), (2, .int (nI s0)), (3, .int (nI r))] := hl
  have hq := yw_lt x s0
  refine lv_lload_n hx hb dX5_laid_0 rfl (lv_at hl 0 rfl) ?_
  refine lv_iload_n hx hb dX5_laid_1 rfl (lv_at hl 1 rfl) ?_
  refine lv_lload_n hx hb dX5_laid_2 rfl (lv_at hl 0 rfl) ?_
  refine lv_iload_n hx hb dX5_laid_3 rfl (lv_at hl 1 rfl) ?_
  refine pu_go (va_runS (As := [.long (lN x), .int (nI s0)]) (rest := [.int (nI s0), .long (lN x)]) ⟨hx, hb, hml, hown, hts⟩ (c_X5_wordOf l x s0 (by first | omega | assumption) (by first | omega | assumption)) (va_cwS 2 hts gX5_laid_X5_wordOf rfl rfl rfl (by decide +kernel) ⟨Nat.le_of_ble_eq_true rfl, Nat.le_of_ble_eq_true rfl⟩) ⟨fun _ _ _ _ q => q, fun _ _ _ => ⟨rfl, trivial⟩⟩ rfl rfl hl.1 rfl (lv_room (Nat.le_of_ble_eq_true rfl)) dX5_laid_4 ⟨Nat.le_refl _, Nat.le_refl _⟩) ?_
  refine lv_iconst (v := nI 3) hx hb dX5_laid_7 (by decide +kernel) ?_
  refine wk_ishl hx hb (by omega) (by omega) dX5_laid_8 ?_
  refine lv_iload_n hx hb dX5_laid_9 rfl (lv_at hl 2 rfl) ?_
  refine lv_ior hx hb dX5_laid_10 ?_
  refine wk_ti (v' := nI (yw x s0 * 8 + r)) (or3 hq hr0) ?_
  refine pu_go (va_runS (As := [.long (lN x), .int (nI s0), .int (nI (yw x s0 * 8 + r))]) (rest := []) ⟨hx, hb, hml, hown, hts⟩ (c_X5_withWord l x s0 (yw x s0 * 8 + r) (by first | omega | assumption) (by omega) (by omega)) (va_cwS 3 hts gX5_laid_X5_withWord rfl rfl rfl (by decide +kernel) ⟨Nat.le_of_ble_eq_true rfl, Nat.le_of_ble_eq_true rfl⟩) ⟨fun _ _ _ _ q => q, fun _ _ _ => ⟨rfl, trivial⟩⟩ rfl rfl hl.1 rfl (lv_room (Nat.le_of_ble_eq_true rfl)) dX5_laid_11 ⟨Nat.le_refl _, Nat.le_refl _⟩) ?_
  refine wk_tl (v' := lN (ylaid x s0 r)) (rfl) ?_
  exact W.lret hx hb hr (fun t9 ht _ => ⟨rfl, ht⟩) (fun _ h => nomatch h) dX5_laid_14
set_option maxHeartbeats 4000000 in
set_option maxRecDepth 100000 in
/-- lifted -/
theorem c_X5_lifted (l : Launch) (x s0 : Nat) (hx0 : x < 2 ^ 48) (hs0 : s0 < 4) : Met l yX5_lifted wsX5_lifted ({ frames := 1, cells := 0, slots := 0, locals := 24 }) (va_Pc [.long (lN x), .int (nI s0)] (fun _ => True)) (pu_Q (.long (lN (ylift x s0)))) 0 0 (fun _ => False) := by
  refine Met.ofW (cc := cX5_lifted) (maxL := 3) (ret := (some .long)) (by decide) rfl ?_
  intro p e s m args below meth c s₁ B hml hv
  obtain ⟨rfl, -⟩ := hv
  have hx := B.exec
  have hb := B.bytes
  have hr := B.returns
  have hts := atoms_spec (ws := wsX5_lifted) B.pre
  have hown : s.vm.findClass RX5 = some m.cls := findClass_of_methodNamed B.named
  have hlocks := B.notSynchronized
  have hl := lv_entry ([.long (lN x), .int (nI s0)]) (n := 3) (Nat.le_of_ble_eq_true rfl)
  rw [lg_entry_eq]
  generalize (lg_sl ([.long (lN x), .int (nI s0)]) ++ List.replicate (3 - (lg_sl ([.long (lN x), .int (nI s0)])).length) Slot.unset).toArray = ls at hl ⊢
  have hl : lv_has ls 3 [(0, .long (lN x)), (2, .int (nI s0))] := hl
  have hq := yw_lt x s0
  refine lv_lload_n hx hb dX5_lifted_0 rfl (lv_at hl 0 rfl) ?_
  refine lv_iload_n hx hb dX5_lifted_1 rfl (lv_at hl 1 rfl) ?_
  refine lv_lload_n hx hb dX5_lifted_2 rfl (lv_at hl 0 rfl) ?_
  refine lv_iload_n hx hb dX5_lifted_3 rfl (lv_at hl 1 rfl) ?_
  refine pu_go (va_runS (As := [.long (lN x), .int (nI s0)]) (rest := [.int (nI s0), .long (lN x)]) ⟨hx, hb, hml, hown, hts⟩ (c_X5_wordOf l x s0 (by first | omega | assumption) (by first | omega | assumption)) (va_cwS 2 hts gX5_lifted_X5_wordOf rfl rfl rfl (by decide +kernel) ⟨Nat.le_of_ble_eq_true rfl, Nat.le_of_ble_eq_true rfl⟩) ⟨fun _ _ _ _ q => q, fun _ _ _ => ⟨rfl, trivial⟩⟩ rfl rfl hl.1 rfl (lv_room (Nat.le_of_ble_eq_true rfl)) dX5_lifted_4 ⟨Nat.le_refl _, Nat.le_refl _⟩) ?_
  refine lv_iconst (v := nI 3) hx hb dX5_lifted_7 (by decide +kernel) ?_
  refine wk_iushr hx hb (by omega) (by omega) dX5_lifted_8 ?_
  refine pu_go (va_runS (As := [.long (lN x), .int (nI s0), .int (nI ((yw x s0) / 2 ^ 3))]) (rest := []) ⟨hx, hb, hml, hown, hts⟩ (c_X5_withWord l x s0 ((yw x s0) / 2 ^ 3) (by first | omega | assumption) (by omega) (by omega)) (va_cwS 3 hts gX5_lifted_X5_withWord rfl rfl rfl (by decide +kernel) ⟨Nat.le_of_ble_eq_true rfl, Nat.le_of_ble_eq_true rfl⟩) ⟨fun _ _ _ _ q => q, fun _ _ _ => ⟨rfl, trivial⟩⟩ rfl rfl hl.1 rfl (lv_room (Nat.le_of_ble_eq_true rfl)) dX5_lifted_9 ⟨Nat.le_refl _, Nat.le_refl _⟩) ?_
  refine wk_tl (v' := lN (ylift x s0)) (rfl) ?_
  exact W.lret hx hb hr (fun t9 ht _ => ⟨rfl, ht⟩) (fun _ h => nomatch h) dX5_lifted_12
set_option maxHeartbeats 4000000 in
set_option maxRecDepth 100000 in
/-- shifted -/
theorem c_X5_shifted (l : Launch) (x a b : Nat) (hx0 : x < 2 ^ 48) (ha0 : a < 4) (hb0 : b < 4) : Met l yX5_shifted wsX5_shifted ({ frames := 2, cells := 0, slots := 0, locals := 47 }) (va_Pc [.long (lN x), .int (nI a), .int (nI b)] (fun _ => True)) (pu_Q (.long (lN (yshift x a b)))) 0 0 (fun _ => False) := by
  refine Met.ofW (cc := cX5_shifted) (maxL := 4) (ret := (some .long)) (by decide) rfl ?_
  intro p e s m args below meth c s₁ B hml hv
  obtain ⟨rfl, -⟩ := hv
  have hx := B.exec
  have hb := B.bytes
  have hr := B.returns
  have hts := atoms_spec (ws := wsX5_shifted) B.pre
  have hown : s.vm.findClass RX5 = some m.cls := findClass_of_methodNamed B.named
  have hlocks := B.notSynchronized
  have hl := lv_entry ([.long (lN x), .int (nI a), .int (nI b)]) (n := 4) (Nat.le_of_ble_eq_true rfl)
  rw [lg_entry_eq]
  generalize (lg_sl ([.long (lN x), .int (nI a), .int (nI b)]) ++ List.replicate (4 - (lg_sl ([.long (lN x), .int (nI a), .int (nI b)])).length) Slot.unset).toArray = ls at hl ⊢
  have hl : lv_has ls 4 [(0, .long (lN x)), (2, .int (nI a)), (3, .int (nI b))] := hl
  have hq := yw_lt x a
  have hq2 := yr_lt (yw x a) 0
  have hq3 := ylift_lt hx0 ha0
  refine lv_lload_n hx hb dX5_shifted_0 rfl (lv_at hl 0 rfl) ?_
  refine lv_iload_n hx hb dX5_shifted_1 rfl (lv_at hl 1 rfl) ?_
  refine pu_go (va_runS (As := [.long (lN x), .int (nI a)]) (rest := []) ⟨hx, hb, hml, hown, hts⟩ (c_X5_lifted l x a (by first | omega | assumption) (by first | omega | assumption)) (va_cwS 2 hts gX5_shifted_X5_lifted rfl rfl rfl (by decide +kernel) ⟨Nat.le_of_ble_eq_true rfl, Nat.le_of_ble_eq_true rfl⟩) ⟨fun _ _ _ _ q => q, fun _ _ _ => ⟨rfl, trivial⟩⟩ rfl rfl hl.1 rfl (lv_room (Nat.le_of_ble_eq_true rfl)) dX5_shifted_2 ⟨Nat.le_refl _, Nat.le_refl _⟩) ?_
  refine lv_iload_n hx hb dX5_shifted_5 rfl (lv_at hl 2 rfl) ?_
  refine lv_lload_n hx hb dX5_shifted_6 rfl (lv_at hl 0 rfl) ?_
  refine lv_iload_n hx hb dX5_shifted_7 rfl (lv_at hl 1 rfl) ?_
  refine pu_go (va_runS (As := [.long (lN x), .int (nI a)]) (rest := [.int (nI b), .long (lN (ylift x a))]) ⟨hx, hb, hml, hown, hts⟩ (c_X5_wordOf l x a (by first | omega | assumption) (by first | omega | assumption)) (va_cwS 2 hts gX5_shifted_X5_wordOf rfl rfl rfl (by decide +kernel) ⟨Nat.le_of_ble_eq_true rfl, Nat.le_of_ble_eq_true rfl⟩) ⟨fun _ _ _ _ q => q, fun _ _ _ => ⟨rfl, trivial⟩⟩ rfl rfl hl.1 rfl (lv_room (Nat.le_of_ble_eq_true rfl)) dX5_shifted_8 ⟨Nat.le_refl _, Nat.le_refl _⟩) ?_
  refine lv_iconst (v := nI 0) hx hb dX5_shifted_11 (by decide +kernel) ?_
  refine pu_go (va_runS (As := [.int (nI (yw x a)), .int (nI 0)]) (rest := [.int (nI b), .long (lN (ylift x a))]) ⟨hx, hb, hml, hown, hts⟩ (c_X5_rankIn l (yw x a) 0 (by first | omega | assumption) (by first | omega | assumption)) (va_cwS 2 hts gX5_shifted_X5_rankIn rfl rfl rfl (by decide +kernel) ⟨Nat.le_of_ble_eq_true rfl, Nat.le_of_ble_eq_true rfl⟩) ⟨fun _ _ _ _ q => q, fun _ _ _ => ⟨rfl, trivial⟩⟩ rfl rfl hl.1 rfl (lv_room (Nat.le_of_ble_eq_true rfl)) dX5_shifted_12 ⟨Nat.le_refl _, Nat.le_refl _⟩) ?_
  refine pu_go (va_runS (As := [.long (lN (ylift x a)), .int (nI b), .int (nI (yr (yw x a) 0))]) (rest := []) ⟨hx, hb, hml, hown, hts⟩ (c_X5_laid l (ylift x a) b (yr (yw x a) 0) (by first | omega | assumption) (by omega) (by omega)) (va_cwS 3 hts gX5_shifted_X5_laid rfl rfl rfl (by decide +kernel) ⟨Nat.le_of_ble_eq_true rfl, Nat.le_of_ble_eq_true rfl⟩) ⟨fun _ _ _ _ q => q, fun _ _ _ => ⟨rfl, trivial⟩⟩ rfl rfl hl.1 rfl (lv_room (Nat.le_of_ble_eq_true rfl)) dX5_shifted_15 ⟨Nat.le_refl _, Nat.le_refl _⟩) ?_
  refine wk_tl (v' := lN (yshift x a b)) (rfl) ?_
  exact W.lret hx hb hr (fun t9 ht _ => ⟨rfl, ht⟩) (fun _ h => nomatch h) dX5_shifted_18
set_option maxHeartbeats 4000000 in
set_option maxRecDepth 100000 in
/-- leastRank -/
theorem c_X5_leastRank (l : Launch) (w : Nat) (hw0 : w < 2 ^ 32) : Met l yX5_leastRank wsX5_leastRank ({ frames := 1, cells := 0, slots := 0, locals := 21 }) (va_Pc [.int (nI w)] (fun _ => True)) (pu_Q (.int (nI (ylo w 4)))) 0 0 (fun _ => False) := by
  refine Met.ofW (cc := cX5_leastRank) (maxL := 4) (ret := (some .int)) (by decide) rfl ?_
  intro p e s m args below meth c s₁ B hml hv
  obtain ⟨rfl, -⟩ := hv
  have hx := B.exec
  have hb := B.bytes
  have hr := B.returns
  have hts := atoms_spec (ws := wsX5_leastRank) B.pre
  have hown : s.vm.findClass RX5 = some m.cls := findClass_of_methodNamed B.named
  have hlocks := B.notSynchronized
  have hl := lv_entry ([.int (nI w)]) (n := 4) (Nat.le_of_ble_eq_true rfl)
  rw [lg_entry_eq]
  generalize (lg_sl ([.int (nI w)]) ++ List.replicate (4 - (lg_sl ([.int (nI w)])).length) Slot.unset).toArray = ls at hl ⊢
  have hl : lv_has ls 4 [(0, .int (nI w))] := hl
  refine lv_bipush (v := nI 7) hx hb dX5_leastRank_0 (by decide +kernel) ?_
  refine lv_istore_n (lv' := [(1, .int (nI 7)), (0, .int (nI w))]) hx hb dX5_leastRank_2 rfl hl (by decide) rfl (fun ls hl => ?_)
  refine lv_iconst (v := nI 0) hx hb dX5_leastRank_3 (by decide +kernel) ?_
  refine lv_istore_n (lv' := [(2, .int (nI 0)), (1, .int (nI 7)), (0, .int (nI w))]) hx hb dX5_leastRank_4 rfl hl (by decide) rfl (fun ls hl => ?_)
  have cut_5 : ∀ (n_5 : Nat) (k : Nat) (v5_0 : Int32) (v5_1 : Int32) (v5_2 : Int32) (ls : Array Slot) (hk : k ≤ 4) (hn_5 : 4 - k < n_5) (_ : v5_0 = nI w) (_ : v5_1 = nI (ylo w k)) (_ : v5_2 = nI k) (_ : lv_has ls 4 [(0, .int v5_0), (1, .int v5_1), (2, .int v5_2)]), W p l e (headSpec wsX5_leastRank ({ frames := 1, cells := 0, slots := 0, locals := 21 })).room s m ([.int (nI w)] : List Value).toArray below meth c s.heap [] 0 0 (MQ below (pu_Q (.int (nI (ylo w 4)))) ([.int (nI w)] : List Value).toArray s 0 0 (fun _ => False)) (F0 m 5 ls []) := by
    intro n_5
    induction n_5 with
    | zero => intros; omega
    | succ n_5 ih_5 =>
      rintro k v5_0 v5_1 v5_2 ls hk hn_5 rfl rfl rfl hl
      have hq1 := yr_lt w k
      have hq2 := ylo_lt w k
      refine lv_iload_n hx hb dX5_leastRank_5 rfl (lv_at hl 2 rfl) ?_
      refine lv_iconst (v := nI 4) hx hb dX5_leastRank_6 (by decide +kernel) ?_
      refine wk_icmp_ge (tgt := 37) hx hb (by omega) (by omega) dX5_leastRank_7 (by decide) (fun c_7 => ?_) (fun c_7 => ?_)
      · refine lv_iload_n hx hb dX5_leastRank_37 rfl (lv_at hl 1 rfl) ?_
        refine wk_ti (v' := nI (ylo w 4)) (by rw [show k = 4 by omega]) ?_
        exact W.iret hx hb hr (fun t9 ht _ => ⟨rfl, ht⟩) (fun _ h => nomatch h) dX5_leastRank_38
      · refine lv_iload_n hx hb dX5_leastRank_10 rfl (lv_at hl 0 rfl) ?_
        refine lv_iload_n hx hb dX5_leastRank_11 rfl (lv_at hl 2 rfl) ?_
        refine pu_go (va_runS (As := [.int (nI w), .int (nI k)]) (rest := []) ⟨hx, hb, hml, hown, hts⟩ (c_X5_rankIn l w k (by first | omega | assumption) (by first | omega | assumption)) (va_cwS 2 hts gX5_leastRank_X5_rankIn rfl rfl rfl (by decide +kernel) ⟨Nat.le_of_ble_eq_true rfl, Nat.le_of_ble_eq_true rfl⟩) ⟨fun _ _ _ _ q => q, fun _ _ _ => ⟨rfl, trivial⟩⟩ rfl rfl hl.1 rfl (lv_room (Nat.le_of_ble_eq_true rfl)) dX5_leastRank_12 ⟨Nat.le_refl _, Nat.le_refl _⟩) ?_
        refine lv_istore_n (lv' := [(3, .int (nI (yr w k))), (0, .int (nI w)), (1, .int (nI (ylo w k))), (2, .int (nI k))]) hx hb dX5_leastRank_15 rfl hl (by decide) rfl (fun ls hl => ?_)
        have cut_30 : ∀ (v30_0 : Int32) (v30_1 : Int32) (v30_2 : Int32) (v30_3 : Int32) (u30_0 : Int32) (ls : Array Slot) (_ : v30_0 = nI w) (_ : v30_1 = nI (ylo w k)) (_ : v30_2 = nI k) (_ : v30_3 = nI (yr w k)) (_ : u30_0 = nI (ylo w (k + 1))) (_ : lv_has ls 4 [(0, .int v30_0), (1, .int v30_1), (2, .int v30_2), (3, .int v30_3)]), W p l e (headSpec wsX5_leastRank ({ frames := 1, cells := 0, slots := 0, locals := 21 })).room s m ([.int (nI w)] : List Value).toArray below meth c s.heap [] 0 0 (MQ below (pu_Q (.int (nI (ylo w 4)))) ([.int (nI w)] : List Value).toArray s 0 0 (fun _ => False)) (F0 m 30 ls [.int u30_0]) := by
          rintro v30_0 v30_1 v30_2 v30_3 u30_0 ls rfl rfl rfl rfl rfl hl
          refine lv_istore_n (lv' := [(1, .int (nI (ylo w (k + 1)))), (0, .int (nI w)), (2, .int (nI k)), (3, .int (nI (yr w k)))]) hx hb dX5_leastRank_30 rfl hl (by decide) rfl (fun ls hl => ?_)
          refine lv_iinc (v := nI (k + 1)) (lv' := [(2, .int (nI (k + 1))), (1, .int (nI (ylo w (k + 1)))), (0, .int (nI w)), (3, .int (nI (yr w k)))]) hx hb dX5_leastRank_31 hl (k := 2) rfl (wk_inc _ 1 rfl) (by decide) rfl (fun ls hl => ?_)
          refine lv_goto (tgt := 5) hx hb dX5_leastRank_34 (by decide) ?_
          exact ih_5 (k + 1) _ _ _ ls (by omega) (by omega) (rfl) (rfl) (rfl) (lv_sub hl [2, 1, 0] rfl)
        refine lv_iload_n hx hb dX5_leastRank_16 rfl (lv_at hl 0 rfl) ?_
        refine wk_if_eq (tgt := 29) hx hb (by omega) dX5_leastRank_17 (by decide) (fun c_17 => ?_) (fun c_17 => ?_)
        · refine lv_iload_n hx hb dX5_leastRank_29 rfl (lv_at hl 2 rfl) ?_
          exact cut_30 _ _ _ _ _ ls (rfl) (rfl) (rfl) (rfl) (by show nI _ = nI (ite _ _ _); rw [if_neg (by omega)]) (lv_sub hl [1, 2, 3, 0] rfl)
        · refine lv_iload_n hx hb dX5_leastRank_20 rfl (lv_at hl 0 rfl) ?_
          refine lv_iload_n hx hb dX5_leastRank_21 rfl (lv_at hl 2 rfl) ?_
          refine wk_icmp_ge (tgt := 29) hx hb (by omega) (by omega) dX5_leastRank_22 (by decide) (fun c_22 => ?_) (fun c_22 => ?_)
          · refine lv_iload_n hx hb dX5_leastRank_29 rfl (lv_at hl 2 rfl) ?_
            exact cut_30 _ _ _ _ _ ls (rfl) (rfl) (rfl) (rfl) (by show nI _ = nI (ite _ _ _); rw [if_neg (by omega)]) (lv_sub hl [1, 2, 3, 0] rfl)
          · refine lv_iload_n hx hb dX5_leastRank_25 rfl (lv_at hl 0 rfl) ?_
            refine lv_goto (tgt := 30) hx hb dX5_leastRank_26 (by decide) ?_
            exact cut_30 _ _ _ _ _ ls (rfl) (rfl) (rfl) (rfl) (by show nI _ = nI (ite _ _ _); rw [if_pos (by omega)]) (lv_sub hl [1, 2, 3, 0] rfl)
  exact cut_5 (4 + 1) 0 _ _ _ ls (by omega) (by omega) (rfl) (rfl) (rfl) (lv_sub hl [2, 1, 0] rfl)
set_option maxHeartbeats 4000000 in
set_option maxRecDepth 100000 in
/-- nextRank -/
theorem c_X5_nextRank (l : Launch) (x : Nat) (hx0 : x < 2 ^ 48) : Met l yX5_nextRank wsX5_nextRank ({ frames := 0, cells := 0, slots := 0, locals := 0 }) (va_Pc [.long (lN x)] (fun _ => True)) (pu_Q (.int (nI (ylo x 16)))) 0 0 (fun _ => False) := by
  refine Met.ofW (cc := cX5_nextRank) (maxL := 5) (ret := (some .int)) (by decide) rfl ?_
  intro p e s m args below meth c s₁ B hml hv
  obtain ⟨rfl, -⟩ := hv
  have hx := B.exec
  have hb := B.bytes
  have hr := B.returns
  have hts := atoms_spec (ws := wsX5_nextRank) B.pre
  have hown : s.vm.findClass RX5 = some m.cls := findClass_of_methodNamed B.named
  have hlocks := B.notSynchronized
  have hl := lv_entry ([.long (lN x)]) (n := 5) (Nat.le_of_ble_eq_true rfl)
  rw [lg_entry_eq]
  generalize (lg_sl ([.long (lN x)]) ++ List.replicate (5 - (lg_sl ([.long (lN x)])).length) Slot.unset).toArray = ls at hl ⊢
  have hl : lv_has ls 5 [(0, .long (lN x))] := hl
  refine lv_bipush (v := nI 7) hx hb dX5_nextRank_0 (by decide +kernel) ?_
  refine lv_istore_n (lv' := [(2, .int (nI 7)), (0, .long (lN x))]) hx hb dX5_nextRank_2 rfl hl (by decide) rfl (fun ls hl => ?_)
  refine lv_iconst (v := nI 0) hx hb dX5_nextRank_3 (by decide +kernel) ?_
  refine lv_istore_n (lv' := [(3, .int (nI 0)), (2, .int (nI 7)), (0, .long (lN x))]) hx hb dX5_nextRank_4 rfl hl (by decide) rfl (fun ls hl => ?_)
  have cut_5 : ∀ (n_5 : Nat) (k : Nat) (v5_0 : Int64) (v5_2 : Int32) (v5_3 : Int32) (ls : Array Slot) (hk : k ≤ 16) (hn_5 : 16 - k < n_5) (_ : v5_0 = lN x) (_ : v5_2 = nI (ylo x k)) (_ : v5_3 = nI (k * 3)) (_ : lv_has ls 5 [(0, .long v5_0), (2, .int v5_2), (3, .int v5_3)]), W p l e (headSpec wsX5_nextRank ({ frames := 0, cells := 0, slots := 0, locals := 0 })).room s m ([.long (lN x)] : List Value).toArray below meth c s.heap [] 0 0 (MQ below (pu_Q (.int (nI (ylo x 16)))) ([.long (lN x)] : List Value).toArray s 0 0 (fun _ => False)) (F0 m 5 ls []) := by
    intro n_5
    induction n_5 with
    | zero => intros; omega
    | succ n_5 ih_5 =>
      rintro k v5_0 v5_2 v5_3 ls hk hn_5 rfl rfl rfl hl
      have hq1 := yr_lt x k
      have hq2 := ylo_lt x k
      refine lv_iload_n hx hb dX5_nextRank_5 rfl (lv_at hl 2 rfl) ?_
      refine lv_bipush (v := nI 48) hx hb dX5_nextRank_6 (by decide +kernel) ?_
      refine wk_icmp_ge (tgt := 44) hx hb (by omega) (by omega) dX5_nextRank_8 (by decide) (fun c_8 => ?_) (fun c_8 => ?_)
      · refine lv_iload_n hx hb dX5_nextRank_44 rfl (lv_at hl 1 rfl) ?_
        refine wk_ti (v' := nI (ylo x 16)) (by rw [show k = 16 by omega]) ?_
        exact W.iret hx hb hr (fun t9 ht _ => ⟨rfl, ht⟩) (fun _ h => nomatch h) dX5_nextRank_45
      · refine lv_lload_n hx hb dX5_nextRank_11 rfl (lv_at hl 0 rfl) ?_
        refine lv_iload_n hx hb dX5_nextRank_12 rfl (lv_at hl 2 rfl) ?_
        refine wk_lushr hx hb (by omega) (by omega) dX5_nextRank_13 ?_
        refine wk_l2i hx hb dX5_nextRank_14 ?_
        refine lv_bipush (v := nI 7) hx hb dX5_nextRank_15 (by decide +kernel) ?_
        refine wk_and7 hx hb dX5_nextRank_17 ?_
        refine wk_ti (v' := nI (yr x k)) (rfl) ?_
        refine lv_istore (lv' := [(4, .int (nI (yr x k))), (0, .long (lN x)), (2, .int (nI (ylo x k))), (3, .int (nI (k * 3)))]) hx hb dX5_nextRank_18 hl (by decide) rfl (fun ls hl => ?_)
        have cut_37 : ∀ (v37_0 : Int64) (v37_2 : Int32) (v37_3 : Int32) (v37_4 : Int32) (u37_0 : Int32) (ls : Array Slot) (_ : v37_0 = lN x) (_ : v37_2 = nI (ylo x k)) (_ : v37_3 = nI (k * 3)) (_ : v37_4 = nI (yr x k)) (_ : u37_0 = nI (ylo x (k + 1))) (_ : lv_has ls 5 [(0, .long v37_0), (2, .int v37_2), (3, .int v37_3), (4, .int v37_4)]), W p l e (headSpec wsX5_nextRank ({ frames := 0, cells := 0, slots := 0, locals := 0 })).room s m ([.long (lN x)] : List Value).toArray below meth c s.heap [] 0 0 (MQ below (pu_Q (.int (nI (ylo x 16)))) ([.long (lN x)] : List Value).toArray s 0 0 (fun _ => False)) (F0 m 37 ls [.int u37_0]) := by
          rintro v37_0 v37_2 v37_3 v37_4 u37_0 ls rfl rfl rfl rfl rfl hl
          refine lv_istore_n (lv' := [(2, .int (nI (ylo x (k + 1)))), (0, .long (lN x)), (3, .int (nI (k * 3))), (4, .int (nI (yr x k)))]) hx hb dX5_nextRank_37 rfl hl (by decide) rfl (fun ls hl => ?_)
          refine lv_iinc (v := nI ((k * 3) + 3)) (lv' := [(3, .int (nI ((k * 3) + 3))), (2, .int (nI (ylo x (k + 1)))), (0, .long (lN x)), (4, .int (nI (yr x k)))]) hx hb dX5_nextRank_38 hl (k := 2) rfl (wk_inc _ 3 rfl) (by decide) rfl (fun ls hl => ?_)
          refine lv_goto (tgt := 5) hx hb dX5_nextRank_41 (by decide) ?_
          exact ih_5 (k + 1) _ _ _ ls (by omega) (by omega) (rfl) (rfl) (by rw [show (k + 1) * 3 = k * 3 + 3 by omega]) (lv_sub hl [2, 1, 0] rfl)
        refine lv_iload hx hb dX5_nextRank_20 (lv_at hl 0 rfl) ?_
        refine wk_if_eq (tgt := 36) hx hb (by omega) dX5_nextRank_22 (by decide) (fun c_22 => ?_) (fun c_22 => ?_)
        · refine lv_iload_n hx hb dX5_nextRank_36 rfl (lv_at hl 2 rfl) ?_
          exact cut_37 _ _ _ _ _ ls (rfl) (rfl) (rfl) (rfl) (by show nI _ = nI (ite _ _ _); rw [if_neg (by omega)]) (lv_sub hl [1, 2, 3, 0] rfl)
        · refine lv_iload hx hb dX5_nextRank_25 (lv_at hl 0 rfl) ?_
          refine lv_iload_n hx hb dX5_nextRank_27 rfl (lv_at hl 2 rfl) ?_
          refine wk_icmp_ge (tgt := 36) hx hb (by omega) (by omega) dX5_nextRank_28 (by decide) (fun c_28 => ?_) (fun c_28 => ?_)
          · refine lv_iload_n hx hb dX5_nextRank_36 rfl (lv_at hl 2 rfl) ?_
            exact cut_37 _ _ _ _ _ ls (rfl) (rfl) (rfl) (rfl) (by show nI _ = nI (ite _ _ _); rw [if_neg (by omega)]) (lv_sub hl [1, 2, 3, 0] rfl)
          · refine lv_iload hx hb dX5_nextRank_31 (lv_at hl 0 rfl) ?_
            refine lv_goto (tgt := 37) hx hb dX5_nextRank_33 (by decide) ?_
            exact cut_37 _ _ _ _ _ ls (rfl) (rfl) (rfl) (rfl) (by show nI _ = nI (ite _ _ _); rw [if_pos (by omega)]) (lv_sub hl [1, 2, 3, 0] rfl)
  exact cut_5 (16 + 1) 0 _ _ _ ls (by omega) (by omega) (rfl) (rfl) (rfl) (lv_sub hl [2, 1, 0] rfl)
set_option maxHeartbeats 4000000 in
set_option maxRecDepth 100000 in
/-- stackWithTop -/
theorem c_X5_stackWithTop (l : Launch) (x r : Nat) (hx0 : x < 2 ^ 48) (hr0 : r < 8) : Met l yX5_stackWithTop wsX5_stackWithTop ({ frames := 1, cells := 0, slots := 0, locals := 22 }) (va_Pc [.long (lN x), .int (nI r)] (fun _ => True)) (pu_Q (.int (oN (yst x r)))) 0 0 (fun _ => False) := by
  refine Met.ofW (cc := cX5_stackWithTop) (maxL := 4) (ret := (some .int)) (by decide) rfl ?_
  intro p e s m args below meth c s₁ B hml hv
  obtain ⟨rfl, -⟩ := hv
  have hx := B.exec
  have hb := B.bytes
  have hr := B.returns
  have hts := atoms_spec (ws := wsX5_stackWithTop) B.pre
  have hown : s.vm.findClass RX5 = some m.cls := findClass_of_methodNamed B.named
  have hlocks := B.notSynchronized
  have hl := lv_entry ([.long (lN x), .int (nI r)]) (n := 4) (Nat.le_of_ble_eq_true rfl)
  rw [lg_entry_eq]
  generalize (lg_sl ([.long (lN x), .int (nI r)]) ++ List.replicate (4 - (lg_sl ([.long (lN x), .int (nI r)])).length) Slot.unset).toArray = ls at hl ⊢
  have hl : lv_has ls 4 [(0, .long (lN x)), (2, .int (nI r))] := hl
  refine lv_iconst (v := nI 0) hx hb dX5_stackWithTop_0 (by decide +kernel) ?_
  refine lv_istore_n (lv' := [(3, .int (nI 0)), (0, .long (lN x)), (2, .int (nI r))]) hx hb dX5_stackWithTop_1 rfl hl (by decide) rfl (fun ls hl => ?_)
  have cut_2 : ∀ (n_2 : Nat) (k : Nat) (v2_0 : Int64) (v2_2 : Int32) (v2_3 : Int32) (ls : Array Slot) (hk : k ≤ 4) (hj : ∀ j, j < k → yr (yw x j) 0 ≠ r) (hn_2 : 4 - k < n_2) (_ : v2_0 = lN x) (_ : v2_2 = nI r) (_ : v2_3 = nI k) (_ : lv_has ls 4 [(0, .long v2_0), (2, .int v2_2), (3, .int v2_3)]), W p l e (headSpec wsX5_stackWithTop ({ frames := 1, cells := 0, slots := 0, locals := 22 })).room s m ([.long (lN x), .int (nI r)] : List Value).toArray below meth c s.heap [] 0 0 (MQ below (pu_Q (.int (oN (yst x r)))) ([.long (lN x), .int (nI r)] : List Value).toArray s 0 0 (fun _ => False)) (F0 m 2 ls []) := by
    intro n_2
    induction n_2 with
    | zero => intros; omega
    | succ n_2 ih_2 =>
      rintro k v2_0 v2_2 v2_3 ls hk hj hn_2 rfl rfl rfl hl
      have hq1 := yw_lt x k
      have hq2 := yr_lt (yw x k) 0
      refine lv_iload_n hx hb dX5_stackWithTop_2 rfl (lv_at hl 2 rfl) ?_
      refine lv_iconst (v := nI 4) hx hb dX5_stackWithTop_3 (by decide +kernel) ?_
      refine wk_icmp_ge (tgt := 28) hx hb (by omega) (by omega) dX5_stackWithTop_4 (by decide) (fun c_4 => ?_) (fun c_4 => ?_)
      · refine lv_iconst (v := -1) hx hb dX5_stackWithTop_28 (by decide +kernel) ?_
        refine wk_ti (v' := oN (yst x r)) (by rw [yst_none (fun j h => hj j (by omega))]; rfl) ?_
        exact W.iret hx hb hr (fun t9 ht _ => ⟨rfl, ht⟩) (fun _ h => nomatch h) dX5_stackWithTop_29
      · refine lv_lload_n hx hb dX5_stackWithTop_7 rfl (lv_at hl 0 rfl) ?_
        refine lv_iload_n hx hb dX5_stackWithTop_8 rfl (lv_at hl 2 rfl) ?_
        refine pu_go (va_runS (As := [.long (lN x), .int (nI k)]) (rest := []) ⟨hx, hb, hml, hown, hts⟩ (c_X5_wordOf l x k (by first | omega | assumption) (by first | omega | assumption)) (va_cwS 2 hts gX5_stackWithTop_X5_wordOf rfl rfl rfl (by decide +kernel) ⟨Nat.le_of_ble_eq_true rfl, Nat.le_of_ble_eq_true rfl⟩) ⟨fun _ _ _ _ q => q, fun _ _ _ => ⟨rfl, trivial⟩⟩ rfl rfl hl.1 rfl (lv_room (Nat.le_of_ble_eq_true rfl)) dX5_stackWithTop_9 ⟨Nat.le_refl _, Nat.le_refl _⟩) ?_
        refine lv_iconst (v := nI 0) hx hb dX5_stackWithTop_12 (by decide +kernel) ?_
        refine pu_go (va_runS (As := [.int (nI (yw x k)), .int (nI 0)]) (rest := []) ⟨hx, hb, hml, hown, hts⟩ (c_X5_rankIn l (yw x k) 0 (by first | omega | assumption) (by first | omega | assumption)) (va_cwS 2 hts gX5_stackWithTop_X5_rankIn rfl rfl rfl (by decide +kernel) ⟨Nat.le_of_ble_eq_true rfl, Nat.le_of_ble_eq_true rfl⟩) ⟨fun _ _ _ _ q => q, fun _ _ _ => ⟨rfl, trivial⟩⟩ rfl rfl hl.1 rfl (lv_room (Nat.le_of_ble_eq_true rfl)) dX5_stackWithTop_13 ⟨Nat.le_refl _, Nat.le_refl _⟩) ?_
        refine lv_iload_n hx hb dX5_stackWithTop_16 rfl (lv_at hl 1 rfl) ?_
        refine wk_icmp_ne (tgt := 22) hx hb (by omega) (by omega) dX5_stackWithTop_17 (by decide) (fun c_17 => ?_) (fun c_17 => ?_)
        · refine lv_iinc (v := nI (k + 1)) (lv' := [(3, .int (nI (k + 1))), (0, .long (lN x)), (2, .int (nI r))]) hx hb dX5_stackWithTop_22 hl (k := 2) rfl (wk_inc _ 1 rfl) (by decide) rfl (fun ls hl => ?_)
          refine lv_goto (tgt := 2) hx hb dX5_stackWithTop_25 (by decide) ?_
          exact ih_2 (k + 1) _ _ _ ls (by omega) (lt_s hj c_17) (by omega) (rfl) (rfl) (rfl) (lv_sub hl [1, 2, 0] rfl)
        · refine lv_iload_n hx hb dX5_stackWithTop_20 rfl (lv_at hl 2 rfl) ?_
          refine wk_ti (v' := oN (yst x r)) (by rw [yst_some hj c_4 c_17]; rfl) ?_
          exact W.iret hx hb hr (fun t9 ht _ => ⟨rfl, ht⟩) (fun _ h => nomatch h) dX5_stackWithTop_21
  exact cut_2 (4 + 1) 0 _ _ _ ls (by omega) (fun j h => by omega) (by omega) (rfl) (rfl) (rfl) (lv_sub hl [1, 2, 0] rfl)
set_option maxHeartbeats 4000000 in
set_option maxRecDepth 100000 in
/-- afterLeaving -/
theorem c_X5_afterLeaving (l : Launch) (x : Nat) (hx0 : x < 2 ^ 48) : Met l yX5_afterLeaving wsX5_afterLeaving ({ frames := 2, cells := 0, slots := 0, locals := 46 }) (va_Pc [.long (lN x)] (fun _ => True)) (pu_Q (.long (lN (yaf 6 x)))) 0 0 (fun _ => False) := by
  refine Met.ofW (cc := cX5_afterLeaving) (maxL := 6) (ret := (some .long)) (by decide) rfl ?_
  intro p e s m args below meth c s₁ B hml hv
  obtain ⟨rfl, -⟩ := hv
  have hx := B.exec
  have hb := B.bytes
  have hr := B.returns
  have hts := atoms_spec (ws := wsX5_afterLeaving) B.pre
  have hown : s.vm.findClass RX5 = some m.cls := findClass_of_methodNamed B.named
  have hlocks := B.notSynchronized
  have hl := lv_entry ([.long (lN x)]) (n := 6) (Nat.le_of_ble_eq_true rfl)
  rw [lg_entry_eq]
  generalize (lg_sl ([.long (lN x)]) ++ List.replicate (6 - (lg_sl ([.long (lN x)])).length) Slot.unset).toArray = ls at hl ⊢
  have hl : lv_has ls 6 [(0, .long (lN x))] := hl
  refine lv_lload_n hx hb dX5_afterLeaving_0 rfl (lv_at hl 0 rfl) ?_
  refine lv_lstore_n (lv' := [(2, .long (lN x)), (0, .long (lN x))]) hx hb dX5_afterLeaving_1 rfl hl (by decide) rfl (fun ls hl => ?_)
  refine lv_iconst (v := nI 0) hx hb dX5_afterLeaving_2 (by decide +kernel) ?_
  refine lv_istore (lv' := [(4, .int (nI 0)), (2, .long (lN x)), (0, .long (lN x))]) hx hb dX5_afterLeaving_3 hl (by decide) rfl (fun ls hl => ?_)
  have cut_5 : ∀ (n_5 : Nat) (k : Nat) (z : Nat) (v5_0 : Int64) (v5_2 : Int64) (v5_4 : Int32) (ls : Array Slot) (hk : k ≤ 6) (hz : z < 2 ^ 48) (he : yaf (6 - k) z = yaf 6 x) (hn_5 : 6 - k < n_5) (_ : v5_0 = lN x) (_ : v5_2 = lN z) (_ : v5_4 = nI k) (_ : lv_has ls 6 [(0, .long v5_0), (2, .long v5_2), (4, .int v5_4)]), W p l e (headSpec wsX5_afterLeaving ({ frames := 2, cells := 0, slots := 0, locals := 46 })).room s m ([.long (lN x)] : List Value).toArray below meth c s.heap [] 0 0 (MQ below (pu_Q (.long (lN (yaf 6 x)))) ([.long (lN x)] : List Value).toArray s 0 0 (fun _ => False)) (F0 m 5 ls []) := by
    intro n_5
    induction n_5 with
    | zero => intros; omega
    | succ n_5 ih_5 =>
      rintro k z v5_0 v5_2 v5_4 ls hk hz he hn_5 rfl rfl rfl hl
      have hq2 := ylo_lt z 16
      refine lv_iload hx hb dX5_afterLeaving_5 (lv_at hl 2 rfl) ?_
      refine lv_bipush (v := nI 6) hx hb dX5_afterLeaving_7 (by decide +kernel) ?_
      refine wk_icmp_ge (tgt := 43) hx hb (by omega) (by omega) dX5_afterLeaving_9 (by decide) (fun c_9 => ?_) (fun c_9 => ?_)
      · refine lv_lload_n hx hb dX5_afterLeaving_43 rfl (lv_at hl 1 rfl) ?_
        refine wk_tl (v' := lN (yaf 6 x)) (by rw [← he, show 6 - k = 0 by omega]; rfl) ?_
        exact W.lret hx hb hr (fun t9 ht _ => ⟨rfl, ht⟩) (fun _ h => nomatch h) dX5_afterLeaving_44
      · refine lv_lload_n hx hb dX5_afterLeaving_12 rfl (lv_at hl 1 rfl) ?_
        refine lv_lload_n hx hb dX5_afterLeaving_13 rfl (lv_at hl 1 rfl) ?_
        refine pu_go (va_runS (As := [.long (lN z)]) (rest := [.long (lN z)]) ⟨hx, hb, hml, hown, hts⟩ (c_X5_nextRank l z (by first | omega | assumption)) (va_cwS 1 hts gX5_afterLeaving_X5_nextRank rfl rfl rfl (by decide +kernel) ⟨Nat.le_of_ble_eq_true rfl, Nat.le_of_ble_eq_true rfl⟩) ⟨fun _ _ _ _ q => q, fun _ _ _ => ⟨rfl, trivial⟩⟩ rfl rfl hl.1 rfl (lv_room (Nat.le_of_ble_eq_true rfl)) dX5_afterLeaving_14 ⟨Nat.le_refl _, Nat.le_refl _⟩) ?_
        refine pu_go (va_runS (As := [.long (lN z), .int (nI (ylo z 16))]) (rest := []) ⟨hx, hb, hml, hown, hts⟩ (c_X5_stackWithTop l z (ylo z 16) (by first | omega | assumption) (by first | omega | assumption)) (va_cwS 2 hts gX5_afterLeaving_X5_stackWithTop rfl rfl rfl (by decide +kernel) ⟨Nat.le_of_ble_eq_true rfl, Nat.le_of_ble_eq_true rfl⟩) ⟨fun _ _ _ _ q => q, fun _ _ _ => ⟨rfl, trivial⟩⟩ rfl rfl hl.1 rfl (lv_room (Nat.le_of_ble_eq_true rfl)) dX5_afterLeaving_17 ⟨Nat.le_refl _, Nat.le_refl _⟩) ?_
        refine lv_istore (lv' := [(5, .int (oN (yst z (ylo z 16)))), (0, .long (lN x)), (2, .long (lN z)), (4, .int (nI k))]) hx hb dX5_afterLeaving_20 hl (by decide) rfl (fun ls hl => ?_)
        refine lv_iload hx hb dX5_afterLeaving_22 (lv_at hl 0 rfl) ?_
        refine lv_iconst (v := -1) hx hb dX5_afterLeaving_24 (by decide +kernel) ?_
        refine lv_icmp_ne (tgt := 30) hx hb dX5_afterLeaving_25 (by decide) (fun c_25 => ?_) (fun c_25 => ?_)
        · obtain ⟨s9, h9⟩ : ∃ s9, yst z (ylo z 16) = some s9 := by
            cases h : yst z (ylo z 16) with
            | none => rw [h] at c_25; exact absurd rfl c_25
            | some s9 => exact ⟨s9, rfl⟩
          have h9l := (yst_lt h9).1
          have hl : lv_has ls 6 [(5, .int (nI s9)), (0, .long (lN x)), (2, .long (lN z)), (4, .int (nI k))] := by rw [h9] at hl; exact hl
          refine lv_lload_n hx hb dX5_afterLeaving_30 rfl (lv_at hl 2 rfl) ?_
          refine lv_iload hx hb dX5_afterLeaving_31 (lv_at hl 0 rfl) ?_
          refine pu_go (va_runS (As := [.long (lN z), .int (nI s9)]) (rest := []) ⟨hx, hb, hml, hown, hts⟩ (c_X5_lifted l z s9 (by first | omega | assumption) (by first | omega | assumption)) (va_cwS 2 hts gX5_afterLeaving_X5_lifted rfl rfl rfl (by decide +kernel) ⟨Nat.le_of_ble_eq_true rfl, Nat.le_of_ble_eq_true rfl⟩) ⟨fun _ _ _ _ q => q, fun _ _ _ => ⟨rfl, trivial⟩⟩ rfl rfl hl.1 rfl (lv_room (Nat.le_of_ble_eq_true rfl)) dX5_afterLeaving_33 ⟨Nat.le_refl _, Nat.le_refl _⟩) ?_
          refine lv_lstore_n (lv' := [(2, .long (lN (ylift z s9))), (5, .int (nI s9)), (0, .long (lN x)), (4, .int (nI k))]) hx hb dX5_afterLeaving_36 rfl hl (by decide) rfl (fun ls hl => ?_)
          refine lv_iinc (v := nI (k + 1)) (lv' := [(4, .int (nI (k + 1))), (2, .long (lN (ylift z s9))), (5, .int (nI s9)), (0, .long (lN x))]) hx hb dX5_afterLeaving_37 hl (k := 3) rfl (wk_inc _ 1 rfl) (by decide) rfl (fun ls hl => ?_)
          refine lv_goto (tgt := 5) hx hb dX5_afterLeaving_40 (by decide) ?_
          exact ih_5 (k + 1) (ylift z s9) _ _ _ ls (by omega) (ylift_lt hz (yst_lt h9).1) (by rw [← he, show 6 - k = (6 - (k + 1)) + 1 by omega]; conv => rhs; unfold yaf; rw [h9]) (by omega) (rfl) (rfl) (rfl) (lv_sub hl [3, 1, 0] rfl)
        · have h9 : yst z (ylo z 16) = none := by
            cases h : yst z (ylo z 16) with
            | none => rfl
            | some s9 => rw [h] at c_25; exact absurd c_25 (oN_ne (by have := (yst_lt h).1; omega))
          refine lv_lload_n hx hb dX5_afterLeaving_28 rfl (lv_at hl 2 rfl) ?_
          refine wk_tl (v' := lN (yaf 6 x)) (by rw [← he, show 6 - k = (6 - (k + 1)) + 1 by omega]; conv => rhs; unfold yaf; rw [h9]) ?_
          exact W.lret hx hb hr (fun t9 ht _ => ⟨rfl, ht⟩) (fun _ h => nomatch h) dX5_afterLeaving_29
  exact cut_5 (6 + 1) 0 x _ _ _ ls (by omega) (hx0) (rfl) (by omega) (rfl) (rfl) (rfl) (lv_sub hl [2, 1, 0] rfl)
set_option maxHeartbeats 4000000 in
set_option maxRecDepth 100000 in
/-- blockedIn -/
theorem c_X5_blockedIn (l : Launch) (w : Nat) (hw0 : w < 2 ^ 32) : Met l yX5_blockedIn wsX5_blockedIn ({ frames := 1, cells := 0, slots := 0, locals := 21 }) (va_Pc [.int (nI w)] (fun _ => True)) (pu_Q (.int (nI ((ybs w 4).1)))) 0 0 (fun _ => False) := by
  refine Met.ofW (cc := cX5_blockedIn) (maxL := 5) (ret := (some .int)) (by decide) rfl ?_
  intro p e s m args below meth c s₁ B hml hv
  obtain ⟨rfl, -⟩ := hv
  have hx := B.exec
  have hb := B.bytes
  have hr := B.returns
  have hts := atoms_spec (ws := wsX5_blockedIn) B.pre
  have hown : s.vm.findClass RX5 = some m.cls := findClass_of_methodNamed B.named
  have hlocks := B.notSynchronized
  have hl := lv_entry ([.int (nI w)]) (n := 5) (Nat.le_of_ble_eq_true rfl)
  rw [lg_entry_eq]
  generalize (lg_sl ([.int (nI w)]) ++ List.replicate (5 - (lg_sl ([.int (nI w)])).length) Slot.unset).toArray = ls at hl ⊢
  have hl : lv_has ls 5 [(0, .int (nI w))] := hl
  refine lv_iconst (v := nI 0) hx hb dX5_blockedIn_0 (by decide +kernel) ?_
  refine lv_istore_n (lv' := [(1, .int (nI 0)), (0, .int (nI w))]) hx hb dX5_blockedIn_1 rfl hl (by decide) rfl (fun ls hl => ?_)
  refine lv_bipush (v := nI 7) hx hb dX5_blockedIn_2 (by decide +kernel) ?_
  refine lv_istore_n (lv' := [(2, .int (nI 7)), (1, .int (nI 0)), (0, .int (nI w))]) hx hb dX5_blockedIn_4 rfl hl (by decide) rfl (fun ls hl => ?_)
  refine lv_iconst (v := nI 3) hx hb dX5_blockedIn_5 (by decide +kernel) ?_
  refine lv_istore_n (lv' := [(3, .int (nI 3)), (2, .int (nI 7)), (1, .int (nI 0)), (0, .int (nI w))]) hx hb dX5_blockedIn_6 rfl hl (by decide) rfl (fun ls hl => ?_)
  have cut_7 : ∀ (n_7 : Nat) (i : Nat) (k : Nat) (v7_0 : Int32) (v7_1 : Int32) (v7_2 : Int32) (v7_3 : Int32) (ls : Array Slot) (hk : i + k = 4) (hn_7 : k < n_7) (_ : v7_0 = nI w) (_ : v7_1 = nI ((ybs w i).1)) (_ : v7_2 = nI ((ybs w i).2)) (_ : v7_3 = nI k - nI 1) (_ : lv_has ls 5 [(0, .int v7_0), (1, .int v7_1), (2, .int v7_2), (3, .int v7_3)]), W p l e (headSpec wsX5_blockedIn ({ frames := 1, cells := 0, slots := 0, locals := 21 })).room s m ([.int (nI w)] : List Value).toArray below meth c s.heap [] 0 0 (MQ below (pu_Q (.int (nI ((ybs w 4).1)))) ([.int (nI w)] : List Value).toArray s 0 0 (fun _ => False)) (F0 m 7 ls []) := by
    intro n_7
    induction n_7 with
    | zero => intros; omega
    | succ n_7 ih_7 =>
      rintro i k v7_0 v7_1 v7_2 v7_3 ls hk hn_7 rfl rfl rfl rfl hl
      have hq1 := ybs_le w i
      have hq2 := yr_lt w (3 - i)
      refine lv_iload_n hx hb dX5_blockedIn_7 rfl (lv_at hl 3 rfl) ?_
      refine lv_if_lt (tgt := 44) hx hb dX5_blockedIn_8 (by decide) (fun c_8 => ?_) (fun c_8 => ?_)
      · have hk0 := (wk_m1lt (k := k) (by omega)).mp c_8
        refine lv_iload_n hx hb dX5_blockedIn_44 rfl (lv_at hl 1 rfl) ?_
        refine wk_ti (v' := nI ((ybs w 4).1)) (by rw [show i = 4 by omega]) ?_
        exact W.iret hx hb hr (fun t9 ht _ => ⟨rfl, ht⟩) (fun _ h => nomatch h) dX5_blockedIn_45
      · obtain ⟨j, rfl⟩ : ∃ j, k = j + 1 := ⟨k - 1, by have : k ≠ 0 := fun q => c_8 ((wk_m1lt (k := k) (by omega)).mpr q); omega⟩
        have hji : j = 3 - i := by omega
        have hl : lv_has ls 5 [(0, .int (nI w)), (1, .int (nI ((ybs w i).1))), (2, .int (nI ((ybs w i).2))), (3, .int (nI j))] := by rw [show nI (j + 1) - nI 1 = nI j from pk_sub (by omega)] at hl; exact hl
        refine lv_iload_n hx hb dX5_blockedIn_11 rfl (lv_at hl 0 rfl) ?_
        refine lv_iload_n hx hb dX5_blockedIn_12 rfl (lv_at hl 3 rfl) ?_
        refine pu_go (va_runS (As := [.int (nI w), .int (nI j)]) (rest := []) ⟨hx, hb, hml, hown, hts⟩ (c_X5_rankIn l w j (by first | omega | assumption) (by first | omega | assumption)) (va_cwS 2 hts gX5_blockedIn_X5_rankIn rfl rfl rfl (by decide +kernel) ⟨Nat.le_of_ble_eq_true rfl, Nat.le_of_ble_eq_true rfl⟩) ⟨fun _ _ _ _ q => q, fun _ _ _ => ⟨rfl, trivial⟩⟩ rfl rfl hl.1 rfl (lv_room (Nat.le_of_ble_eq_true rfl)) dX5_blockedIn_13 ⟨Nat.le_refl _, Nat.le_refl _⟩) ?_
        refine lv_istore (lv' := [(4, .int (nI (yr w j))), (0, .int (nI w)), (1, .int (nI ((ybs w i).1))), (2, .int (nI ((ybs w i).2))), (3, .int (nI j))]) hx hb dX5_blockedIn_16 hl (by decide) rfl (fun ls hl => ?_)
        rw [← hji] at hq2
        have cut_38 : ∀ (v38_0 : Int32) (v38_1 : Int32) (v38_2 : Int32) (v38_3 : Int32) (ls : Array Slot) (_ : v38_0 = nI w) (_ : v38_1 = nI ((ybs w (i + 1)).1)) (_ : v38_2 = nI ((ybs w (i + 1)).2)) (_ : v38_3 = nI j) (_ : lv_has ls 5 [(0, .int v38_0), (1, .int v38_1), (2, .int v38_2), (3, .int v38_3)]), W p l e (headSpec wsX5_blockedIn ({ frames := 1, cells := 0, slots := 0, locals := 21 })).room s m ([.int (nI w)] : List Value).toArray below meth c s.heap [] 0 0 (MQ below (pu_Q (.int (nI ((ybs w 4).1)))) ([.int (nI w)] : List Value).toArray s 0 0 (fun _ => False)) (F0 m 38 ls []) := by
          rintro v38_0 v38_1 v38_2 v38_3 ls rfl rfl rfl rfl hl
          refine lv_iinc (v := nI j - nI 1) (lv' := [(3, .int (nI j - nI 1)), (0, .int (nI w)), (1, .int (nI ((ybs w (i + 1)).1))), (2, .int (nI ((ybs w (i + 1)).2)))]) hx hb dX5_blockedIn_38 hl (k := 3) rfl (by rw [Int32.sub_eq_add_neg]; rfl) (by decide) rfl (fun ls hl => ?_)
          refine lv_goto (tgt := 7) hx hb dX5_blockedIn_41 (by decide) ?_
          exact ih_7 (i + 1) j _ _ _ _ ls (by omega) (by omega) (rfl) (rfl) (rfl) (rfl) (lv_sub hl [1, 2, 3, 0] rfl)
        refine lv_iload hx hb dX5_blockedIn_18 (lv_at hl 0 rfl) ?_
        refine lv_iload_n hx hb dX5_blockedIn_20 rfl (lv_at hl 3 rfl) ?_
        refine wk_icmp_le (tgt := 30) hx hb (by omega) (by omega) dX5_blockedIn_21 (by decide) (fun c_21 => ?_) (fun c_21 => ?_)
        · refine lv_iload hx hb dX5_blockedIn_30 (lv_at hl 0 rfl) ?_
          refine wk_if_eq (tgt := 38) hx hb (by omega) dX5_blockedIn_32 (by decide) (fun c_32 => ?_) (fun c_32 => ?_)
          · exact cut_38 _ _ _ _ ls (rfl) (by rw [ybs_s, ← hji, if_neg (by omega), if_neg (by omega)]) (by rw [ybs_s, ← hji, if_neg (by omega), if_neg (by omega)]) (rfl) (lv_sub hl [1, 2, 3, 4] rfl)
          · refine lv_iload hx hb dX5_blockedIn_35 (lv_at hl 0 rfl) ?_
            refine lv_istore_n (lv' := [(2, .int (nI (yr w j))), (4, .int (nI (yr w j))), (0, .int (nI w)), (1, .int (nI ((ybs w i).1))), (3, .int (nI j))]) hx hb dX5_blockedIn_37 rfl hl (by decide) rfl (fun ls hl => ?_)
            exact cut_38 _ _ _ _ ls (rfl) (by rw [ybs_s, ← hji, if_neg (by omega), if_pos (by omega)]) (by rw [ybs_s, ← hji, if_neg (by omega), if_pos (by omega)]) (rfl) (lv_sub hl [2, 3, 0, 4] rfl)
        · refine lv_iinc (v := nI (((ybs w i).1) + 1)) (lv' := [(1, .int (nI (((ybs w i).1) + 1))), (4, .int (nI (yr w j))), (0, .int (nI w)), (2, .int (nI ((ybs w i).2))), (3, .int (nI j))]) hx hb dX5_blockedIn_24 hl (k := 2) rfl (wk_inc _ 1 rfl) (by decide) rfl (fun ls hl => ?_)
          refine lv_goto (tgt := 38) hx hb dX5_blockedIn_27 (by decide) ?_
          exact cut_38 _ _ _ _ ls (rfl) (by rw [ybs_s, ← hji, if_pos c_21]) (by rw [ybs_s, ← hji, if_pos c_21]) (rfl) (lv_sub hl [2, 0, 3, 4] rfl)
  exact cut_7 (4 + 1) 0 4 _ _ _ _ ls (by omega) (by omega) (rfl) (rfl) (rfl) (by decide +kernel) (lv_sub hl [3, 2, 1, 0] rfl)
set_option maxHeartbeats 4000000 in
set_option maxRecDepth 100000 in
/-- blockedBoxes -/
theorem c_X5_blockedBoxes (l : Launch) (x : Nat) (hx0 : x < 2 ^ 48) : Met l yX5_blockedBoxes wsX5_blockedBoxes ({ frames := 2, cells := 0, slots := 0, locals := 45 }) (va_Pc [.long (lN x)] (fun _ => True)) (pu_Q (.int (nI (ybb x 4)))) 0 0 (fun _ => False) := by
  refine Met.ofW (cc := cX5_blockedBoxes) (maxL := 4) (ret := (some .int)) (by decide) rfl ?_
  intro p e s m args below meth c s₁ B hml hv
  obtain ⟨rfl, -⟩ := hv
  have hx := B.exec
  have hb := B.bytes
  have hr := B.returns
  have hts := atoms_spec (ws := wsX5_blockedBoxes) B.pre
  have hown : s.vm.findClass RX5 = some m.cls := findClass_of_methodNamed B.named
  have hlocks := B.notSynchronized
  have hl := lv_entry ([.long (lN x)]) (n := 4) (Nat.le_of_ble_eq_true rfl)
  rw [lg_entry_eq]
  generalize (lg_sl ([.long (lN x)]) ++ List.replicate (4 - (lg_sl ([.long (lN x)])).length) Slot.unset).toArray = ls at hl ⊢
  have hl : lv_has ls 4 [(0, .long (lN x))] := hl
  refine lv_iconst (v := nI 0) hx hb dX5_blockedBoxes_0 (by decide +kernel) ?_
  refine lv_istore_n (lv' := [(2, .int (nI 0)), (0, .long (lN x))]) hx hb dX5_blockedBoxes_1 rfl hl (by decide) rfl (fun ls hl => ?_)
  refine lv_iconst (v := nI 0) hx hb dX5_blockedBoxes_2 (by decide +kernel) ?_
  refine lv_istore_n (lv' := [(3, .int (nI 0)), (2, .int (nI 0)), (0, .long (lN x))]) hx hb dX5_blockedBoxes_3 rfl hl (by decide) rfl (fun ls hl => ?_)
  have cut_4 : ∀ (n_4 : Nat) (k : Nat) (v4_0 : Int64) (v4_2 : Int32) (v4_3 : Int32) (ls : Array Slot) (hk : k ≤ 4) (hn_4 : 4 - k < n_4) (_ : v4_0 = lN x) (_ : v4_2 = nI (ybb x k)) (_ : v4_3 = nI k) (_ : lv_has ls 4 [(0, .long v4_0), (2, .int v4_2), (3, .int v4_3)]), W p l e (headSpec wsX5_blockedBoxes ({ frames := 2, cells := 0, slots := 0, locals := 45 })).room s m ([.long (lN x)] : List Value).toArray below meth c s.heap [] 0 0 (MQ below (pu_Q (.int (nI (ybb x 4)))) ([.long (lN x)] : List Value).toArray s 0 0 (fun _ => False)) (F0 m 4 ls []) := by
    intro n_4
    induction n_4 with
    | zero => intros; omega
    | succ n_4 ih_4 =>
      rintro k v4_0 v4_2 v4_3 ls hk hn_4 rfl rfl rfl hl
      have hq1 := yw_lt x k
      refine lv_iload_n hx hb dX5_blockedBoxes_4 rfl (lv_at hl 2 rfl) ?_
      refine lv_iconst (v := nI 4) hx hb dX5_blockedBoxes_5 (by decide +kernel) ?_
      refine wk_icmp_ge (tgt := 26) hx hb (by omega) (by omega) dX5_blockedBoxes_6 (by decide) (fun c_6 => ?_) (fun c_6 => ?_)
      · refine lv_iload_n hx hb dX5_blockedBoxes_26 rfl (lv_at hl 1 rfl) ?_
        refine wk_ti (v' := nI (ybb x 4)) (by rw [show k = 4 by omega]) ?_
        exact W.iret hx hb hr (fun t9 ht _ => ⟨rfl, ht⟩) (fun _ h => nomatch h) dX5_blockedBoxes_27
      · refine lv_iload_n hx hb dX5_blockedBoxes_9 rfl (lv_at hl 1 rfl) ?_
        refine lv_lload_n hx hb dX5_blockedBoxes_10 rfl (lv_at hl 0 rfl) ?_
        refine lv_iload_n hx hb dX5_blockedBoxes_11 rfl (lv_at hl 2 rfl) ?_
        refine pu_go (va_runS (As := [.long (lN x), .int (nI k)]) (rest := [.int (nI (ybb x k))]) ⟨hx, hb, hml, hown, hts⟩ (c_X5_wordOf l x k (by first | omega | assumption) (by first | omega | assumption)) (va_cwS 2 hts gX5_blockedBoxes_X5_wordOf rfl rfl rfl (by decide +kernel) ⟨Nat.le_of_ble_eq_true rfl, Nat.le_of_ble_eq_true rfl⟩) ⟨fun _ _ _ _ q => q, fun _ _ _ => ⟨rfl, trivial⟩⟩ rfl rfl hl.1 rfl (lv_room (Nat.le_of_ble_eq_true rfl)) dX5_blockedBoxes_12 ⟨Nat.le_refl _, Nat.le_refl _⟩) ?_
        refine pu_go (va_runS (As := [.int (nI (yw x k))]) (rest := [.int (nI (ybb x k))]) ⟨hx, hb, hml, hown, hts⟩ (c_X5_blockedIn l (yw x k) (by first | omega | assumption)) (va_cwS 1 hts gX5_blockedBoxes_X5_blockedIn rfl rfl rfl (by decide +kernel) ⟨Nat.le_of_ble_eq_true rfl, Nat.le_of_ble_eq_true rfl⟩) ⟨fun _ _ _ _ q => q, fun _ _ _ => ⟨rfl, trivial⟩⟩ rfl rfl hl.1 rfl (lv_room (Nat.le_of_ble_eq_true rfl)) dX5_blockedBoxes_15 ⟨Nat.le_refl _, Nat.le_refl _⟩) ?_
        refine wk_iadd hx hb dX5_blockedBoxes_18 ?_
        refine lv_istore_n (lv' := [(2, .int (nI ((ybb x k) + ((ybs (yw x k) 4).1)))), (0, .long (lN x)), (3, .int (nI k))]) hx hb dX5_blockedBoxes_19 rfl hl (by decide) rfl (fun ls hl => ?_)
        refine lv_iinc (v := nI (k + 1)) (lv' := [(3, .int (nI (k + 1))), (2, .int (nI ((ybb x k) + ((ybs (yw x k) 4).1)))), (0, .long (lN x))]) hx hb dX5_blockedBoxes_20 hl (k := 2) rfl (wk_inc _ 1 rfl) (by decide) rfl (fun ls hl => ?_)
        refine lv_goto (tgt := 4) hx hb dX5_blockedBoxes_23 (by decide) ?_
        exact ih_4 (k + 1) _ _ _ ls (by omega) (by omega) (rfl) (rfl) (rfl) (lv_sub hl [2, 1, 0] rfl)
  exact cut_4 (4 + 1) 0 _ _ _ ls (by omega) (by omega) (rfl) (rfl) (rfl) (lv_sub hl [2, 1, 0] rfl)
set_option maxHeartbeats 4000000 in
set_option maxRecDepth 100000 in
/-- sorted -/
theorem c_X5_sorted (l : Launch) (x : Nat) (hx0 : x < 2 ^ 48) : Met l yX5_sorted wsX5_sorted ({ frames := 1, cells := 0, slots := 0, locals := 40 }) (va_Pc [.long (lN x)] (fun _ => True)) (pu_Q (.long (lN (ysrt x)))) 0 0 (fun _ => False) := by
  refine Met.ofW (cc := cX5_sorted) (maxL := 16) (ret := (some .long)) (by decide) rfl ?_
  intro p e s m args below meth c s₁ B hml hv
  obtain ⟨rfl, -⟩ := hv
  have hx := B.exec
  have hb := B.bytes
  have hr := B.returns
  have hts := atoms_spec (ws := wsX5_sorted) B.pre
  have hown : s.vm.findClass RX5 = some m.cls := findClass_of_methodNamed B.named
  have hlocks := B.notSynchronized
  have hl := lv_entry ([.long (lN x)]) (n := 16) (Nat.le_of_ble_eq_true rfl)
  rw [lg_entry_eq]
  generalize (lg_sl ([.long (lN x)]) ++ List.replicate (16 - (lg_sl ([.long (lN x)])).length) Slot.unset).toArray = ls at hl ⊢
  have hl : lv_has ls 16 [(0, .long (lN x))] := hl
  have h0 := yw_lt x 0
  have h1 := yw_lt x 1
  have h2 := yw_lt x 2
  have h3 := yw_lt x 3
  refine lv_lload_n hx hb dX5_sorted_0 rfl (lv_at hl 0 rfl) ?_
  refine lv_iconst (v := nI 0) hx hb dX5_sorted_1 (by decide +kernel) ?_
  refine pu_go (va_runS (As := [.long (lN x), .int (nI 0)]) (rest := []) ⟨hx, hb, hml, hown, hts⟩ (c_X5_wordOf l x 0 (by first | omega | assumption) (by first | omega | assumption)) (va_cwS 2 hts gX5_sorted_X5_wordOf rfl rfl rfl (by decide +kernel) ⟨Nat.le_of_ble_eq_true rfl, Nat.le_of_ble_eq_true rfl⟩) ⟨fun _ _ _ _ q => q, fun _ _ _ => ⟨rfl, trivial⟩⟩ rfl rfl hl.1 rfl (lv_room (Nat.le_of_ble_eq_true rfl)) dX5_sorted_2 ⟨Nat.le_refl _, Nat.le_refl _⟩) ?_
  refine lv_istore_n (lv' := [(2, .int (nI (yw x 0))), (0, .long (lN x))]) hx hb dX5_sorted_5 rfl hl (by decide) rfl (fun ls hl => ?_)
  refine lv_lload_n hx hb dX5_sorted_6 rfl (lv_at hl 1 rfl) ?_
  refine lv_iconst (v := nI 1) hx hb dX5_sorted_7 (by decide +kernel) ?_
  refine pu_go (va_runS (As := [.long (lN x), .int (nI 1)]) (rest := []) ⟨hx, hb, hml, hown, hts⟩ (c_X5_wordOf l x 1 (by first | omega | assumption) (by first | omega | assumption)) (va_cwS 2 hts gX5_sorted_X5_wordOf rfl rfl rfl (by decide +kernel) ⟨Nat.le_of_ble_eq_true rfl, Nat.le_of_ble_eq_true rfl⟩) ⟨fun _ _ _ _ q => q, fun _ _ _ => ⟨rfl, trivial⟩⟩ rfl rfl hl.1 rfl (lv_room (Nat.le_of_ble_eq_true rfl)) dX5_sorted_8 ⟨Nat.le_refl _, Nat.le_refl _⟩) ?_
  refine lv_istore_n (lv' := [(3, .int (nI (yw x 1))), (2, .int (nI (yw x 0))), (0, .long (lN x))]) hx hb dX5_sorted_11 rfl hl (by decide) rfl (fun ls hl => ?_)
  refine lv_lload_n hx hb dX5_sorted_12 rfl (lv_at hl 2 rfl) ?_
  refine lv_iconst (v := nI 2) hx hb dX5_sorted_13 (by decide +kernel) ?_
  refine pu_go (va_runS (As := [.long (lN x), .int (nI 2)]) (rest := []) ⟨hx, hb, hml, hown, hts⟩ (c_X5_wordOf l x 2 (by first | omega | assumption) (by first | omega | assumption)) (va_cwS 2 hts gX5_sorted_X5_wordOf rfl rfl rfl (by decide +kernel) ⟨Nat.le_of_ble_eq_true rfl, Nat.le_of_ble_eq_true rfl⟩) ⟨fun _ _ _ _ q => q, fun _ _ _ => ⟨rfl, trivial⟩⟩ rfl rfl hl.1 rfl (lv_room (Nat.le_of_ble_eq_true rfl)) dX5_sorted_14 ⟨Nat.le_refl _, Nat.le_refl _⟩) ?_
  refine lv_istore (lv' := [(4, .int (nI (yw x 2))), (3, .int (nI (yw x 1))), (2, .int (nI (yw x 0))), (0, .long (lN x))]) hx hb dX5_sorted_17 hl (by decide) rfl (fun ls hl => ?_)
  refine lv_lload_n hx hb dX5_sorted_19 rfl (lv_at hl 3 rfl) ?_
  refine lv_iconst (v := nI 3) hx hb dX5_sorted_20 (by decide +kernel) ?_
  refine pu_go (va_runS (As := [.long (lN x), .int (nI 3)]) (rest := []) ⟨hx, hb, hml, hown, hts⟩ (c_X5_wordOf l x 3 (by first | omega | assumption) (by first | omega | assumption)) (va_cwS 2 hts gX5_sorted_X5_wordOf rfl rfl rfl (by decide +kernel) ⟨Nat.le_of_ble_eq_true rfl, Nat.le_of_ble_eq_true rfl⟩) ⟨fun _ _ _ _ q => q, fun _ _ _ => ⟨rfl, trivial⟩⟩ rfl rfl hl.1 rfl (lv_room (Nat.le_of_ble_eq_true rfl)) dX5_sorted_21 ⟨Nat.le_refl _, Nat.le_refl _⟩) ?_
  refine lv_istore (lv' := [(5, .int (nI (yw x 3))), (4, .int (nI (yw x 2))), (3, .int (nI (yw x 1))), (2, .int (nI (yw x 0))), (0, .long (lN x))]) hx hb dX5_sorted_24 hl (by decide) rfl (fun ls hl => ?_)
  refine lv_iload_n hx hb dX5_sorted_26 rfl (lv_at hl 3 rfl) ?_
  refine lv_iload_n hx hb dX5_sorted_27 rfl (lv_at hl 2 rfl) ?_
  refine wk_mmin hx hb (by rw [hml]; exact hl.1.symm) hown (hts (.methodLink RX5 43 Lib.Math.min.name) (by decide +kernel)) (hts (.static Lib.Math.min.name) (by decide +kernel)) (hts (.initialized "java/lang/Math") (by decide +kernel)) (hts (.code Lib.Math.min.name Lib.Math.min.code 2 (some .int)) (by decide +kernel)) (Nat.le_of_ble_eq_true rfl) (Nat.le_of_ble_eq_true rfl) (Nat.le_refl _) (Nat.le_refl _) (by omega) (by omega) dX5_sorted_28 ?_
  refine lv_iload hx hb dX5_sorted_31 (lv_at hl 1 rfl) ?_
  refine lv_iload hx hb dX5_sorted_33 (lv_at hl 0 rfl) ?_
  refine wk_mmin hx hb (by rw [hml]; exact hl.1.symm) hown (hts (.methodLink RX5 43 Lib.Math.min.name) (by decide +kernel)) (hts (.static Lib.Math.min.name) (by decide +kernel)) (hts (.initialized "java/lang/Math") (by decide +kernel)) (hts (.code Lib.Math.min.name Lib.Math.min.code 2 (some .int)) (by decide +kernel)) (Nat.le_of_ble_eq_true rfl) (Nat.le_of_ble_eq_true rfl) (Nat.le_refl _) (Nat.le_refl _) (by omega) (by omega) dX5_sorted_35 ?_
  refine wk_mmax hx hb (by rw [hml]; exact hl.1.symm) hown (hts (.methodLink RX5 48 Lib.Math.max.name) (by decide +kernel)) (hts (.static Lib.Math.max.name) (by decide +kernel)) (hts (.initialized "java/lang/Math") (by decide +kernel)) (hts (.code Lib.Math.max.name Lib.Math.max.code 2 (some .int)) (by decide +kernel)) (Nat.le_of_ble_eq_true rfl) (Nat.le_of_ble_eq_true rfl) (Nat.le_refl _) (Nat.le_refl _) (by omega) (by omega) dX5_sorted_38 ?_
  refine lv_istore (lv' := [(6, .int (nI (max (min (yw x 0) (yw x 1)) (min (yw x 2) (yw x 3))))), (5, .int (nI (yw x 3))), (4, .int (nI (yw x 2))), (3, .int (nI (yw x 1))), (2, .int (nI (yw x 0))), (0, .long (lN x))]) hx hb dX5_sorted_41 hl (by decide) rfl (fun ls hl => ?_)
  refine lv_iload_n hx hb dX5_sorted_43 rfl (lv_at hl 4 rfl) ?_
  refine lv_iload_n hx hb dX5_sorted_44 rfl (lv_at hl 3 rfl) ?_
  refine wk_mmax hx hb (by rw [hml]; exact hl.1.symm) hown (hts (.methodLink RX5 48 Lib.Math.max.name) (by decide +kernel)) (hts (.static Lib.Math.max.name) (by decide +kernel)) (hts (.initialized "java/lang/Math") (by decide +kernel)) (hts (.code Lib.Math.max.name Lib.Math.max.code 2 (some .int)) (by decide +kernel)) (Nat.le_of_ble_eq_true rfl) (Nat.le_of_ble_eq_true rfl) (Nat.le_refl _) (Nat.le_refl _) (by omega) (by omega) dX5_sorted_45 ?_
  refine lv_iload hx hb dX5_sorted_48 (lv_at hl 2 rfl) ?_
  refine lv_iload hx hb dX5_sorted_50 (lv_at hl 1 rfl) ?_
  refine wk_mmax hx hb (by rw [hml]; exact hl.1.symm) hown (hts (.methodLink RX5 48 Lib.Math.max.name) (by decide +kernel)) (hts (.static Lib.Math.max.name) (by decide +kernel)) (hts (.initialized "java/lang/Math") (by decide +kernel)) (hts (.code Lib.Math.max.name Lib.Math.max.code 2 (some .int)) (by decide +kernel)) (Nat.le_of_ble_eq_true rfl) (Nat.le_of_ble_eq_true rfl) (Nat.le_refl _) (Nat.le_refl _) (by omega) (by omega) dX5_sorted_52 ?_
  refine wk_mmin hx hb (by rw [hml]; exact hl.1.symm) hown (hts (.methodLink RX5 43 Lib.Math.min.name) (by decide +kernel)) (hts (.static Lib.Math.min.name) (by decide +kernel)) (hts (.initialized "java/lang/Math") (by decide +kernel)) (hts (.code Lib.Math.min.name Lib.Math.min.code 2 (some .int)) (by decide +kernel)) (Nat.le_of_ble_eq_true rfl) (Nat.le_of_ble_eq_true rfl) (Nat.le_refl _) (Nat.le_refl _) (by omega) (by omega) dX5_sorted_55 ?_
  refine lv_istore (lv' := [(7, .int (nI (min (max (yw x 0) (yw x 1)) (max (yw x 2) (yw x 3))))), (6, .int (nI (max (min (yw x 0) (yw x 1)) (min (yw x 2) (yw x 3))))), (5, .int (nI (yw x 3))), (4, .int (nI (yw x 2))), (3, .int (nI (yw x 1))), (2, .int (nI (yw x 0))), (0, .long (lN x))]) hx hb dX5_sorted_58 hl (by decide) rfl (fun ls hl => ?_)
  refine lv_iload_n hx hb dX5_sorted_60 rfl (lv_at hl 5 rfl) ?_
  refine lv_iload_n hx hb dX5_sorted_61 rfl (lv_at hl 4 rfl) ?_
  refine wk_mmin hx hb (by rw [hml]; exact hl.1.symm) hown (hts (.methodLink RX5 43 Lib.Math.min.name) (by decide +kernel)) (hts (.static Lib.Math.min.name) (by decide +kernel)) (hts (.initialized "java/lang/Math") (by decide +kernel)) (hts (.code Lib.Math.min.name Lib.Math.min.code 2 (some .int)) (by decide +kernel)) (Nat.le_of_ble_eq_true rfl) (Nat.le_of_ble_eq_true rfl) (Nat.le_refl _) (Nat.le_refl _) (by omega) (by omega) dX5_sorted_62 ?_
  refine lv_iload hx hb dX5_sorted_65 (lv_at hl 3 rfl) ?_
  refine lv_iload hx hb dX5_sorted_67 (lv_at hl 2 rfl) ?_
  refine wk_mmin hx hb (by rw [hml]; exact hl.1.symm) hown (hts (.methodLink RX5 43 Lib.Math.min.name) (by decide +kernel)) (hts (.static Lib.Math.min.name) (by decide +kernel)) (hts (.initialized "java/lang/Math") (by decide +kernel)) (hts (.code Lib.Math.min.name Lib.Math.min.code 2 (some .int)) (by decide +kernel)) (Nat.le_of_ble_eq_true rfl) (Nat.le_of_ble_eq_true rfl) (Nat.le_refl _) (Nat.le_refl _) (by omega) (by omega) dX5_sorted_69 ?_
  refine wk_mmin hx hb (by rw [hml]; exact hl.1.symm) hown (hts (.methodLink RX5 43 Lib.Math.min.name) (by decide +kernel)) (hts (.static Lib.Math.min.name) (by decide +kernel)) (hts (.initialized "java/lang/Math") (by decide +kernel)) (hts (.code Lib.Math.min.name Lib.Math.min.code 2 (some .int)) (by decide +kernel)) (Nat.le_of_ble_eq_true rfl) (Nat.le_of_ble_eq_true rfl) (Nat.le_refl _) (Nat.le_refl _) (by omega) (by omega) dX5_sorted_72 ?_
  refine wk_i2l hx hb (by omega) dX5_sorted_75 ?_
  refine lv_lstore (lv' := [(8, .long (lN (min (min (yw x 0) (yw x 1)) (min (yw x 2) (yw x 3))))), (7, .int (nI (min (max (yw x 0) (yw x 1)) (max (yw x 2) (yw x 3))))), (6, .int (nI (max (min (yw x 0) (yw x 1)) (min (yw x 2) (yw x 3))))), (5, .int (nI (yw x 3))), (4, .int (nI (yw x 2))), (3, .int (nI (yw x 1))), (2, .int (nI (yw x 0))), (0, .long (lN x))]) hx hb dX5_sorted_76 hl (by decide) rfl (fun ls hl => ?_)
  refine lv_iload hx hb dX5_sorted_78 (lv_at hl 2 rfl) ?_
  refine lv_iload hx hb dX5_sorted_80 (lv_at hl 1 rfl) ?_
  refine wk_mmin hx hb (by rw [hml]; exact hl.1.symm) hown (hts (.methodLink RX5 43 Lib.Math.min.name) (by decide +kernel)) (hts (.static Lib.Math.min.name) (by decide +kernel)) (hts (.initialized "java/lang/Math") (by decide +kernel)) (hts (.code Lib.Math.min.name Lib.Math.min.code 2 (some .int)) (by decide +kernel)) (Nat.le_of_ble_eq_true rfl) (Nat.le_of_ble_eq_true rfl) (Nat.le_refl _) (Nat.le_refl _) (by omega) (by omega) dX5_sorted_82 ?_
  refine wk_i2l hx hb (by omega) dX5_sorted_85 ?_
  refine lv_lstore (lv' := [(10, .long (lN (min (max (min (yw x 0) (yw x 1)) (min (yw x 2) (yw x 3))) (min (max (yw x 0) (yw x 1)) (max (yw x 2) (yw x 3)))))), (8, .long (lN (min (min (yw x 0) (yw x 1)) (min (yw x 2) (yw x 3))))), (7, .int (nI (min (max (yw x 0) (yw x 1)) (max (yw x 2) (yw x 3))))), (6, .int (nI (max (min (yw x 0) (yw x 1)) (min (yw x 2) (yw x 3))))), (5, .int (nI (yw x 3))), (4, .int (nI (yw x 2))), (3, .int (nI (yw x 1))), (2, .int (nI (yw x 0))), (0, .long (lN x))]) hx hb dX5_sorted_86 hl (by decide) rfl (fun ls hl => ?_)
  refine lv_iload hx hb dX5_sorted_88 (lv_at hl 3 rfl) ?_
  refine lv_iload hx hb dX5_sorted_90 (lv_at hl 2 rfl) ?_
  refine wk_mmax hx hb (by rw [hml]; exact hl.1.symm) hown (hts (.methodLink RX5 48 Lib.Math.max.name) (by decide +kernel)) (hts (.static Lib.Math.max.name) (by decide +kernel)) (hts (.initialized "java/lang/Math") (by decide +kernel)) (hts (.code Lib.Math.max.name Lib.Math.max.code 2 (some .int)) (by decide +kernel)) (Nat.le_of_ble_eq_true rfl) (Nat.le_of_ble_eq_true rfl) (Nat.le_refl _) (Nat.le_refl _) (by omega) (by omega) dX5_sorted_92 ?_
  refine wk_i2l hx hb (by omega) dX5_sorted_95 ?_
  refine lv_lstore (lv' := [(12, .long (lN (max (max (min (yw x 0) (yw x 1)) (min (yw x 2) (yw x 3))) (min (max (yw x 0) (yw x 1)) (max (yw x 2) (yw x 3)))))), (10, .long (lN (min (max (min (yw x 0) (yw x 1)) (min (yw x 2) (yw x 3))) (min (max (yw x 0) (yw x 1)) (max (yw x 2) (yw x 3)))))), (8, .long (lN (min (min (yw x 0) (yw x 1)) (min (yw x 2) (yw x 3))))), (7, .int (nI (min (max (yw x 0) (yw x 1)) (max (yw x 2) (yw x 3))))), (6, .int (nI (max (min (yw x 0) (yw x 1)) (min (yw x 2) (yw x 3))))), (5, .int (nI (yw x 3))), (4, .int (nI (yw x 2))), (3, .int (nI (yw x 1))), (2, .int (nI (yw x 0))), (0, .long (lN x))]) hx hb dX5_sorted_96 hl (by decide) rfl (fun ls hl => ?_)
  refine lv_iload_n hx hb dX5_sorted_98 rfl (lv_at hl 8 rfl) ?_
  refine lv_iload_n hx hb dX5_sorted_99 rfl (lv_at hl 7 rfl) ?_
  refine wk_mmax hx hb (by rw [hml]; exact hl.1.symm) hown (hts (.methodLink RX5 48 Lib.Math.max.name) (by decide +kernel)) (hts (.static Lib.Math.max.name) (by decide +kernel)) (hts (.initialized "java/lang/Math") (by decide +kernel)) (hts (.code Lib.Math.max.name Lib.Math.max.code 2 (some .int)) (by decide +kernel)) (Nat.le_of_ble_eq_true rfl) (Nat.le_of_ble_eq_true rfl) (Nat.le_refl _) (Nat.le_refl _) (by omega) (by omega) dX5_sorted_100 ?_
  refine lv_iload hx hb dX5_sorted_103 (lv_at hl 6 rfl) ?_
  refine lv_iload hx hb dX5_sorted_105 (lv_at hl 5 rfl) ?_
  refine wk_mmax hx hb (by rw [hml]; exact hl.1.symm) hown (hts (.methodLink RX5 48 Lib.Math.max.name) (by decide +kernel)) (hts (.static Lib.Math.max.name) (by decide +kernel)) (hts (.initialized "java/lang/Math") (by decide +kernel)) (hts (.code Lib.Math.max.name Lib.Math.max.code 2 (some .int)) (by decide +kernel)) (Nat.le_of_ble_eq_true rfl) (Nat.le_of_ble_eq_true rfl) (Nat.le_refl _) (Nat.le_refl _) (by omega) (by omega) dX5_sorted_107 ?_
  refine wk_mmax hx hb (by rw [hml]; exact hl.1.symm) hown (hts (.methodLink RX5 48 Lib.Math.max.name) (by decide +kernel)) (hts (.static Lib.Math.max.name) (by decide +kernel)) (hts (.initialized "java/lang/Math") (by decide +kernel)) (hts (.code Lib.Math.max.name Lib.Math.max.code 2 (some .int)) (by decide +kernel)) (Nat.le_of_ble_eq_true rfl) (Nat.le_of_ble_eq_true rfl) (Nat.le_refl _) (Nat.le_refl _) (by omega) (by omega) dX5_sorted_110 ?_
  refine wk_i2l hx hb (by omega) dX5_sorted_113 ?_
  refine lv_lstore (lv' := [(14, .long (lN (max (max (yw x 0) (yw x 1)) (max (yw x 2) (yw x 3))))), (12, .long (lN (max (max (min (yw x 0) (yw x 1)) (min (yw x 2) (yw x 3))) (min (max (yw x 0) (yw x 1)) (max (yw x 2) (yw x 3)))))), (10, .long (lN (min (max (min (yw x 0) (yw x 1)) (min (yw x 2) (yw x 3))) (min (max (yw x 0) (yw x 1)) (max (yw x 2) (yw x 3)))))), (8, .long (lN (min (min (yw x 0) (yw x 1)) (min (yw x 2) (yw x 3))))), (7, .int (nI (min (max (yw x 0) (yw x 1)) (max (yw x 2) (yw x 3))))), (6, .int (nI (max (min (yw x 0) (yw x 1)) (min (yw x 2) (yw x 3))))), (5, .int (nI (yw x 3))), (4, .int (nI (yw x 2))), (3, .int (nI (yw x 1))), (2, .int (nI (yw x 0))), (0, .long (lN x))]) hx hb dX5_sorted_114 hl (by decide) rfl (fun ls hl => ?_)
  refine lv_lload hx hb dX5_sorted_116 (lv_at hl 3 rfl) ?_
  refine lv_lload hx hb dX5_sorted_118 (lv_at hl 2 rfl) ?_
  refine lv_bipush (v := nI 12) hx hb dX5_sorted_120 (by decide +kernel) ?_
  refine wk_lshl hx hb (by decide) dX5_sorted_122 ?_
  refine lv_lor hx hb dX5_sorted_123 ?_
  refine lv_lload hx hb dX5_sorted_124 (lv_at hl 1 rfl) ?_
  refine lv_bipush (v := nI 24) hx hb dX5_sorted_126 (by decide +kernel) ?_
  refine wk_lshl hx hb (by decide) dX5_sorted_128 ?_
  refine lv_lor hx hb dX5_sorted_129 ?_
  refine lv_lload hx hb dX5_sorted_130 (lv_at hl 0 rfl) ?_
  refine lv_bipush (v := nI 36) hx hb dX5_sorted_132 (by decide +kernel) ?_
  refine wk_lshl hx hb (by decide) dX5_sorted_134 ?_
  refine lv_lor hx hb dX5_sorted_135 ?_
  refine wk_tl (v' := lN (ysrt x)) (ysrt_or (by omega) (by omega) (by omega) (by omega)) ?_
  exact W.lret hx hb hr (fun t9 ht _ => ⟨rfl, ht⟩) (fun _ h => nomatch h) dX5_sorted_136
