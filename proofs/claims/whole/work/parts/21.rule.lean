set_option maxHeartbeats 4000000 in
set_option maxRecDepth 100000 in
/-- boxesAbove -/
theorem c_X2_boxesAbove (l : Launch) (w r : Nat) (hw0 : w < 2 ^ 32) (hr0 : r < 8) : Met l yX2_boxesAbove wsX2_boxesAbove ({ frames := 1, cells := 0, slots := 0, locals := 21 }) (va_Pc [.int (nI w), .int (nI r)] (fun _ => True)) (pu_Q (.int (nI (yab w r)))) 0 0 (fun _ => False) := by
  refine Met.ofW (cc := cX2_boxesAbove) (maxL := 3) (ret := (some .int)) (by decide) rfl ?_
  intro p e s m args below meth c s₁ B hml hv
  obtain ⟨rfl, -⟩ := hv
  have hx := B.exec
  have hb := B.bytes
  have hr := B.returns
  have hts := atoms_spec (ws := wsX2_boxesAbove) B.pre
  have hown : s.vm.findClass RX2 = some m.cls := findClass_of_methodNamed B.named
  have hlocks := B.notSynchronized
  have hl := lv_entry ([.int (nI w), .int (nI r)]) (n := 3) (Nat.le_of_ble_eq_true rfl)
  rw [lg_entry_eq]
  generalize (lg_sl ([.int (nI w), .int (nI r)]) ++ List.replicate (3 - (lg_sl ([.int (nI w), .int (nI r)])).length) Slot.unset).toArray = ls at hl ⊢
  have hl : lv_has ls 3 [(0, .int (nI w)), (1, .int (nI r))] := hl
  refine lv_iconst (v := nI 0) hx hb dX2_boxesAbove_0 (by decide +kernel) ?_
  refine lv_istore_n (lv' := [(2, .int (nI 0)), (0, .int (nI w)), (1, .int (nI r))]) hx hb dX2_boxesAbove_1 rfl hl (by decide) rfl (fun ls hl => ?_)
  have cut_2 : ∀ (n_2 : Nat) (k : Nat) (v2_0 : Int32) (v2_1 : Int32) (v2_2 : Int32) (ls : Array Slot) (hk : k ≤ 4) (hj : ∀ j, j < k → yr w j ≠ r) (hn_2 : 4 - k < n_2) (_ : v2_0 = nI w) (_ : v2_1 = nI r) (_ : v2_2 = nI k) (_ : lv_has ls 3 [(0, .int v2_0), (1, .int v2_1), (2, .int v2_2)]), W p l e (headSpec wsX2_boxesAbove ({ frames := 1, cells := 0, slots := 0, locals := 21 })).room s m ([.int (nI w), .int (nI r)] : List Value).toArray below meth c s.heap [] 0 0 (MQ below (pu_Q (.int (nI (yab w r)))) ([.int (nI w), .int (nI r)] : List Value).toArray s 0 0 (fun _ => False)) (F0 m 2 ls []) := by
    intro n_2
    induction n_2 with
    | zero => intros; omega
    | succ n_2 ih_2 =>
      rintro k v2_0 v2_1 v2_2 ls hk hj hn_2 rfl rfl rfl hl
      have hq := yr_lt w k
      refine lv_iload_n hx hb dX2_boxesAbove_2 rfl (lv_at hl 2 rfl) ?_
      refine lv_iconst (v := nI 4) hx hb dX2_boxesAbove_3 (by decide +kernel) ?_
      refine wk_icmp_ge (tgt := 24) hx hb (by omega) (by omega) dX2_boxesAbove_4 (by decide) (fun c_4 => ?_) (fun c_4 => ?_)
      · refine lv_iconst (v := nI 4) hx hb dX2_boxesAbove_24 (by decide +kernel) ?_
        refine wk_ti (v' := nI (yab w r)) (by rw [yab_of hj hk (fun _ => by omega), show k = 4 by omega]) ?_
        exact W.iret hx hb hr (fun t9 ht _ => ⟨rfl, ht⟩) (fun _ h => nomatch h) dX2_boxesAbove_25
      · refine lv_iload_n hx hb dX2_boxesAbove_7 rfl (lv_at hl 0 rfl) ?_
        refine lv_iload_n hx hb dX2_boxesAbove_8 rfl (lv_at hl 2 rfl) ?_
        refine pu_go (va_runS (As := [.int (nI w), .int (nI k)]) (rest := []) ⟨hx, hb, hml, hown, hts⟩ (c_X5_rankIn l w k (by first | omega | assumption) (by first | omega | assumption)) (va_cwS 2 hts gX2_boxesAbove_X5_rankIn rfl rfl rfl (by decide +kernel) ⟨Nat.le_of_ble_eq_true rfl, Nat.le_of_ble_eq_true rfl⟩) ⟨fun _ _ _ _ q => q, fun _ _ _ => ⟨rfl, trivial⟩⟩ rfl rfl hl.1 rfl (lv_room (Nat.le_of_ble_eq_true rfl)) dX2_boxesAbove_9 ⟨Nat.le_refl _, Nat.le_refl _⟩) ?_
        refine lv_iload_n hx hb dX2_boxesAbove_12 rfl (lv_at hl 1 rfl) ?_
        refine wk_icmp_ne (tgt := 18) hx hb (by omega) (by omega) dX2_boxesAbove_13 (by decide) (fun c_13 => ?_) (fun c_13 => ?_)
        · refine lv_iinc (v := nI (k + 1)) (lv' := [(2, .int (nI (k + 1))), (0, .int (nI w)), (1, .int (nI r))]) hx hb dX2_boxesAbove_18 hl (k := 2) rfl (wk_inc _ 1 rfl) (by decide) rfl (fun ls hl => ?_)
          refine lv_goto (tgt := 2) hx hb dX2_boxesAbove_21 (by decide) ?_
          exact ih_2 (k + 1) _ _ _ ls (by omega) (lt_s hj c_13) (by omega) (rfl) (rfl) (rfl) (lv_sub hl [1, 2, 0] rfl)
        · refine lv_iload_n hx hb dX2_boxesAbove_16 rfl (lv_at hl 2 rfl) ?_
          refine wk_ti (v' := nI (yab w r)) (by rw [yab_of hj hk (fun _ => c_13)]) ?_
          exact W.iret hx hb hr (fun t9 ht _ => ⟨rfl, ht⟩) (fun _ h => nomatch h) dX2_boxesAbove_17
  exact cut_2 (4 + 1) 0 _ _ _ ls (by omega) (fun j h => by omega) (by omega) (rfl) (rfl) (rfl) (lv_sub hl [1, 2, 0] rfl)
set_option maxHeartbeats 4000000 in
set_option maxRecDepth 100000 in
/-- source -/
theorem c_X2_source (l : Launch) (x n : Nat) (hx0 : x < 2 ^ 48) (hn0 : n ≤ 4) : Met l yX2_source wsX2_source ({ frames := 2, cells := 0, slots := 0, locals := 43 }) (va_Pc [.long (lN x), .int (nI n)] (fun _ => True)) (pu_Q (.int (nI ((ysrc x (ylo x 16) n).2)))) 0 0 (fun _ => False) := by
  refine Met.ofW (cc := cX2_source) (maxL := 8) (ret := (some .int)) (by decide) rfl ?_
  intro p e s m args below meth c s₁ B hml hv
  obtain ⟨rfl, -⟩ := hv
  have hx := B.exec
  have hb := B.bytes
  have hr := B.returns
  have hts := atoms_spec (ws := wsX2_source) B.pre
  have hown : s.vm.findClass RX2 = some m.cls := findClass_of_methodNamed B.named
  have hlocks := B.notSynchronized
  have hl := lv_entry ([.long (lN x), .int (nI n)]) (n := 8) (Nat.le_of_ble_eq_true rfl)
  rw [lg_entry_eq]
  generalize (lg_sl ([.long (lN x), .int (nI n)]) ++ List.replicate (8 - (lg_sl ([.long (lN x), .int (nI n)])).length) Slot.unset).toArray = ls at hl ⊢
  have hl : lv_has ls 8 [(0, .long (lN x)), (2, .int (nI n))] := hl
  have hq0 := ylo_lt x 16
  refine lv_lload_n hx hb dX2_source_0 rfl (lv_at hl 0 rfl) ?_
  refine pu_go (va_runS (As := [.long (lN x)]) (rest := []) ⟨hx, hb, hml, hown, hts⟩ (c_X5_nextRank l x (by first | omega | assumption)) (va_cwS 1 hts gX2_source_X5_nextRank rfl rfl rfl (by decide +kernel) ⟨Nat.le_of_ble_eq_true rfl, Nat.le_of_ble_eq_true rfl⟩) ⟨fun _ _ _ _ q => q, fun _ _ _ => ⟨rfl, trivial⟩⟩ rfl rfl hl.1 rfl (lv_room (Nat.le_of_ble_eq_true rfl)) dX2_source_1 ⟨Nat.le_refl _, Nat.le_refl _⟩) ?_
  refine lv_istore_n (lv' := [(3, .int (nI (ylo x 16))), (0, .long (lN x)), (2, .int (nI n))]) hx hb dX2_source_4 rfl hl (by decide) rfl (fun ls hl => ?_)
  refine lv_iconst (v := nI 0) hx hb dX2_source_5 (by decide +kernel) ?_
  refine lv_istore (lv' := [(4, .int (nI 0)), (3, .int (nI (ylo x 16))), (0, .long (lN x)), (2, .int (nI n))]) hx hb dX2_source_6 hl (by decide) rfl (fun ls hl => ?_)
  refine lv_iconst (v := nI 4) hx hb dX2_source_8 (by decide +kernel) ?_
  refine lv_istore (lv' := [(5, .int (nI 4)), (4, .int (nI 0)), (3, .int (nI (ylo x 16))), (0, .long (lN x)), (2, .int (nI n))]) hx hb dX2_source_9 hl (by decide) rfl (fun ls hl => ?_)
  refine lv_iconst (v := nI 0) hx hb dX2_source_11 (by decide +kernel) ?_
  refine lv_istore (lv' := [(6, .int (nI 0)), (5, .int (nI 4)), (4, .int (nI 0)), (3, .int (nI (ylo x 16))), (0, .long (lN x)), (2, .int (nI n))]) hx hb dX2_source_12 hl (by decide) rfl (fun ls hl => ?_)
  have cut_14 : ∀ (n_14 : Nat) (k : Nat) (v14_0 : Int64) (v14_2 : Int32) (v14_3 : Int32) (v14_4 : Int32) (v14_5 : Int32) (v14_6 : Int32) (ls : Array Slot) (hk : k ≤ n) (hn_14 : n - k < n_14) (_ : v14_0 = lN x) (_ : v14_2 = nI n) (_ : v14_3 = nI (ylo x 16)) (_ : v14_4 = nI ((ysrc x (ylo x 16) k).2)) (_ : v14_5 = nI ((ysrc x (ylo x 16) k).1)) (_ : v14_6 = nI k) (_ : lv_has ls 8 [(0, .long v14_0), (2, .int v14_2), (3, .int v14_3), (4, .int v14_4), (5, .int v14_5), (6, .int v14_6)]), W p l e (headSpec wsX2_source ({ frames := 2, cells := 0, slots := 0, locals := 43 })).room s m ([.long (lN x), .int (nI n)] : List Value).toArray below meth c s.heap [] 0 0 (MQ below (pu_Q (.int (nI ((ysrc x (ylo x 16) n).2)))) ([.long (lN x), .int (nI n)] : List Value).toArray s 0 0 (fun _ => False)) (F0 m 14 ls []) := by
    intro n_14
    induction n_14 with
    | zero => intros; omega
    | succ n_14 ih_14 =>
      rintro k v14_0 v14_2 v14_3 v14_4 v14_5 v14_6 ls hk hn_14 rfl rfl rfl rfl rfl rfl hl
      have hq1 := yw_lt x k
      have hq2 := yab_le (yw x k) (ylo x 16)
      have hq3 := ysrc_le x (ylo x 16) k
      refine lv_iload hx hb dX2_source_14 (lv_at hl 5 rfl) ?_
      refine lv_iload_n hx hb dX2_source_16 rfl (lv_at hl 1 rfl) ?_
      refine wk_icmp_ge (tgt := 53) hx hb (by omega) (by omega) dX2_source_17 (by decide) (fun c_17 => ?_) (fun c_17 => ?_)
      · refine lv_iload hx hb dX2_source_53 (lv_at hl 3 rfl) ?_
        refine wk_ti (v' := nI ((ysrc x (ylo x 16) n).2)) (by rw [show k = n by omega]) ?_
        exact W.iret hx hb hr (fun t9 ht _ => ⟨rfl, ht⟩) (fun _ h => nomatch h) dX2_source_55
      · refine lv_lload_n hx hb dX2_source_20 rfl (lv_at hl 0 rfl) ?_
        refine lv_iload hx hb dX2_source_21 (lv_at hl 5 rfl) ?_
        refine pu_go (va_runS (As := [.long (lN x), .int (nI k)]) (rest := []) ⟨hx, hb, hml, hown, hts⟩ (c_X5_wordOf l x k (by first | omega | assumption) (by first | omega | assumption)) (va_cwS 2 hts gX2_source_X5_wordOf rfl rfl rfl (by decide +kernel) ⟨Nat.le_of_ble_eq_true rfl, Nat.le_of_ble_eq_true rfl⟩) ⟨fun _ _ _ _ q => q, fun _ _ _ => ⟨rfl, trivial⟩⟩ rfl rfl hl.1 rfl (lv_room (Nat.le_of_ble_eq_true rfl)) dX2_source_23 ⟨Nat.le_refl _, Nat.le_refl _⟩) ?_
        refine lv_iload_n hx hb dX2_source_26 rfl (lv_at hl 2 rfl) ?_
        refine pu_go (va_runS (As := [.int (nI (yw x k)), .int (nI (ylo x 16))]) (rest := []) ⟨hx, hb, hml, hown, hts⟩ (c_X2_boxesAbove l (yw x k) (ylo x 16) (by first | omega | assumption) (by first | omega | assumption)) (va_cwS 2 hts gX2_source_X2_boxesAbove rfl rfl rfl (by decide +kernel) ⟨Nat.le_of_ble_eq_true rfl, Nat.le_of_ble_eq_true rfl⟩) ⟨fun _ _ _ _ q => q, fun _ _ _ => ⟨rfl, trivial⟩⟩ rfl rfl hl.1 rfl (lv_room (Nat.le_of_ble_eq_true rfl)) dX2_source_27 ⟨Nat.le_refl _, Nat.le_refl _⟩) ?_
        refine lv_istore (lv' := [(7, .int (nI (yab (yw x k) (ylo x 16)))), (0, .long (lN x)), (2, .int (nI n)), (3, .int (nI (ylo x 16))), (4, .int (nI ((ysrc x (ylo x 16) k).2))), (5, .int (nI ((ysrc x (ylo x 16) k).1))), (6, .int (nI k))]) hx hb dX2_source_30 hl (by decide) rfl (fun ls hl => ?_)
        have cut_47 : ∀ (v47_0 : Int64) (v47_2 : Int32) (v47_3 : Int32) (v47_4 : Int32) (v47_5 : Int32) (v47_6 : Int32) (ls : Array Slot) (_ : v47_0 = lN x) (_ : v47_2 = nI n) (_ : v47_3 = nI (ylo x 16)) (_ : v47_4 = nI ((ysrc x (ylo x 16) (k + 1)).2)) (_ : v47_5 = nI ((ysrc x (ylo x 16) (k + 1)).1)) (_ : v47_6 = nI k) (_ : lv_has ls 8 [(0, .long v47_0), (2, .int v47_2), (3, .int v47_3), (4, .int v47_4), (5, .int v47_5), (6, .int v47_6)]), W p l e (headSpec wsX2_source ({ frames := 2, cells := 0, slots := 0, locals := 43 })).room s m ([.long (lN x), .int (nI n)] : List Value).toArray below meth c s.heap [] 0 0 (MQ below (pu_Q (.int (nI ((ysrc x (ylo x 16) n).2)))) ([.long (lN x), .int (nI n)] : List Value).toArray s 0 0 (fun _ => False)) (F0 m 47 ls []) := by
          rintro v47_0 v47_2 v47_3 v47_4 v47_5 v47_6 ls rfl rfl rfl rfl rfl rfl hl
          refine lv_iinc (v := nI (k + 1)) (lv' := [(6, .int (nI (k + 1))), (0, .long (lN x)), (2, .int (nI n)), (3, .int (nI (ylo x 16))), (4, .int (nI ((ysrc x (ylo x 16) (k + 1)).2))), (5, .int (nI ((ysrc x (ylo x 16) (k + 1)).1)))]) hx hb dX2_source_47 hl (k := 5) rfl (wk_inc _ 1 rfl) (by decide) rfl (fun ls hl => ?_)
          refine lv_goto (tgt := 14) hx hb dX2_source_50 (by decide) ?_
          exact ih_14 (k + 1) _ _ _ _ _ _ ls (by omega) (by omega) (rfl) (rfl) (rfl) (rfl) (rfl) (rfl) (lv_sub hl [1, 2, 3, 4, 5, 0] rfl)
        refine lv_iload hx hb dX2_source_32 (lv_at hl 0 rfl) ?_
        refine lv_iload hx hb dX2_source_34 (lv_at hl 5 rfl) ?_
        refine wk_icmp_ge (tgt := 47) hx hb (by omega) (by omega) dX2_source_36 (by decide) (fun c_36 => ?_) (fun c_36 => ?_)
        · exact cut_47 _ _ _ _ _ _ ls (rfl) (rfl) (rfl) (by rw [ysrc_s, if_neg (by omega)]) (by rw [ysrc_s, if_neg (by omega)]) (rfl) (lv_sub hl [1, 2, 3, 4, 5, 6] rfl)
        · refine lv_iload hx hb dX2_source_39 (lv_at hl 0 rfl) ?_
          refine lv_istore (lv' := [(5, .int (nI (yab (yw x k) (ylo x 16)))), (7, .int (nI (yab (yw x k) (ylo x 16)))), (0, .long (lN x)), (2, .int (nI n)), (3, .int (nI (ylo x 16))), (4, .int (nI ((ysrc x (ylo x 16) k).2))), (6, .int (nI k))]) hx hb dX2_source_41 hl (by decide) rfl (fun ls hl => ?_)
          refine lv_iload hx hb dX2_source_43 (lv_at hl 6 rfl) ?_
          refine lv_istore (lv' := [(4, .int (nI k)), (5, .int (nI (yab (yw x k) (ylo x 16)))), (7, .int (nI (yab (yw x k) (ylo x 16)))), (0, .long (lN x)), (2, .int (nI n)), (3, .int (nI (ylo x 16))), (6, .int (nI k))]) hx hb dX2_source_45 hl (by decide) rfl (fun ls hl => ?_)
          exact cut_47 _ _ _ _ _ _ ls (rfl) (rfl) (rfl) (by rw [ysrc_s, if_pos c_36]) (by rw [ysrc_s, if_pos c_36]) (rfl) (lv_sub hl [3, 4, 5, 0, 1, 6] rfl)
  exact cut_14 (n + 1) 0 _ _ _ _ _ _ ls (by omega) (by omega) (rfl) (rfl) (rfl) (rfl) (rfl) (rfl) (lv_sub hl [4, 5, 3, 2, 1, 0] rfl)
set_option maxHeartbeats 8000000 in
set_option maxRecDepth 100000 in
/-- target -/
theorem c_X2_target (l : Launch) (x fr n t0 : Nat) (hx0 : x < 2 ^ 48) (hf0 : fr < 4) (hn0 : n ≤ 4) (ht0 : 0 < t0 ∧ t0 < 8) : Met l yX2_target wsX2_target ({ frames := 2, cells := 0, slots := 0, locals := 44 }) (va_Pc [.long (lN x), .int (nI fr), .int (nI n), .int (nI t0)] (fun _ => True)) (pu_Q (.int (oN (ytgt x fr n t0)))) 0 0 (fun _ => False) := by
  refine Met.ofW (cc := cX2_target) (maxL := 13) (ret := (some .int)) (by decide) rfl ?_
  intro p e s m args below meth c s₁ B hml hv
  obtain ⟨rfl, -⟩ := hv
  have hx := B.exec
  have hb := B.bytes
  have hr := B.returns
  have hts := atoms_spec (ws := wsX2_target) B.pre
  have hown : s.vm.findClass RX2 = some m.cls := findClass_of_methodNamed B.named
  have hlocks := B.notSynchronized
  have hl := lv_entry ([.long (lN x), .int (nI fr), .int (nI n), .int (nI t0)]) (n := 13) (Nat.le_of_ble_eq_true rfl)
  rw [lg_entry_eq]
  generalize (lg_sl ([.long (lN x), .int (nI fr), .int (nI n), .int (nI t0)]) ++ List.replicate (13 - (lg_sl ([.long (lN x), .int (nI fr), .int (nI n), .int (nI t0)])).length) Slot.unset).toArray = ls at hl ⊢
  have hl : lv_has ls 13 [(0, .long (lN x)), (2, .int (nI fr)), (3, .int (nI n)), (4, .int (nI t0))] := hl
  have hq0 := yr_lt (yw x fr) 0
  have hq00 := yw_lt x fr
  refine lv_lload_n hx hb dX2_target_0 rfl (lv_at hl 0 rfl) ?_
  refine lv_iload_n hx hb dX2_target_1 rfl (lv_at hl 1 rfl) ?_
  refine pu_go (va_runS (As := [.long (lN x), .int (nI fr)]) (rest := []) ⟨hx, hb, hml, hown, hts⟩ (c_X5_wordOf l x fr (by first | omega | assumption) (by first | omega | assumption)) (va_cwS 2 hts gX2_target_X5_wordOf rfl rfl rfl (by decide +kernel) ⟨Nat.le_of_ble_eq_true rfl, Nat.le_of_ble_eq_true rfl⟩) ⟨fun _ _ _ _ q => q, fun _ _ _ => ⟨rfl, trivial⟩⟩ rfl rfl hl.1 rfl (lv_room (Nat.le_of_ble_eq_true rfl)) dX2_target_2 ⟨Nat.le_refl _, Nat.le_refl _⟩) ?_
  refine lv_iconst (v := nI 0) hx hb dX2_target_5 (by decide +kernel) ?_
  refine pu_go (va_runS (As := [.int (nI (yw x fr)), .int (nI 0)]) (rest := []) ⟨hx, hb, hml, hown, hts⟩ (c_X5_rankIn l (yw x fr) 0 (by first | omega | assumption) (by first | omega | assumption)) (va_cwS 2 hts gX2_target_X5_rankIn rfl rfl rfl (by decide +kernel) ⟨Nat.le_of_ble_eq_true rfl, Nat.le_of_ble_eq_true rfl⟩) ⟨fun _ _ _ _ q => q, fun _ _ _ => ⟨rfl, trivial⟩⟩ rfl rfl hl.1 rfl (lv_room (Nat.le_of_ble_eq_true rfl)) dX2_target_6 ⟨Nat.le_refl _, Nat.le_refl _⟩) ?_
  refine lv_istore (lv' := [(5, .int (nI (yr (yw x fr) 0))), (0, .long (lN x)), (2, .int (nI fr)), (3, .int (nI n)), (4, .int (nI t0))]) hx hb dX2_target_9 hl (by decide) rfl (fun ls hl => ?_)
  refine lv_iconst (v := -1) hx hb dX2_target_11 (by decide +kernel) ?_
  refine lv_istore (lv' := [(6, .int (-1)), (5, .int (nI (yr (yw x fr) 0))), (0, .long (lN x)), (2, .int (nI fr)), (3, .int (nI n)), (4, .int (nI t0))]) hx hb dX2_target_12 hl (by decide) rfl (fun ls hl => ?_)
  refine lv_iconst (v := nI 0) hx hb dX2_target_14 (by decide +kernel) ?_
  refine lv_istore (lv' := [(7, .int (nI 0)), (6, .int (-1)), (5, .int (nI (yr (yw x fr) 0))), (0, .long (lN x)), (2, .int (nI fr)), (3, .int (nI n)), (4, .int (nI t0))]) hx hb dX2_target_15 hl (by decide) rfl (fun ls hl => ?_)
  refine lv_iconst (v := -1) hx hb dX2_target_17 (by decide +kernel) ?_
  refine lv_istore (lv' := [(8, .int (-1)), (7, .int (nI 0)), (6, .int (-1)), (5, .int (nI (yr (yw x fr) 0))), (0, .long (lN x)), (2, .int (nI fr)), (3, .int (nI n)), (4, .int (nI t0))]) hx hb dX2_target_18 hl (by decide) rfl (fun ls hl => ?_)
  refine lv_iconst (v := nI 0) hx hb dX2_target_20 (by decide +kernel) ?_
  refine lv_istore (lv' := [(9, .int (nI 0)), (8, .int (-1)), (7, .int (nI 0)), (6, .int (-1)), (5, .int (nI (yr (yw x fr) 0))), (0, .long (lN x)), (2, .int (nI fr)), (3, .int (nI n)), (4, .int (nI t0))]) hx hb dX2_target_21 hl (by decide) rfl (fun ls hl => ?_)
  refine lv_iconst (v := nI 0) hx hb dX2_target_23 (by decide +kernel) ?_
  refine lv_istore (lv' := [(10, .int (nI 0)), (9, .int (nI 0)), (8, .int (-1)), (7, .int (nI 0)), (6, .int (-1)), (5, .int (nI (yr (yw x fr) 0))), (0, .long (lN x)), (2, .int (nI fr)), (3, .int (nI n)), (4, .int (nI t0))]) hx hb dX2_target_24 hl (by decide) rfl (fun ls hl => ?_)
  have cut_26 : ∀ (n_26 : Nat) (k : Nat) (v26_0 : Int64) (v26_2 : Int32) (v26_3 : Int32) (v26_4 : Int32) (v26_5 : Int32) (v26_6 : Int32) (v26_7 : Int32) (v26_8 : Int32) (v26_9 : Int32) (v26_10 : Int32) (ls : Array Slot) (hk : k ≤ n) (hn_26 : n - k < n_26) (_ : v26_0 = lN x) (_ : v26_2 = nI fr) (_ : v26_3 = nI n) (_ : v26_4 = nI t0) (_ : v26_5 = nI (yr (yw x fr) 0)) (_ : v26_6 = oN ((ytg x fr t0 (yr (yw x fr) 0) k).1).1) (_ : v26_7 = nI (((ytg x fr t0 (yr (yw x fr) 0) k).1).2)) (_ : v26_8 = oN ((ytg x fr t0 (yr (yw x fr) 0) k).2).1) (_ : v26_9 = nI (((ytg x fr t0 (yr (yw x fr) 0) k).2).2)) (_ : v26_10 = nI k) (_ : lv_has ls 13 [(0, .long v26_0), (2, .int v26_2), (3, .int v26_3), (4, .int v26_4), (5, .int v26_5), (6, .int v26_6), (7, .int v26_7), (8, .int v26_8), (9, .int v26_9), (10, .int v26_10)]), W p l e (headSpec wsX2_target ({ frames := 2, cells := 0, slots := 0, locals := 44 })).room s m ([.long (lN x), .int (nI fr), .int (nI n), .int (nI t0)] : List Value).toArray below meth c s.heap [] 0 0 (MQ below (pu_Q (.int (oN (ytgt x fr n t0)))) ([.long (lN x), .int (nI fr), .int (nI n), .int (nI t0)] : List Value).toArray s 0 0 (fun _ => False)) (F0 m 26 ls []) := by
    intro n_26
    induction n_26 with
    | zero => intros; omega
    | succ n_26 ih_26 =>
      rintro k v26_0 v26_2 v26_3 v26_4 v26_5 v26_6 v26_7 v26_8 v26_9 v26_10 ls hk hn_26 rfl rfl rfl rfl rfl rfl rfl rfl rfl rfl hl
      have hq1 := yw_lt x k
      have hq2 := ylo_lt (yw x k) 4
      have hq3 := ytg_ok x fr t0 (yr (yw x fr) 0) k
      refine lv_iload hx hb dX2_target_26 (lv_at hl 9 rfl) ?_
      refine lv_iload_n hx hb dX2_target_28 rfl (lv_at hl 2 rfl) ?_
      refine wk_icmp_ge (tgt := 121) hx hb (by omega) (by omega) dX2_target_29 (by decide) (fun c_29 => ?_) (fun c_29 => ?_)
      · have hkn : k = n := by omega
        refine lv_iload hx hb dX2_target_121 (lv_at hl 5 rfl) ?_
        refine lv_iconst (v := -1) hx hb dX2_target_123 (by decide +kernel) ?_
        refine lv_icmp_eq (tgt := 132) hx hb dX2_target_124 (by decide) (fun c_124 => ?_) (fun c_124 => ?_)
        · have hq5 := (oN_m1 (fun k h => by have := hq3.1.1 k h; omega)).mp c_124
          refine lv_iload hx hb dX2_target_132 (lv_at hl 7 rfl) ?_
          refine wk_ti (v' := oN (ytgt x fr n t0)) (by unfold ytgt; rw [← hkn, if_pos hq5]) ?_
          exact W.iret hx hb hr (fun t9 ht _ => ⟨rfl, ht⟩) (fun _ h => nomatch h) dX2_target_134
        · have hq5 := fun q => c_124 ((oN_m1 (fun k h => by have := hq3.1.1 k h; omega)).mpr q)
          refine lv_iload hx hb dX2_target_127 (lv_at hl 5 rfl) ?_
          refine lv_goto (tgt := 134) hx hb dX2_target_129 (by decide) ?_
          refine wk_ti (v' := oN (ytgt x fr n t0)) (by unfold ytgt; rw [← hkn, if_neg hq5]) ?_
          exact W.iret hx hb hr (fun t9 ht _ => ⟨rfl, ht⟩) (fun _ h => nomatch h) dX2_target_134
      · refine lv_lload_n hx hb dX2_target_32 rfl (lv_at hl 0 rfl) ?_
        refine lv_iload hx hb dX2_target_33 (lv_at hl 9 rfl) ?_
        refine pu_go (va_runS (As := [.long (lN x), .int (nI k)]) (rest := []) ⟨hx, hb, hml, hown, hts⟩ (c_X5_wordOf l x k (by first | omega | assumption) (by first | omega | assumption)) (va_cwS 2 hts gX2_target_X5_wordOf rfl rfl rfl (by decide +kernel) ⟨Nat.le_of_ble_eq_true rfl, Nat.le_of_ble_eq_true rfl⟩) ⟨fun _ _ _ _ q => q, fun _ _ _ => ⟨rfl, trivial⟩⟩ rfl rfl hl.1 rfl (lv_room (Nat.le_of_ble_eq_true rfl)) dX2_target_35 ⟨Nat.le_refl _, Nat.le_refl _⟩) ?_
        have cut_115 : ∀ (v115_0 : Int64) (v115_2 : Int32) (v115_3 : Int32) (v115_4 : Int32) (v115_5 : Int32) (v115_6 : Int32) (v115_7 : Int32) (v115_8 : Int32) (v115_9 : Int32) (v115_10 : Int32) (ls : Array Slot) (_ : v115_0 = lN x) (_ : v115_2 = nI fr) (_ : v115_3 = nI n) (_ : v115_4 = nI t0) (_ : v115_5 = nI (yr (yw x fr) 0)) (_ : v115_6 = oN ((ytg x fr t0 (yr (yw x fr) 0) (k + 1)).1).1) (_ : v115_7 = nI (((ytg x fr t0 (yr (yw x fr) 0) (k + 1)).1).2)) (_ : v115_8 = oN ((ytg x fr t0 (yr (yw x fr) 0) (k + 1)).2).1) (_ : v115_9 = nI (((ytg x fr t0 (yr (yw x fr) 0) (k + 1)).2).2)) (_ : v115_10 = nI k) (_ : lv_has ls 13 [(0, .long v115_0), (2, .int v115_2), (3, .int v115_3), (4, .int v115_4), (5, .int v115_5), (6, .int v115_6), (7, .int v115_7), (8, .int v115_8), (9, .int v115_9), (10, .int v115_10)]), W p l e (headSpec wsX2_target ({ frames := 2, cells := 0, slots := 0, locals := 44 })).room s m ([.long (lN x), .int (nI fr), .int (nI n), .int (nI t0)] : List Value).toArray below meth c s.heap [] 0 0 (MQ below (pu_Q (.int (oN (ytgt x fr n t0)))) ([.long (lN x), .int (nI fr), .int (nI n), .int (nI t0)] : List Value).toArray s 0 0 (fun _ => False)) (F0 m 115 ls []) := by
          rintro v115_0 v115_2 v115_3 v115_4 v115_5 v115_6 v115_7 v115_8 v115_9 v115_10 ls rfl rfl rfl rfl rfl rfl rfl rfl rfl rfl hl
          refine lv_iinc (v := nI (k + 1)) (lv' := [(10, .int (nI (k + 1))), (0, .long (lN x)), (2, .int (nI fr)), (3, .int (nI n)), (4, .int (nI t0)), (5, .int (nI (yr (yw x fr) 0))), (6, .int (oN ((ytg x fr t0 (yr (yw x fr) 0) (k + 1)).1).1)), (7, .int (nI (((ytg x fr t0 (yr (yw x fr) 0) (k + 1)).1).2))), (8, .int (oN ((ytg x fr t0 (yr (yw x fr) 0) (k + 1)).2).1)), (9, .int (nI (((ytg x fr t0 (yr (yw x fr) 0) (k + 1)).2).2)))]) hx hb dX2_target_115 hl (k := 9) rfl (wk_inc _ 1 rfl) (by decide) rfl (fun ls hl => ?_)
          refine lv_goto (tgt := 26) hx hb dX2_target_118 (by decide) ?_
          exact ih_26 (k + 1) _ _ _ _ _ _ _ _ _ _ ls (by omega) (by omega) (rfl) (rfl) (rfl) (rfl) (rfl) (rfl) (rfl) (rfl) (rfl) (rfl) (lv_sub hl [1, 2, 3, 4, 5, 6, 7, 8, 9, 0] rfl)
        refine lv_istore (lv' := [(11, .int (nI (yw x k))), (0, .long (lN x)), (2, .int (nI fr)), (3, .int (nI n)), (4, .int (nI t0)), (5, .int (nI (yr (yw x fr) 0))), (6, .int (oN ((ytg x fr t0 (yr (yw x fr) 0) k).1).1)), (7, .int (nI (((ytg x fr t0 (yr (yw x fr) 0) k).1).2))), (8, .int (oN ((ytg x fr t0 (yr (yw x fr) 0) k).2).1)), (9, .int (nI (((ytg x fr t0 (yr (yw x fr) 0) k).2).2))), (10, .int (nI k))]) hx hb dX2_target_38 hl (by decide) rfl (fun ls hl => ?_)
        refine lv_iload hx hb dX2_target_40 (lv_at hl 10 rfl) ?_
        refine lv_iload_n hx hb dX2_target_42 rfl (lv_at hl 2 rfl) ?_
        refine wk_icmp_eq (tgt := 115) hx hb (by omega) (by omega) dX2_target_43 (by decide) (fun c_43 => ?_) (fun c_43 => ?_)
        · exact cut_115 _ _ _ _ _ _ _ _ _ _ ls (rfl) (rfl) (rfl) (rfl) (rfl) (by rw [ytg_s, if_pos (Or.inl c_43)]) (by rw [ytg_s, if_pos (Or.inl c_43)]) (by rw [ytg_s, if_pos (Or.inl c_43)]) (by rw [ytg_s, if_pos (Or.inl c_43)]) (rfl) (lv_sub hl [1, 2, 3, 4, 5, 6, 7, 8, 9, 10] rfl)
        · refine lv_iload hx hb dX2_target_46 (lv_at hl 0 rfl) ?_
          refine lv_iload hx hb dX2_target_48 (lv_at hl 4 rfl) ?_
          refine pu_go (va_runS (As := [.int (nI (yw x k)), .int (nI t0)]) (rest := []) ⟨hx, hb, hml, hown, hts⟩ (c_X5_isFull l (yw x k) t0 (by first | omega | assumption) (by first | omega | assumption)) (va_cwS 2 hts gX2_target_X5_isFull rfl rfl rfl (by decide +kernel) ⟨Nat.le_of_ble_eq_true rfl, Nat.le_of_ble_eq_true rfl⟩) ⟨fun _ _ _ _ q => q, fun _ _ _ => ⟨rfl, trivial⟩⟩ rfl rfl hl.1 rfl (lv_room (Nat.le_of_ble_eq_true rfl)) dX2_target_50 ⟨Nat.le_refl _, Nat.le_refl _⟩) ?_
          refine wk_bn_eq (tgt := 59) hx hb dX2_target_53 (by decide) (fun c_53 => ?_) (fun c_53 => ?_)
          · refine lv_iload hx hb dX2_target_59 (lv_at hl 0 rfl) ?_
            refine pu_go (va_runS (As := [.int (nI (yw x k))]) (rest := []) ⟨hx, hb, hml, hown, hts⟩ (c_X5_leastRank l (yw x k) (by first | omega | assumption)) (va_cwS 1 hts gX2_target_X5_leastRank rfl rfl rfl (by decide +kernel) ⟨Nat.le_of_ble_eq_true rfl, Nat.le_of_ble_eq_true rfl⟩) ⟨fun _ _ _ _ q => q, fun _ _ _ => ⟨rfl, trivial⟩⟩ rfl rfl hl.1 rfl (lv_room (Nat.le_of_ble_eq_true rfl)) dX2_target_61 ⟨Nat.le_refl _, Nat.le_refl _⟩) ?_
            refine lv_istore (lv' := [(12, .int (nI (ylo (yw x k) 4))), (11, .int (nI (yw x k))), (0, .long (lN x)), (2, .int (nI fr)), (3, .int (nI n)), (4, .int (nI t0)), (5, .int (nI (yr (yw x fr) 0))), (6, .int (oN ((ytg x fr t0 (yr (yw x fr) 0) k).1).1)), (7, .int (nI (((ytg x fr t0 (yr (yw x fr) 0) k).1).2))), (8, .int (oN ((ytg x fr t0 (yr (yw x fr) 0) k).2).1)), (9, .int (nI (((ytg x fr t0 (yr (yw x fr) 0) k).2).2))), (10, .int (nI k))]) hx hb dX2_target_64 hl (by decide) rfl (fun ls hl => ?_)
            have cut_94 : ∀ (v94_0 : Int64) (v94_2 : Int32) (v94_3 : Int32) (v94_4 : Int32) (v94_5 : Int32) (v94_6 : Int32) (v94_7 : Int32) (v94_8 : Int32) (v94_9 : Int32) (v94_10 : Int32) (v94_11 : Int32) (v94_12 : Int32) (ls : Array Slot) (_ : v94_0 = lN x) (_ : v94_2 = nI fr) (_ : v94_3 = nI n) (_ : v94_4 = nI t0) (_ : v94_5 = nI (yr (yw x fr) 0)) (_ : v94_6 = oN (yfit (yr (yw x fr) 0) (ylo (yw x k) 4) k ((ytg x fr t0 (yr (yw x fr) 0) k).1)).1) (_ : v94_7 = nI ((yfit (yr (yw x fr) 0) (ylo (yw x k) 4) k ((ytg x fr t0 (yr (yw x fr) 0) k).1)).2)) (_ : v94_8 = oN ((ytg x fr t0 (yr (yw x fr) 0) k).2).1) (_ : v94_9 = nI (((ytg x fr t0 (yr (yw x fr) 0) k).2).2)) (_ : v94_10 = nI k) (_ : v94_11 = nI (yw x k)) (_ : v94_12 = nI (ylo (yw x k) 4)) (_ : lv_has ls 13 [(0, .long v94_0), (2, .int v94_2), (3, .int v94_3), (4, .int v94_4), (5, .int v94_5), (6, .int v94_6), (7, .int v94_7), (8, .int v94_8), (9, .int v94_9), (10, .int v94_10), (11, .int v94_11), (12, .int v94_12)]), W p l e (headSpec wsX2_target ({ frames := 2, cells := 0, slots := 0, locals := 44 })).room s m ([.long (lN x), .int (nI fr), .int (nI n), .int (nI t0)] : List Value).toArray below meth c s.heap [] 0 0 (MQ below (pu_Q (.int (oN (ytgt x fr n t0)))) ([.long (lN x), .int (nI fr), .int (nI n), .int (nI t0)] : List Value).toArray s 0 0 (fun _ => False)) (F0 m 94 ls []) := by
              rintro v94_0 v94_2 v94_3 v94_4 v94_5 v94_6 v94_7 v94_8 v94_9 v94_10 v94_11 v94_12 ls rfl rfl rfl rfl rfl rfl rfl rfl rfl rfl rfl rfl hl
              refine lv_iload hx hb dX2_target_94 (lv_at hl 7 rfl) ?_
              refine lv_iconst (v := -1) hx hb dX2_target_96 (by decide +kernel) ?_
              refine lv_icmp_eq (tgt := 107) hx hb dX2_target_97 (by decide) (fun c_97 => ?_) (fun c_97 => ?_)
              · have hq6 := (oN_m1 (fun k h => by have := hq3.2.1 k h; omega)).mp c_97
                refine lv_iload hx hb dX2_target_107 (lv_at hl 9 rfl) ?_
                refine lv_istore (lv' := [(8, .int (nI k)), (0, .long (lN x)), (2, .int (nI fr)), (3, .int (nI n)), (4, .int (nI t0)), (5, .int (nI (yr (yw x fr) 0))), (6, .int (oN (yfit (yr (yw x fr) 0) (ylo (yw x k) 4) k ((ytg x fr t0 (yr (yw x fr) 0) k).1)).1)), (7, .int (nI ((yfit (yr (yw x fr) 0) (ylo (yw x k) 4) k ((ytg x fr t0 (yr (yw x fr) 0) k).1)).2))), (9, .int (nI (((ytg x fr t0 (yr (yw x fr) 0) k).2).2))), (10, .int (nI k)), (11, .int (nI (yw x k))), (12, .int (nI (ylo (yw x k) 4)))]) hx hb dX2_target_109 hl (by decide) rfl (fun ls hl => ?_)
                refine lv_iload hx hb dX2_target_111 (lv_at hl 11 rfl) ?_
                refine lv_istore (lv' := [(9, .int (nI (ylo (yw x k) 4))), (8, .int (nI k)), (0, .long (lN x)), (2, .int (nI fr)), (3, .int (nI n)), (4, .int (nI t0)), (5, .int (nI (yr (yw x fr) 0))), (6, .int (oN (yfit (yr (yw x fr) 0) (ylo (yw x k) 4) k ((ytg x fr t0 (yr (yw x fr) 0) k).1)).1)), (7, .int (nI ((yfit (yr (yw x fr) 0) (ylo (yw x k) 4) k ((ytg x fr t0 (yr (yw x fr) 0) k).1)).2))), (10, .int (nI k)), (11, .int (nI (yw x k))), (12, .int (nI (ylo (yw x k) 4)))]) hx hb dX2_target_113 hl (by decide) rfl (fun ls hl => ?_)
                exact cut_115 _ _ _ _ _ _ _ _ _ _ ls (rfl) (rfl) (rfl) (rfl) (rfl) (by rw [ytg_s, if_neg (fun q => q.elim c_43 c_53)]) (by rw [ytg_s, if_neg (fun q => q.elim c_43 c_53)]) (by rw [ytg_s, if_neg (fun q => q.elim c_43 c_53)]; unfold yopn; rw [if_pos (by first | exact Or.inl hq6 | exact Or.inr c_104)]; try rfl) (by rw [ytg_s, if_neg (fun q => q.elim c_43 c_53)]; unfold yopn; rw [if_pos (by first | exact Or.inl hq6 | exact Or.inr c_104)]; try rfl) (rfl) (lv_sub hl [2, 3, 4, 5, 6, 7, 8, 1, 0, 9] rfl)
              · have hq6 := fun q => c_97 ((oN_m1 (fun k h => by have := hq3.2.1 k h; omega)).mpr q)
                refine lv_iload hx hb dX2_target_100 (lv_at hl 11 rfl) ?_
                refine lv_iload hx hb dX2_target_102 (lv_at hl 8 rfl) ?_
                refine wk_icmp_le (tgt := 115) hx hb (by omega) (by omega) dX2_target_104 (by decide) (fun c_104 => ?_) (fun c_104 => ?_)
                · exact cut_115 _ _ _ _ _ _ _ _ _ _ ls (rfl) (rfl) (rfl) (rfl) (rfl) (by rw [ytg_s, if_neg (fun q => q.elim c_43 c_53)]) (by rw [ytg_s, if_neg (fun q => q.elim c_43 c_53)]) (by rw [ytg_s, if_neg (fun q => q.elim c_43 c_53)]; unfold yopn; rw [if_neg (fun q => q.elim hq6 (by omega))]) (by rw [ytg_s, if_neg (fun q => q.elim c_43 c_53)]; unfold yopn; rw [if_neg (fun q => q.elim hq6 (by omega))]) (rfl) (lv_sub hl [0, 1, 2, 3, 4, 5, 6, 7, 8, 9] rfl)
                · refine lv_iload hx hb dX2_target_107 (lv_at hl 9 rfl) ?_
                  refine lv_istore (lv' := [(8, .int (nI k)), (0, .long (lN x)), (2, .int (nI fr)), (3, .int (nI n)), (4, .int (nI t0)), (5, .int (nI (yr (yw x fr) 0))), (6, .int (oN (yfit (yr (yw x fr) 0) (ylo (yw x k) 4) k ((ytg x fr t0 (yr (yw x fr) 0) k).1)).1)), (7, .int (nI ((yfit (yr (yw x fr) 0) (ylo (yw x k) 4) k ((ytg x fr t0 (yr (yw x fr) 0) k).1)).2))), (9, .int (nI (((ytg x fr t0 (yr (yw x fr) 0) k).2).2))), (10, .int (nI k)), (11, .int (nI (yw x k))), (12, .int (nI (ylo (yw x k) 4)))]) hx hb dX2_target_109 hl (by decide) rfl (fun ls hl => ?_)
                  refine lv_iload hx hb dX2_target_111 (lv_at hl 11 rfl) ?_
                  refine lv_istore (lv' := [(9, .int (nI (ylo (yw x k) 4))), (8, .int (nI k)), (0, .long (lN x)), (2, .int (nI fr)), (3, .int (nI n)), (4, .int (nI t0)), (5, .int (nI (yr (yw x fr) 0))), (6, .int (oN (yfit (yr (yw x fr) 0) (ylo (yw x k) 4) k ((ytg x fr t0 (yr (yw x fr) 0) k).1)).1)), (7, .int (nI ((yfit (yr (yw x fr) 0) (ylo (yw x k) 4) k ((ytg x fr t0 (yr (yw x fr) 0) k).1)).2))), (10, .int (nI k)), (11, .int (nI (yw x k))), (12, .int (nI (ylo (yw x k) 4)))]) hx hb dX2_target_113 hl (by decide) rfl (fun ls hl => ?_)
                  exact cut_115 _ _ _ _ _ _ _ _ _ _ ls (rfl) (rfl) (rfl) (rfl) (rfl) (by rw [ytg_s, if_neg (fun q => q.elim c_43 c_53)]) (by rw [ytg_s, if_neg (fun q => q.elim c_43 c_53)]) (by rw [ytg_s, if_neg (fun q => q.elim c_43 c_53)]; unfold yopn; rw [if_pos (by first | exact Or.inl hq6 | exact Or.inr c_104)]; try rfl) (by rw [ytg_s, if_neg (fun q => q.elim c_43 c_53)]; unfold yopn; rw [if_pos (by first | exact Or.inl hq6 | exact Or.inr c_104)]; try rfl) (rfl) (lv_sub hl [2, 3, 4, 5, 6, 7, 8, 1, 0, 9] rfl)
            refine lv_iload hx hb dX2_target_66 (lv_at hl 0 rfl) ?_
            refine lv_iload hx hb dX2_target_68 (lv_at hl 6 rfl) ?_
            refine wk_icmp_lt (tgt := 94) hx hb (by omega) (by omega) dX2_target_70 (by decide) (fun c_70 => ?_) (fun c_70 => ?_)
            · exact cut_94 _ _ _ _ _ _ _ _ _ _ _ _ ls (rfl) (rfl) (rfl) (rfl) (rfl) (by unfold yfit; rw [if_neg (by omega)]) (by unfold yfit; rw [if_neg (by omega)]) (rfl) (rfl) (rfl) (rfl) (rfl) (lv_sub hl [2, 3, 4, 5, 6, 7, 8, 9, 10, 11, 1, 0] rfl)
            · refine lv_iload hx hb dX2_target_73 (lv_at hl 7 rfl) ?_
              refine lv_iconst (v := -1) hx hb dX2_target_75 (by decide +kernel) ?_
              refine lv_icmp_eq (tgt := 86) hx hb dX2_target_76 (by decide) (fun c_76 => ?_) (fun c_76 => ?_)
              · have hq5 := (oN_m1 (fun k h => by have := hq3.1.1 k h; omega)).mp c_76
                refine lv_iload hx hb dX2_target_86 (lv_at hl 11 rfl) ?_
                refine lv_istore (lv' := [(6, .int (nI k)), (12, .int (nI (ylo (yw x k) 4))), (11, .int (nI (yw x k))), (0, .long (lN x)), (2, .int (nI fr)), (3, .int (nI n)), (4, .int (nI t0)), (5, .int (nI (yr (yw x fr) 0))), (7, .int (nI (((ytg x fr t0 (yr (yw x fr) 0) k).1).2))), (8, .int (oN ((ytg x fr t0 (yr (yw x fr) 0) k).2).1)), (9, .int (nI (((ytg x fr t0 (yr (yw x fr) 0) k).2).2))), (10, .int (nI k))]) hx hb dX2_target_88 hl (by decide) rfl (fun ls hl => ?_)
                refine lv_iload hx hb dX2_target_90 (lv_at hl 1 rfl) ?_
                refine lv_istore (lv' := [(7, .int (nI (ylo (yw x k) 4))), (6, .int (nI k)), (12, .int (nI (ylo (yw x k) 4))), (11, .int (nI (yw x k))), (0, .long (lN x)), (2, .int (nI fr)), (3, .int (nI n)), (4, .int (nI t0)), (5, .int (nI (yr (yw x fr) 0))), (8, .int (oN ((ytg x fr t0 (yr (yw x fr) 0) k).2).1)), (9, .int (nI (((ytg x fr t0 (yr (yw x fr) 0) k).2).2))), (10, .int (nI k))]) hx hb dX2_target_92 hl (by decide) rfl (fun ls hl => ?_)
                exact cut_94 _ _ _ _ _ _ _ _ _ _ _ _ ls (rfl) (rfl) (rfl) (rfl) (rfl) (by unfold yfit; rw [if_pos ⟨by omega, by first | exact Or.inl hq5 | exact Or.inr c_83⟩]; try rfl) (by unfold yfit; rw [if_pos ⟨by omega, by first | exact Or.inl hq5 | exact Or.inr c_83⟩]; try rfl) (rfl) (rfl) (rfl) (rfl) (rfl) (lv_sub hl [4, 5, 6, 7, 8, 1, 0, 9, 10, 11, 3, 2] rfl)
              · have hq5 := fun q => c_76 ((oN_m1 (fun k h => by have := hq3.1.1 k h; omega)).mpr q)
                refine lv_iload hx hb dX2_target_79 (lv_at hl 0 rfl) ?_
                refine lv_iload hx hb dX2_target_81 (lv_at hl 8 rfl) ?_
                refine wk_icmp_ge (tgt := 94) hx hb (by omega) (by omega) dX2_target_83 (by decide) (fun c_83 => ?_) (fun c_83 => ?_)
                · exact cut_94 _ _ _ _ _ _ _ _ _ _ _ _ ls (rfl) (rfl) (rfl) (rfl) (rfl) (by unfold yfit; rw [if_neg (fun q => q.2.elim hq5 (by omega))]) (by unfold yfit; rw [if_neg (fun q => q.2.elim hq5 (by omega))]) (rfl) (rfl) (rfl) (rfl) (rfl) (lv_sub hl [2, 3, 4, 5, 6, 7, 8, 9, 10, 11, 1, 0] rfl)
                · refine lv_iload hx hb dX2_target_86 (lv_at hl 11 rfl) ?_
                  refine lv_istore (lv' := [(6, .int (nI k)), (12, .int (nI (ylo (yw x k) 4))), (11, .int (nI (yw x k))), (0, .long (lN x)), (2, .int (nI fr)), (3, .int (nI n)), (4, .int (nI t0)), (5, .int (nI (yr (yw x fr) 0))), (7, .int (nI (((ytg x fr t0 (yr (yw x fr) 0) k).1).2))), (8, .int (oN ((ytg x fr t0 (yr (yw x fr) 0) k).2).1)), (9, .int (nI (((ytg x fr t0 (yr (yw x fr) 0) k).2).2))), (10, .int (nI k))]) hx hb dX2_target_88 hl (by decide) rfl (fun ls hl => ?_)
                  refine lv_iload hx hb dX2_target_90 (lv_at hl 1 rfl) ?_
                  refine lv_istore (lv' := [(7, .int (nI (ylo (yw x k) 4))), (6, .int (nI k)), (12, .int (nI (ylo (yw x k) 4))), (11, .int (nI (yw x k))), (0, .long (lN x)), (2, .int (nI fr)), (3, .int (nI n)), (4, .int (nI t0)), (5, .int (nI (yr (yw x fr) 0))), (8, .int (oN ((ytg x fr t0 (yr (yw x fr) 0) k).2).1)), (9, .int (nI (((ytg x fr t0 (yr (yw x fr) 0) k).2).2))), (10, .int (nI k))]) hx hb dX2_target_92 hl (by decide) rfl (fun ls hl => ?_)
                  exact cut_94 _ _ _ _ _ _ _ _ _ _ _ _ ls (rfl) (rfl) (rfl) (rfl) (rfl) (by unfold yfit; rw [if_pos ⟨by omega, by first | exact Or.inl hq5 | exact Or.inr c_83⟩]; try rfl) (by unfold yfit; rw [if_pos ⟨by omega, by first | exact Or.inl hq5 | exact Or.inr c_83⟩]; try rfl) (rfl) (rfl) (rfl) (rfl) (rfl) (lv_sub hl [4, 5, 6, 7, 8, 1, 0, 9, 10, 11, 3, 2] rfl)
          · refine lv_goto (tgt := 115) hx hb dX2_target_56 (by decide) ?_
            exact cut_115 _ _ _ _ _ _ _ _ _ _ ls (rfl) (rfl) (rfl) (rfl) (rfl) (by rw [ytg_s, if_pos (Or.inr c_53)]) (by rw [ytg_s, if_pos (Or.inr c_53)]) (by rw [ytg_s, if_pos (Or.inr c_53)]) (by rw [ytg_s, if_pos (Or.inr c_53)]) (rfl) (lv_sub hl [1, 2, 3, 4, 5, 6, 7, 8, 9, 10] rfl)
  exact cut_26 (n + 1) 0 _ _ _ _ _ _ _ _ _ _ ls (by omega) (by omega) (rfl) (rfl) (rfl) (rfl) (rfl) (rfl) (rfl) (rfl) (rfl) (rfl) (lv_sub hl [6, 7, 8, 9, 5, 4, 3, 2, 1, 0] rfl)
set_option maxHeartbeats 4000000 in
set_option maxRecDepth 100000 in
/-- moves -/
theorem c_X2_moves (l : Launch) (x n t0 : Nat) (hx0 : x < 2 ^ 48) (hn0 : 0 < n ∧ n ≤ 4) (ht0 : 0 < t0 ∧ t0 < 8) : Met l yX2_moves wsX2_moves ({ frames := 3, cells := 0, slots := 0, locals := 76 }) (va_Pc [.long (lN x), .int (nI n), .int (nI t0)] (fun _ => True)) (pu_Q (.int (oN (yrl n t0 100 0 (yaf 6 x))))) 0 0 (fun _ => False) := by
  refine Met.ofW (cc := cX2_moves) (maxL := 9) (ret := (some .int)) (by decide) rfl ?_
  intro p e s m args below meth c s₁ B hml hv
  obtain ⟨rfl, -⟩ := hv
  have hx := B.exec
  have hb := B.bytes
  have hr := B.returns
  have hts := atoms_spec (ws := wsX2_moves) B.pre
  have hown : s.vm.findClass RX2 = some m.cls := findClass_of_methodNamed B.named
  have hlocks := B.notSynchronized
  have hl := lv_entry ([.long (lN x), .int (nI n), .int (nI t0)]) (n := 9) (Nat.le_of_ble_eq_true rfl)
  rw [lg_entry_eq]
  generalize (lg_sl ([.long (lN x), .int (nI n), .int (nI t0)]) ++ List.replicate (9 - (lg_sl ([.long (lN x), .int (nI n), .int (nI t0)])).length) Slot.unset).toArray = ls at hl ⊢
  have hl : lv_has ls 9 [(0, .long (lN x)), (2, .int (nI n)), (3, .int (nI t0))] := hl
  refine lv_lload_n hx hb dX2_moves_0 rfl (lv_at hl 0 rfl) ?_
  refine pu_go (va_runS (As := [.long (lN x)]) (rest := []) ⟨hx, hb, hml, hown, hts⟩ (c_X5_afterLeaving l x (by first | omega | assumption)) (va_cwS 1 hts gX2_moves_X5_afterLeaving rfl rfl rfl (by decide +kernel) ⟨Nat.le_of_ble_eq_true rfl, Nat.le_of_ble_eq_true rfl⟩) ⟨fun _ _ _ _ q => q, fun _ _ _ => ⟨rfl, trivial⟩⟩ rfl rfl hl.1 rfl (lv_room (Nat.le_of_ble_eq_true rfl)) dX2_moves_1 ⟨Nat.le_refl _, Nat.le_refl _⟩) ?_
  refine lv_lstore (lv' := [(4, .long (lN (yaf 6 x))), (0, .long (lN x)), (2, .int (nI n)), (3, .int (nI t0))]) hx hb dX2_moves_4 hl (by decide) rfl (fun ls hl => ?_)
  refine lv_iconst (v := nI 0) hx hb dX2_moves_6 (by decide +kernel) ?_
  refine lv_istore (lv' := [(6, .int (nI 0)), (4, .long (lN (yaf 6 x))), (0, .long (lN x)), (2, .int (nI n)), (3, .int (nI t0))]) hx hb dX2_moves_7 hl (by decide) rfl (fun ls hl => ?_)
  have cut_9 : ∀ (n_9 : Nat) (k : Nat) (z : Nat) (v9_0 : Int64) (v9_2 : Int32) (v9_3 : Int32) (v9_4 : Int64) (v9_6 : Int32) (ls : Array Slot) (hk : k ≤ 100) (hz : z < 2 ^ 48) (he : yrl n t0 (100 - k) k z = yrl n t0 100 0 (yaf 6 x)) (hn_9 : 100 - k < n_9) (_ : v9_0 = lN x) (_ : v9_2 = nI n) (_ : v9_3 = nI t0) (_ : v9_4 = lN z) (_ : v9_6 = nI k) (_ : lv_has ls 9 [(0, .long v9_0), (2, .int v9_2), (3, .int v9_3), (4, .long v9_4), (6, .int v9_6)]), W p l e (headSpec wsX2_moves ({ frames := 3, cells := 0, slots := 0, locals := 76 })).room s m ([.long (lN x), .int (nI n), .int (nI t0)] : List Value).toArray below meth c s.heap [] 0 0 (MQ below (pu_Q (.int (oN (yrl n t0 100 0 (yaf 6 x))))) ([.long (lN x), .int (nI n), .int (nI t0)] : List Value).toArray s 0 0 (fun _ => False)) (F0 m 9 ls []) := by
    intro n_9
    induction n_9 with
    | zero => intros; omega
    | succ n_9 ih_9 =>
      rintro k z v9_0 v9_2 v9_3 v9_4 v9_6 ls hk hz he hn_9 rfl rfl rfl rfl rfl hl
      have hq2 := ysrc_lt (x := z) (r := ylo z 16) hn0.1
      refine lv_iload hx hb dX2_moves_9 (lv_at hl 4 rfl) ?_
      refine lv_bipush (v := nI 100) hx hb dX2_moves_11 (by decide +kernel) ?_
      refine wk_icmp_ge (tgt := 73) hx hb (by omega) (by omega) dX2_moves_13 (by decide) (fun c_13 => ?_) (fun c_13 => ?_)
      · refine lv_iconst (v := -1) hx hb dX2_moves_73 (by decide +kernel) ?_
        refine wk_ti (v' := oN (yrl n t0 100 0 (yaf 6 x))) (by rw [← he, show 100 - k = 0 by omega]; rfl) ?_
        exact W.iret hx hb hr (fun t9 ht _ => ⟨rfl, ht⟩) (fun _ h => nomatch h) dX2_moves_74
      · refine lv_lload hx hb dX2_moves_16 (lv_at hl 3 rfl) ?_
        refine lv_lconst (v := lN 0) hx hb dX2_moves_18 (by decide +kernel) ?_
        refine wk_lcmp_ne (tgt := 26) hx hb (by omega) (by omega) dX2_moves_19 dX2_moves_20 (by decide) (fun c_20 => ?_) (fun c_20 => ?_)
        · refine lv_lload hx hb dX2_moves_26 (lv_at hl 3 rfl) ?_
          refine lv_iload_n hx hb dX2_moves_28 rfl (lv_at hl 1 rfl) ?_
          refine pu_go (va_runS (As := [.long (lN z), .int (nI n)]) (rest := []) ⟨hx, hb, hml, hown, hts⟩ (c_X2_source l z n (by first | omega | assumption) (by first | omega | assumption)) (va_cwS 2 hts gX2_moves_X2_source rfl rfl rfl (by decide +kernel) ⟨Nat.le_of_ble_eq_true rfl, Nat.le_of_ble_eq_true rfl⟩) ⟨fun _ _ _ _ q => q, fun _ _ _ => ⟨rfl, trivial⟩⟩ rfl rfl hl.1 rfl (lv_room (Nat.le_of_ble_eq_true rfl)) dX2_moves_29 ⟨Nat.le_refl _, Nat.le_refl _⟩) ?_
          refine lv_istore (lv' := [(7, .int (nI ((ysrc z (ylo z 16) n).2))), (0, .long (lN x)), (2, .int (nI n)), (3, .int (nI t0)), (4, .long (lN z)), (6, .int (nI k))]) hx hb dX2_moves_32 hl (by decide) rfl (fun ls hl => ?_)
          refine lv_lload hx hb dX2_moves_34 (lv_at hl 4 rfl) ?_
          refine lv_iload hx hb dX2_moves_36 (lv_at hl 0 rfl) ?_
          refine lv_iload_n hx hb dX2_moves_38 rfl (lv_at hl 2 rfl) ?_
          refine lv_iload_n hx hb dX2_moves_39 rfl (lv_at hl 3 rfl) ?_
          refine pu_go (va_runS (As := [.long (lN z), .int (nI ((ysrc z (ylo z 16) n).2)), .int (nI n), .int (nI t0)]) (rest := []) ⟨hx, hb, hml, hown, hts⟩ (c_X2_target l z ((ysrc z (ylo z 16) n).2) n t0 (by first | omega | assumption) (by omega) (by omega) (by omega)) (va_cwS 4 hts gX2_moves_X2_target rfl rfl rfl (by decide +kernel) ⟨Nat.le_of_ble_eq_true rfl, Nat.le_of_ble_eq_true rfl⟩) ⟨fun _ _ _ _ q => q, fun _ _ _ => ⟨rfl, trivial⟩⟩ rfl rfl hl.1 rfl (lv_room (Nat.le_of_ble_eq_true rfl)) dX2_moves_40 ⟨Nat.le_refl _, Nat.le_refl _⟩) ?_
          refine lv_istore (lv' := [(8, .int (oN (ytgt z ((ysrc z (ylo z 16) n).2) n t0))), (7, .int (nI ((ysrc z (ylo z 16) n).2))), (0, .long (lN x)), (2, .int (nI n)), (3, .int (nI t0)), (4, .long (lN z)), (6, .int (nI k))]) hx hb dX2_moves_43 hl (by decide) rfl (fun ls hl => ?_)
          refine lv_iload hx hb dX2_moves_45 (lv_at hl 0 rfl) ?_
          refine lv_iconst (v := -1) hx hb dX2_moves_47 (by decide +kernel) ?_
          refine lv_icmp_ne (tgt := 53) hx hb dX2_moves_48 (by decide) (fun c_48 => ?_) (fun c_48 => ?_)
          · obtain ⟨s9, h9⟩ : ∃ s9, ytgt z (ysrc z (ylo z 16) n).2 n t0 = some s9 := by
              cases h : ytgt z (ysrc z (ylo z 16) n).2 n t0 with
              | none => rw [h] at c_48; exact absurd rfl c_48
              | some s9 => exact ⟨s9, rfl⟩
            have h9l := ytgt_lt h9
            have h9z := yshift_lt hz (show (ysrc z (ylo z 16) n).2 < 4 by omega) (show s9 < 4 by omega)
            have hl : lv_has ls 9 [(8, .int (nI s9)), (7, .int (nI ((ysrc z (ylo z 16) n).2))), (0, .long (lN x)), (2, .int (nI n)), (3, .int (nI t0)), (4, .long (lN z)), (6, .int (nI k))] := by rw [h9] at hl; exact hl
            refine lv_lload hx hb dX2_moves_53 (lv_at hl 5 rfl) ?_
            refine lv_iload hx hb dX2_moves_55 (lv_at hl 1 rfl) ?_
            refine lv_iload hx hb dX2_moves_57 (lv_at hl 0 rfl) ?_
            refine pu_go (va_runS (As := [.long (lN z), .int (nI ((ysrc z (ylo z 16) n).2)), .int (nI s9)]) (rest := []) ⟨hx, hb, hml, hown, hts⟩ (c_X5_shifted l z ((ysrc z (ylo z 16) n).2) s9 (by first | omega | assumption) (by omega) (by omega)) (va_cwS 3 hts gX2_moves_X5_shifted rfl rfl rfl (by decide +kernel) ⟨Nat.le_of_ble_eq_true rfl, Nat.le_of_ble_eq_true rfl⟩) ⟨fun _ _ _ _ q => q, fun _ _ _ => ⟨rfl, trivial⟩⟩ rfl rfl hl.1 rfl (lv_room (Nat.le_of_ble_eq_true rfl)) dX2_moves_59 ⟨Nat.le_refl _, Nat.le_refl _⟩) ?_
            refine pu_go (va_runS (As := [.long (lN (yshift z ((ysrc z (ylo z 16) n).2) s9))]) (rest := []) ⟨hx, hb, hml, hown, hts⟩ (c_X5_afterLeaving l (yshift z ((ysrc z (ylo z 16) n).2) s9) (by first | omega | assumption)) (va_cwS 1 hts gX2_moves_X5_afterLeaving rfl rfl rfl (by decide +kernel) ⟨Nat.le_of_ble_eq_true rfl, Nat.le_of_ble_eq_true rfl⟩) ⟨fun _ _ _ _ q => q, fun _ _ _ => ⟨rfl, trivial⟩⟩ rfl rfl hl.1 rfl (lv_room (Nat.le_of_ble_eq_true rfl)) dX2_moves_62 ⟨Nat.le_refl _, Nat.le_refl _⟩) ?_
            refine lv_lstore (lv' := [(4, .long (lN (yaf 6 (yshift z ((ysrc z (ylo z 16) n).2) s9)))), (8, .int (nI s9)), (7, .int (nI ((ysrc z (ylo z 16) n).2))), (0, .long (lN x)), (2, .int (nI n)), (3, .int (nI t0)), (6, .int (nI k))]) hx hb dX2_moves_65 hl (by decide) rfl (fun ls hl => ?_)
            refine lv_iinc (v := nI (k + 1)) (lv' := [(6, .int (nI (k + 1))), (4, .long (lN (yaf 6 (yshift z ((ysrc z (ylo z 16) n).2) s9)))), (8, .int (nI s9)), (7, .int (nI ((ysrc z (ylo z 16) n).2))), (0, .long (lN x)), (2, .int (nI n)), (3, .int (nI t0))]) hx hb dX2_moves_67 hl (k := 6) rfl (wk_inc _ 1 rfl) (by decide) rfl (fun ls hl => ?_)
            refine lv_goto (tgt := 9) hx hb dX2_moves_70 (by decide) ?_
            exact ih_9 (k + 1) (yaf 6 (yshift z (ysrc z (ylo z 16) n).2 s9)) _ _ _ _ _ ls (by omega) (yaf_lt 6 (yshift_lt hz (by omega) (by omega))) (by rw [← he, show 100 - k = (100 - (k + 1)) + 1 by omega]; conv => rhs; unfold yrl; rw [if_neg c_20, h9]) (by omega) (rfl) (rfl) (rfl) (rfl) (rfl) (lv_sub hl [4, 5, 6, 1, 0] rfl)
          · have h9 : ytgt z (ysrc z (ylo z 16) n).2 n t0 = none := by
              cases h : ytgt z (ysrc z (ylo z 16) n).2 n t0 with
              | none => rfl
              | some s9 => rw [h] at c_48; exact absurd c_48 (oN_ne (by have := ytgt_lt h; omega))
            refine lv_iconst (v := -1) hx hb dX2_moves_51 (by decide +kernel) ?_
            refine wk_ti (v' := oN (yrl n t0 100 0 (yaf 6 x))) (by rw [← he, show 100 - k = (100 - (k + 1)) + 1 by omega]; unfold yrl; rw [if_neg c_20, h9]; rfl) ?_
            exact W.iret hx hb hr (fun t9 ht _ => ⟨rfl, ht⟩) (fun _ h => nomatch h) dX2_moves_52
        · refine lv_iload hx hb dX2_moves_23 (lv_at hl 4 rfl) ?_
          refine wk_ti (v' := oN (yrl n t0 100 0 (yaf 6 x))) (by rw [← he, show 100 - k = (100 - (k + 1)) + 1 by omega]; unfold yrl; rw [if_pos c_20]; rfl) ?_
          exact W.iret hx hb hr (fun t9 ht _ => ⟨rfl, ht⟩) (fun _ h => nomatch h) dX2_moves_25
  exact cut_9 (100 + 1) 0 (yaf 6 x) _ _ _ _ _ ls (by omega) (yaf_lt 6 hx0) (rfl) (by omega) (rfl) (rfl) (rfl) (rfl) (rfl) (lv_sub hl [2, 3, 4, 1, 0] rfl)
