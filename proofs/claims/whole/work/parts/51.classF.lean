set_option maxHeartbeats 4000000 in
set_option maxRecDepth 100000 in
theorem c_X6_follow (l : Launch) (hlt : l.stackTraces = false) (dC : Nat → ClassId) (dI : Nat → Nat → Nat) (ad : Nat → Nat) (cI cJ : ClassId) (n t : Nat) (P HT RK GP : Nat → Nat) (sm : Int32) (F T M ST : Nat → Nat) (ln mn : Int32) (E : Nat → Nat) (hn0 : 2 ≤ n ∧ n ≤ 4) (ht0 : 2 ≤ t ∧ t ≤ 4) (hP0 : ∀ j, P j < 2147483648) (hH0 : ∀ j, HT j < 1000000) (hR0 : ∀ j, RK j < 8) (hS0 : ∀ j, ST j < 2147483648) (hkp : kpt ln mn F T)  (sz : Nat) : vx_Met l yX6_follow wsX6_follow ({ frames := 8, cells := 1, slots := 6, locals := 200 }) (va_Pc [.ref (ad 0)] (th_P (dC, dI) [(cI, .int), (cJ, .long)] (cW ad cI cJ n t P HT RK GP sm F T M ST ln mn E) sz)) (wr_Q (dC, dI) (va_A (cW ad cI cJ n t P HT RK GP sm F T M ST ln mn E) sz) (fun r W1 => qfl ln ST P = 0 ∧ ∃ L0 m0, L0 ≤ 30 ∧ m0 < 3 ∧ ln = nI L0 ∧ mn = nI m0 ∧ r = some (.int (nI (hsum HT n) - nI (hsum (ups (cfo m0 F T (pks P (lrn P RK GP).2.1 HT t n) L0) t (lrn P RK GP).2.2 P HT n).2 n))) ∧ W1 = (cW ad cI cJ n t ((ups (cfo m0 F T (pks P (lrn P RK GP).2.1 HT t n) L0) t (lrn P RK GP).2.2 P HT n).1) ((ups (cfo m0 F T (pks P (lrn P RK GP).2.1 HT t n) L0) t (lrn P RK GP).2.2 P HT n).2) ((lrn P RK GP).2.1) ((lrn P RK GP).2.2) sm F T M ST ln mn E))) (th_X (dC, dI) (va_A (cW ad cI cJ n t P HT RK GP sm F T M ST ln mn E) sz) (cW ad cI cJ n t P HT RK GP sm F T M ST ln mn E) (fun E => qfl ln ST P = 1 ∧ E = "java/lang/IllegalStateException")) 1 6 (va_A (cW ad cI cJ n t P HT RK GP sm F T M ST ln mn E) sz) := by
  refine vx_ofW (cc := cX6_follow) (maxL := 6) (ret := (some .int)) (by decide) rfl ?_
  intro p e s m args below meth c s₁ B hml hnx hv
  obtain ⟨rfl, ⟨⟨hsz, hP, hK, hD0⟩, hN⟩, hTw, hZ⟩ := hv
  have hx := B.exec
  have hb := B.bytes
  have hr := B.returns
  have hts := atoms_spec (ws := wsX6_follow) B.pre
  have hown : s.vm.findClass RX6 = some m.cls := findClass_of_methodNamed B.named
  have hlocks := B.notSynchronized
  have hinX4 : ∀ w ∈ u_ws RX4 TX4 6, w ∈ wsX6_follow := by decide +kernel
  have hinX6 : ∀ w ∈ u_ws RX6 TX6 7, w ∈ wsX6_follow := by decide +kernel
  subst hsz
  have hD := hD0.self (sz := s.heap.size)
  generalize hAe : va_A (cW ad cI cJ n t P HT RK GP sm F T M ST ln mn E) s.heap.size = A at hD hZ ⊢
  have hA : ∀ q : Nat, s.heap.size ≤ q → A q := fun q h => by rw [← hAe]; exact Or.inr h
  have hS : va_S A s.heap s.heap [] := va_S.rf
  have hl := lv_entry ([.ref (ad 0)]) (n := 6) (Nat.le_of_ble_eq_true rfl)
  rw [lg_entry_eq]
  generalize (lg_sl ([.ref (ad 0)]) ++ List.replicate (6 - (lg_sl ([.ref (ad 0)])).length) Slot.unset).toArray = ls at hl ⊢
  have hl : lv_has ls 6 [(0, .ref (ad 0))] := hl
  have hqx := pks_lt (P := P) (RK := (lrn P RK GP).2.1) (HT := HT) (t := t) n hn0.2
  refine lv_aload_n hx hb dX6_follow_0 rfl (lv_at hl 0 rfl) ?_
  refine va_get (D := (dC, dI)) (ci := 5) (v := .ref (ad 7)) (C := RX6) (T := TX6) (N := 7) hx hb hts hinX6 hown hK hP 0 rfl rfl 6 (by decide) (hts (.fieldLink RX6 47 "ReshuffleSearch" "way" "LReshuffleSearch$Way;") (by decide +kernel)) (fun _ h9 => h9) rfl dX6_follow_1 ?_
  refine pu_go (va_runV (As := []) (rest := []) ⟨hx, hb, hml, hown, hts⟩ (c_X4_isKept l dC dI ad cI cJ n t P HT RK GP sm F T M ST ln mn E ) (cwV 0 hts gX6_follow_X4_isKept rfl rfl rfl (by decide +kernel) ⟨Nat.le_of_ble_eq_true rfl, Nat.le_of_ble_eq_true rfl⟩) ⟨rc_blind, va_recv hK hP (ci := 4) (q0 := 7) rfl rfl, fun U hU hW => ⟨rfl, by rw [hU]; exact hP, va_K.moved hW.alike hK, nst_warm hW hN⟩⟩ rfl rfl hl.1 rfl (lv_room (Nat.le_of_ble_eq_true rfl)) dX6_follow_4 ⟨Nat.le_of_ble_eq_true rfl, Nat.le_of_ble_eq_true rfl⟩) ?_
  refine wk_bn_eq (tgt := 24) hx hb dX6_follow_7 (by decide) (fun c_7 => ?_) (fun c_7 => ?_)
  · exact th_go (cls := "java/lang/IllegalStateException") (names := thF) (text := "no way is kept for these stacks") (ik := 68) (is := 124) (ic := 72) hx hb hlt hown hnx hTw hZ hP (by decide +kernel) (by decide +kernel) (th_l _ (by decide +kernel)) (th_l _ (by decide +kernel)) th_3 (by decide +kernel) (by rw [hml]; exact hl.1) dX6_follow_24 dX6_follow_27 dX6_follow_28 dX6_follow_30 dX6_follow_33 (Nat.le_of_ble_eq_true rfl) (Nat.le_of_ble_eq_true rfl) (Nat.le_of_ble_eq_true rfl) (Nat.le_of_ble_eq_true rfl) hlocks (⟨by unfold qfl; rw [if_neg (fun q => c_7 q.1)], rfl⟩) (Nat.le_refl _) (Nat.le_refl _)
  · refine lv_aload_n hx hb dX6_follow_10 rfl (lv_at hl 0 rfl) ?_
    refine va_get (D := (dC, dI)) (ci := 5) (v := .ref (ad 7)) (C := RX6) (T := TX6) (N := 7) hx hb hts hinX6 hown hK hP 0 rfl rfl 6 (by decide) (hts (.fieldLink RX6 47 "ReshuffleSearch" "way" "LReshuffleSearch$Way;") (by decide +kernel)) (fun _ h9 => h9) rfl dX6_follow_11 ?_
    refine lv_aload_n hx hb dX6_follow_14 rfl (lv_at hl 0 rfl) ?_
    refine va_get (D := (dC, dI)) (ci := 5) (v := .ref (ad 1)) (C := RX6) (T := TX6) (N := 7) hx hb hts hinX6 hown hK hP 0 rfl rfl 2 (by decide) (hts (.fieldLink RX6 20 "ReshuffleSearch" "place" "[I") (by decide +kernel)) (fun _ h9 => h9) rfl dX6_follow_15 ?_
    refine pu_go (va_runV (As := [.ref (ad 1)]) (rest := []) ⟨hx, hb, hml, hown, hts⟩ (c_X4_startsAt l dC dI ad cI cJ n t P HT RK GP sm F T M ST ln mn E hP0 hS0) (cwV 1 hts gX6_follow_X4_startsAt rfl rfl rfl (by decide +kernel) ⟨Nat.le_of_ble_eq_true rfl, Nat.le_of_ble_eq_true rfl⟩) ⟨rc_blind, va_recv hK hP (ci := 4) (q0 := 7) rfl rfl, fun U hU hW => ⟨rfl, by rw [hU]; exact hP, va_K.moved hW.alike hK, nst_warm hW hN⟩⟩ rfl rfl hl.1 rfl (lv_room (Nat.le_of_ble_eq_true rfl)) dX6_follow_18 ⟨Nat.le_of_ble_eq_true rfl, Nat.le_of_ble_eq_true rfl⟩) ?_
    refine wk_bn_ne (tgt := 34) hx hb dX6_follow_21 (by decide) (fun c_21 => ?_) (fun c_21 => ?_)
    · obtain ⟨L0, m0, hL0, hm0, hL, hM9, hFT⟩ := hkp.resolve_left c_7
      have hq0 : qfl ln ST P = 0 := by unfold qfl; rw [if_pos ⟨c_7, c_21⟩]
      rw [hL, hM9] at hP hD
      have hl : lv_has ls 6 [(0, .ref (ad 0))] := by exact hl
      refine lv_aload_n hx hb dX6_follow_34 rfl (lv_at hl 0 rfl) ?_
      refine pu_go (va_runV (As := []) (rest := []) ⟨hx, hb, hml, hown, hts⟩ (c_X6_boxes l dC dI ad cI cJ n t P HT RK GP sm F T M ST (nI L0) (nI m0) E hn0) (cwV 0 hts gX6_follow_X6_boxes rfl rfl rfl (by decide +kernel) ⟨Nat.le_of_ble_eq_true rfl, Nat.le_of_ble_eq_true rfl⟩) ⟨rc_blind, va_recv hK hP (ci := 5) (q0 := 0) rfl rfl, fun U hU hW => ⟨rfl, by rw [hU]; exact hP, va_K.moved hW.alike hK, nst_warm hW hN⟩⟩ rfl rfl hl.1 rfl (lv_room (Nat.le_of_ble_eq_true rfl)) dX6_follow_35 ⟨Nat.le_of_ble_eq_true rfl, Nat.le_of_ble_eq_true rfl⟩) ?_
      refine lv_istore_n (lv' := [(1, .int (nI (hsum HT n))), (0, .ref (ad 0))]) hx hb dX6_follow_38 rfl hl (by decide) rfl (fun ls hl => ?_)
      have cut_55 : ∀ (v55_1 : Int32) (u55_0 : Int32) (ls : Array Slot) (H : Heap) (locs : List Loc) (_ : v55_1 = nI (hsum HT n)) (_ : u55_0 = nI (bn (m0 ≠ 2))) (_ : lv_has ls 6 [(0, .ref (ad 0)), (1, .int v55_1)]) (_ : va_P (dC, dI) vwCl (cW ad cI cJ n t P HT RK GP sm F T M ST (nI L0) (nI m0) E) H) (_ : va_D A (cW ad cI cJ n t P HT RK GP sm F T M ST (nI L0) (nI m0) E)) (_ : va_S A s.heap H locs), W p l e (headSpec wsX6_follow ({ frames := 8, cells := 1, slots := 6, locals := 200 })).room s m ([.ref (ad 0)] : List Value).toArray below meth c H locs 0 0 (vx_MQ below (wr_Q (dC, dI) A (fun r W1 => qfl ln ST P = 0 ∧ ∃ L0 m0, L0 ≤ 30 ∧ m0 < 3 ∧ ln = nI L0 ∧ mn = nI m0 ∧ r = some (.int (nI (hsum HT n) - nI (hsum (ups (cfo m0 F T (pks P (lrn P RK GP).2.1 HT t n) L0) t (lrn P RK GP).2.2 P HT n).2 n))) ∧ W1 = (cW ad cI cJ n t ((ups (cfo m0 F T (pks P (lrn P RK GP).2.1 HT t n) L0) t (lrn P RK GP).2.2 P HT n).1) ((ups (cfo m0 F T (pks P (lrn P RK GP).2.1 HT t n) L0) t (lrn P RK GP).2.2 P HT n).2) ((lrn P RK GP).2.1) ((lrn P RK GP).2.2) sm F T M ST ln mn E))) (th_X (dC, dI) A (cW ad cI cJ n t P HT RK GP sm F T M ST ln mn E) (fun E => qfl ln ST P = 1 ∧ E = "java/lang/IllegalStateException")) ([.ref (ad 0)] : List Value).toArray s 1 6 A) (F0 m 55 ls [.int u55_0]) := by
        rintro v55_1 u55_0 ls H locs rfl rfl hl hP hD hS
        refine lv_istore_n (lv' := [(2, .int (nI (bn (m0 ≠ 2)))), (0, .ref (ad 0)), (1, .int (nI (hsum HT n)))]) hx hb dX6_follow_55 rfl hl (by decide) rfl (fun ls hl => ?_)
        refine lv_aload_n hx hb dX6_follow_56 rfl (lv_at hl 1 rfl) ?_
        have hFc := va_free (wc := (cW ad cI cJ n t P HT RK GP sm F T M ST (nI L0) (nI m0) E)) hD hS hA [0, 1, 2, 3, 4, 5, 6, 7, 8, 9, 10, 11, 12, 13] rfl
        refine wr_go (va_runV (As := []) (rest := []) ⟨hx, hb, hml, hown, hts⟩ (c_X6_packed l dC dI ad cI cJ n t P HT RK GP sm F T M ST (nI L0) (nI m0) E hn0 ht0 hP0 hH0 hR0 H.size) (cwV 0 hts gX6_follow_X6_packed rfl rfl rfl (by decide +kernel) ⟨Nat.le_of_ble_eq_true rfl, Nat.le_of_ble_eq_true rfl⟩) ⟨wc_blind, va_recv hK hP (ci := 5) (q0 := 0) rfl rfl, fun U hU hW => ⟨rfl, ⟨by rw [hU], by rw [hU]; exact hP, va_K.moved hW.alike hK, hD.weaken (fun _ _ _ _ => trivial)⟩, nst_warm hW hN⟩⟩ rfl rfl hl.1 rfl (lv_room (Nat.le_of_ble_eq_true rfl)) dX6_follow_57 ⟨Nat.le_of_ble_eq_true rfl, Nat.le_of_ble_eq_true rfl⟩) hS hFc hFc (fun r9 W9 H locs hpost hP hD9 hz9 hk9 hS => ?_)
        have hD := hD9.weaken (fun _ _ _ h => hFc _ h)
        obtain ⟨rfl, rfl⟩ := hpost
        have hP : va_P (dC, dI) vwCl (cW ad cI cJ n t P HT ((lrn P RK GP).2.1) ((lrn P RK GP).2.2) sm F T M ST (nI L0) (nI m0) E) H := hP
        have hD : va_D A (cW ad cI cJ n t P HT ((lrn P RK GP).2.1) ((lrn P RK GP).2.2) sm F T M ST (nI L0) (nI m0) E) := hD
        refine W.eq (g2 := F0 m 60 ls [.long (lN (pks P (lrn P RK GP).2.1 HT t n))]) rfl ?_
        refine lv_lstore_n (lv' := [(3, .long (lN (pks P (lrn P RK GP).2.1 HT t n))), (2, .int (nI (bn (m0 ≠ 2)))), (0, .ref (ad 0)), (1, .int (nI (hsum HT n)))]) hx hb dX6_follow_60 rfl hl (by decide) rfl (fun ls hl => ?_)
        have cut_73 : ∀ (v73_1 : Int32) (v73_2 : Int32) (u73_0 : Int64) (ls : Array Slot) (H : Heap) (locs : List Loc) (_ : v73_1 = nI (hsum HT n)) (_ : v73_2 = nI (bn (m0 ≠ 2))) (_ : u73_0 = lN (cst m0 (pks P (lrn P RK GP).2.1 HT t n))) (_ : lv_has ls 6 [(0, .ref (ad 0)), (1, .int v73_1), (2, .int v73_2)]) (_ : va_P (dC, dI) vwCl (cW ad cI cJ n t P HT ((lrn P RK GP).2.1) ((lrn P RK GP).2.2) sm F T M ST (nI L0) (nI m0) E) H) (_ : va_D A (cW ad cI cJ n t P HT ((lrn P RK GP).2.1) ((lrn P RK GP).2.2) sm F T M ST (nI L0) (nI m0) E)) (_ : va_S A s.heap H locs), W p l e (headSpec wsX6_follow ({ frames := 8, cells := 1, slots := 6, locals := 200 })).room s m ([.ref (ad 0)] : List Value).toArray below meth c H locs 0 0 (vx_MQ below (wr_Q (dC, dI) A (fun r W1 => qfl ln ST P = 0 ∧ ∃ L0 m0, L0 ≤ 30 ∧ m0 < 3 ∧ ln = nI L0 ∧ mn = nI m0 ∧ r = some (.int (nI (hsum HT n) - nI (hsum (ups (cfo m0 F T (pks P (lrn P RK GP).2.1 HT t n) L0) t (lrn P RK GP).2.2 P HT n).2 n))) ∧ W1 = (cW ad cI cJ n t ((ups (cfo m0 F T (pks P (lrn P RK GP).2.1 HT t n) L0) t (lrn P RK GP).2.2 P HT n).1) ((ups (cfo m0 F T (pks P (lrn P RK GP).2.1 HT t n) L0) t (lrn P RK GP).2.2 P HT n).2) ((lrn P RK GP).2.1) ((lrn P RK GP).2.2) sm F T M ST ln mn E))) (th_X (dC, dI) A (cW ad cI cJ n t P HT RK GP sm F T M ST ln mn E) (fun E => qfl ln ST P = 1 ∧ E = "java/lang/IllegalStateException")) ([.ref (ad 0)] : List Value).toArray s 1 6 A) (F0 m 73 ls [.long u73_0]) := by
          rintro v73_1 v73_2 u73_0 ls H locs rfl rfl rfl hl hP hD hS
          refine lv_lstore_n (lv' := [(3, .long (lN (cst m0 (pks P (lrn P RK GP).2.1 HT t n)))), (0, .ref (ad 0)), (1, .int (nI (hsum HT n))), (2, .int (nI (bn (m0 ≠ 2))))]) hx hb dX6_follow_73 rfl hl (by decide) rfl (fun ls hl => ?_)
          refine lv_iconst (v := nI 0) hx hb dX6_follow_74 (by decide +kernel) ?_
          refine lv_istore (lv' := [(5, .int (nI 0)), (3, .long (lN (cst m0 (pks P (lrn P RK GP).2.1 HT t n)))), (0, .ref (ad 0)), (1, .int (nI (hsum HT n))), (2, .int (nI (bn (m0 ≠ 2))))]) hx hb dX6_follow_75 hl (by decide) rfl (fun ls hl => ?_)
          have cut_77 : ∀ (n_77 : Nat) (k : Nat) (v77_1 : Int32) (v77_2 : Int32) (v77_3 : Int64) (v77_5 : Int32) (ls : Array Slot) (H : Heap) (locs : List Loc) (hk : k ≤ L0) (hn_77 : L0 - k < n_77) (_ : v77_1 = nI (hsum HT n)) (_ : v77_2 = nI (bn (m0 ≠ 2))) (_ : v77_3 = lN (cfo m0 F T (pks P (lrn P RK GP).2.1 HT t n) k)) (_ : v77_5 = nI k) (_ : lv_has ls 6 [(0, .ref (ad 0)), (1, .int v77_1), (2, .int v77_2), (3, .long v77_3), (5, .int v77_5)]) (_ : va_P (dC, dI) vwCl (cW ad cI cJ n t P HT ((lrn P RK GP).2.1) ((lrn P RK GP).2.2) sm F T M ST (nI L0) (nI m0) E) H) (_ : va_D A (cW ad cI cJ n t P HT ((lrn P RK GP).2.1) ((lrn P RK GP).2.2) sm F T M ST (nI L0) (nI m0) E)) (_ : va_S A s.heap H locs), W p l e (headSpec wsX6_follow ({ frames := 8, cells := 1, slots := 6, locals := 200 })).room s m ([.ref (ad 0)] : List Value).toArray below meth c H locs 0 0 (vx_MQ below (wr_Q (dC, dI) A (fun r W1 => qfl ln ST P = 0 ∧ ∃ L0 m0, L0 ≤ 30 ∧ m0 < 3 ∧ ln = nI L0 ∧ mn = nI m0 ∧ r = some (.int (nI (hsum HT n) - nI (hsum (ups (cfo m0 F T (pks P (lrn P RK GP).2.1 HT t n) L0) t (lrn P RK GP).2.2 P HT n).2 n))) ∧ W1 = (cW ad cI cJ n t ((ups (cfo m0 F T (pks P (lrn P RK GP).2.1 HT t n) L0) t (lrn P RK GP).2.2 P HT n).1) ((ups (cfo m0 F T (pks P (lrn P RK GP).2.1 HT t n) L0) t (lrn P RK GP).2.2 P HT n).2) ((lrn P RK GP).2.1) ((lrn P RK GP).2.2) sm F T M ST ln mn E))) (th_X (dC, dI) A (cW ad cI cJ n t P HT RK GP sm F T M ST ln mn E) (fun E => qfl ln ST P = 1 ∧ E = "java/lang/IllegalStateException")) ([.ref (ad 0)] : List Value).toArray s 1 6 A) (F0 m 77 ls []) := by
            intro n_77
            induction n_77 with
            | zero => intros; omega
            | succ n_77 ih_77 =>
              rintro k v77_1 v77_2 v77_3 v77_5 ls H locs hk hn_77 rfl rfl rfl rfl hl hP hD hS
              have hq2 := cfo_lt (man := m0) hqx k (fun j hj => hFT j (by omega))
              have hq4 := hFT k
              refine lv_iload hx hb dX6_follow_77 (lv_at hl 4 rfl) ?_
              refine lv_aload_n hx hb dX6_follow_79 rfl (lv_at hl 0 rfl) ?_
              refine va_get (D := (dC, dI)) (ci := 5) (v := .ref (ad 7)) (C := RX6) (T := TX6) (N := 7) hx hb hts hinX6 hown hK hP 0 rfl rfl 6 (by decide) (hts (.fieldLink RX6 47 "ReshuffleSearch" "way" "LReshuffleSearch$Way;") (by decide +kernel)) (fun _ h9 => h9) rfl dX6_follow_80 ?_
              refine va_getN (D := (dC, dI)) (ci := 4) (v := .int (nI L0)) (C := RX4) (T := TX4) (N := 6) (host := RX6) hx hb hts hinX4 hown hK hP 7 rfl rfl 4 (by decide) (va_Nw.use rfl hN.1.2.2.2.1) (fun _ h9 => h9) rfl dX6_follow_83 ?_
              refine wk_icmp_ge (tgt := 140) hx hb (by omega) (by omega) dX6_follow_86 (by decide) (fun c_86 => ?_) (fun c_86 => ?_)
              · have hkL : k = L0 := by omega
                have hq3 := cfo_lt (man := m0) hqx L0 hFT
                have hl : lv_has ls 6 [(0, .ref (ad 0)), (1, .int (nI (hsum HT n))), (2, .int (nI (bn (m0 ≠ 2)))), (3, .long (lN (cfo m0 F T (pks P (lrn P RK GP).2.1 HT t n) L0))), (5, .int (nI L0))] := by rw [hkL] at hl; exact hl
                refine lv_aload_n hx hb dX6_follow_140 rfl (lv_at hl 0 rfl) ?_
                refine lv_lload_n hx hb dX6_follow_141 rfl (lv_at hl 3 rfl) ?_
                have hFc := va_free (wc := (cW ad cI cJ n t P HT ((lrn P RK GP).2.1) ((lrn P RK GP).2.2) sm F T M ST (nI L0) (nI m0) E)) hD hS hA [0, 1, 2, 3, 4, 5, 6, 7, 8, 9, 10, 11, 12, 13] rfl
                refine wr_go (va_runV (As := [.long (lN (cfo m0 F T (pks P (lrn P RK GP).2.1 HT t n) L0))]) (rest := []) ⟨hx, hb, hml, hown, hts⟩ (c_X6_unpack l dC dI ad cI cJ n t P HT ((lrn P RK GP).2.1) ((lrn P RK GP).2.2) sm F T M ST (nI L0) (nI m0) E hn0 ht0 (cfo m0 F T (pks P (lrn P RK GP).2.1 HT t n) L0) (by first | omega | assumption) H.size) (cwV 1 hts gX6_follow_X6_unpack rfl rfl rfl (by decide +kernel) ⟨Nat.le_of_ble_eq_true rfl, Nat.le_of_ble_eq_true rfl⟩) ⟨wc_blind, va_recv hK hP (ci := 5) (q0 := 0) rfl rfl, fun U hU hW => ⟨rfl, ⟨by rw [hU], by rw [hU]; exact hP, va_K.moved hW.alike hK, hD.weaken (fun _ _ _ _ => trivial)⟩, nst_warm hW hN⟩⟩ rfl rfl hl.1 rfl (lv_room (Nat.le_of_ble_eq_true rfl)) dX6_follow_142 ⟨Nat.le_of_ble_eq_true rfl, Nat.le_of_ble_eq_true rfl⟩) hS hFc hFc (fun r9 W9 H locs hpost hP hD9 hz9 hk9 hS => ?_)
                have hD := hD9.weaken (fun _ _ _ h => hFc _ h)
                obtain ⟨rfl, rfl⟩ := hpost
                have hP : va_P (dC, dI) vwCl (cW ad cI cJ n t ((ups (cfo m0 F T (pks P (lrn P RK GP).2.1 HT t n) L0) t ((lrn P RK GP).2.2) P HT n).1) ((ups (cfo m0 F T (pks P (lrn P RK GP).2.1 HT t n) L0) t ((lrn P RK GP).2.2) P HT n).2) ((lrn P RK GP).2.1) ((lrn P RK GP).2.2) sm F T M ST (nI L0) (nI m0) E) H := hP
                have hD : va_D A (cW ad cI cJ n t ((ups (cfo m0 F T (pks P (lrn P RK GP).2.1 HT t n) L0) t ((lrn P RK GP).2.2) P HT n).1) ((ups (cfo m0 F T (pks P (lrn P RK GP).2.1 HT t n) L0) t ((lrn P RK GP).2.2) P HT n).2) ((lrn P RK GP).2.1) ((lrn P RK GP).2.2) sm F T M ST (nI L0) (nI m0) E) := hD
                refine W.eq (g2 := F0 m 145 ls []) rfl ?_
                refine lv_iload_n hx hb dX6_follow_145 rfl (lv_at hl 1 rfl) ?_
                refine lv_aload_n hx hb dX6_follow_146 rfl (lv_at hl 0 rfl) ?_
                refine pu_go (va_runV (As := []) (rest := [.int (nI (hsum HT n))]) ⟨hx, hb, hml, hown, hts⟩ (c_X6_boxes l dC dI ad cI cJ n t ((ups (cfo m0 F T (pks P (lrn P RK GP).2.1 HT t n) L0) t ((lrn P RK GP).2.2) P HT n).1) ((ups (cfo m0 F T (pks P (lrn P RK GP).2.1 HT t n) L0) t ((lrn P RK GP).2.2) P HT n).2) ((lrn P RK GP).2.1) ((lrn P RK GP).2.2) sm F T M ST (nI L0) (nI m0) E hn0) (cwV 0 hts gX6_follow_X6_boxes rfl rfl rfl (by decide +kernel) ⟨Nat.le_of_ble_eq_true rfl, Nat.le_of_ble_eq_true rfl⟩) ⟨rc_blind, va_recv hK hP (ci := 5) (q0 := 0) rfl rfl, fun U hU hW => ⟨rfl, by rw [hU]; exact hP, va_K.moved hW.alike hK, nst_warm hW hN⟩⟩ rfl rfl hl.1 rfl (lv_room (Nat.le_of_ble_eq_true rfl)) dX6_follow_147 ⟨Nat.le_of_ble_eq_true rfl, Nat.le_of_ble_eq_true rfl⟩) ?_
                refine lv_isub hx hb dX6_follow_150 ?_
                exact vx_ret (W.widen (k := 1) (n := 6) (by omega) (by omega) (W.iret hx hb hr (fun t9 ht hW => ⟨some (.int ((nI (hsum HT n)) - (nI (hsum ((ups (cfo m0 F T (pks P (lrn P RK GP).2.1 HT t n) L0) t ((lrn P RK GP).2.2) P HT n).2) n)))), (cW ad cI cJ n t ((ups (cfo m0 F T (pks P (lrn P RK GP).2.1 HT t n) L0) t ((lrn P RK GP).2.2) P HT n).1) ((ups (cfo m0 F T (pks P (lrn P RK GP).2.1 HT t n) L0) t ((lrn P RK GP).2.2) P HT n).2) ((lrn P RK GP).2.1) ((lrn P RK GP).2.2) sm F T M ST (nI L0) (nI m0) E), rfl, ⟨hq0, L0, m0, hL0, hm0, hL, hM9, rfl, by rw [hL, hM9]⟩, by rw [ht]; exact hP, hD, hS.F ht⟩) hS.2.2 dX6_follow_151))
              · refine lv_iload hx hb dX6_follow_89 (lv_at hl 4 rfl) ?_
                refine lv_bipush (v := nI 30) hx hb dX6_follow_91 (by decide +kernel) ?_
                refine wk_icmp_ge (tgt := 140) hx hb (by omega) (by omega) dX6_follow_93 (by decide) (fun c_93 => ?_) (fun c_93 => ?_)
                · exact (by exfalso; omega)
                · refine lv_lload_n hx hb dX6_follow_96 rfl (lv_at hl 3 rfl) ?_
                  refine lv_aload_n hx hb dX6_follow_97 rfl (lv_at hl 0 rfl) ?_
                  refine va_get (D := (dC, dI)) (ci := 5) (v := .ref (ad 7)) (C := RX6) (T := TX6) (N := 7) hx hb hts hinX6 hown hK hP 0 rfl rfl 6 (by decide) (hts (.fieldLink RX6 47 "ReshuffleSearch" "way" "LReshuffleSearch$Way;") (by decide +kernel)) (fun _ h9 => h9) rfl dX6_follow_98 ?_
                  refine va_getN (D := (dC, dI)) (ci := 4) (v := .ref (ad 8)) (C := RX4) (T := TX4) (N := 6) (host := RX6) hx hb hts hinX4 hown hK hP 7 rfl rfl 0 (by decide) (va_Nw.use rfl hN.1.1) (fun _ h9 => h9) rfl dX6_follow_101 ?_
                  refine lv_iload hx hb dX6_follow_104 (lv_at hl 4 rfl) ?_
                  refine wk_iald hx hb hK hP 8 0 rfl rfl (by omega) dX6_follow_106 ?_
                  refine lv_aload_n hx hb dX6_follow_107 rfl (lv_at hl 0 rfl) ?_
                  refine va_get (D := (dC, dI)) (ci := 5) (v := .ref (ad 7)) (C := RX6) (T := TX6) (N := 7) hx hb hts hinX6 hown hK hP 0 rfl rfl 6 (by decide) (hts (.fieldLink RX6 47 "ReshuffleSearch" "way" "LReshuffleSearch$Way;") (by decide +kernel)) (fun _ h9 => h9) rfl dX6_follow_108 ?_
                  refine va_getN (D := (dC, dI)) (ci := 4) (v := .ref (ad 9)) (C := RX4) (T := TX4) (N := 6) (host := RX6) hx hb hts hinX4 hown hK hP 7 rfl rfl 1 (by decide) (va_Nw.use rfl hN.1.2.1) (fun _ h9 => h9) rfl dX6_follow_111 ?_
                  refine lv_iload hx hb dX6_follow_114 (lv_at hl 4 rfl) ?_
                  refine wk_iald hx hb hK hP 9 0 rfl rfl (by omega) dX6_follow_116 ?_
                  refine pu_go (va_runS (As := [.long (lN (cfo m0 F T (pks P (lrn P RK GP).2.1 HT t n) k)), .int (nI (F k)), .int (nI (T k))]) (rest := []) ⟨hx, hb, hml, hown, hts⟩ (c_X5_shifted l (cfo m0 F T (pks P (lrn P RK GP).2.1 HT t n) k) (F k) (T k) (by first | omega | assumption) (by omega) (by omega)) (va_cwS 3 hts gX6_follow_X5_shifted rfl rfl rfl (by decide +kernel) ⟨Nat.le_of_ble_eq_true rfl, Nat.le_of_ble_eq_true rfl⟩) ⟨fun _ _ _ _ q => q, fun _ _ _ => ⟨rfl, trivial⟩⟩ rfl rfl hl.1 rfl (lv_room (Nat.le_of_ble_eq_true rfl)) dX6_follow_117 ⟨Nat.le_of_ble_eq_true rfl, Nat.le_of_ble_eq_true rfl⟩) ?_
                  refine lv_lstore_n (lv' := [(3, .long (lN (yshift (cfo m0 F T (pks P (lrn P RK GP).2.1 HT t n) k) (F k) (T k)))), (0, .ref (ad 0)), (1, .int (nI (hsum HT n))), (2, .int (nI (bn (m0 ≠ 2)))), (5, .int (nI k))]) hx hb dX6_follow_120 rfl hl (by decide) rfl (fun ls hl => ?_)
                  have hq5 := yshift_lt hq2 (hq4 (by omega)).1 (hq4 (by omega)).2
                  have cut_133 : ∀ (v133_1 : Int32) (v133_2 : Int32) (v133_5 : Int32) (u133_0 : Int64) (ls : Array Slot) (H : Heap) (locs : List Loc) (_ : v133_1 = nI (hsum HT n)) (_ : v133_2 = nI (bn (m0 ≠ 2))) (_ : v133_5 = nI k) (_ : u133_0 = lN (cst m0 (yshift (cfo m0 F T (pks P (lrn P RK GP).2.1 HT t n) k) (F k) (T k)))) (_ : lv_has ls 6 [(0, .ref (ad 0)), (1, .int v133_1), (2, .int v133_2), (5, .int v133_5)]) (_ : va_P (dC, dI) vwCl (cW ad cI cJ n t P HT ((lrn P RK GP).2.1) ((lrn P RK GP).2.2) sm F T M ST (nI L0) (nI m0) E) H) (_ : va_D A (cW ad cI cJ n t P HT ((lrn P RK GP).2.1) ((lrn P RK GP).2.2) sm F T M ST (nI L0) (nI m0) E)) (_ : va_S A s.heap H locs), W p l e (headSpec wsX6_follow ({ frames := 8, cells := 1, slots := 6, locals := 200 })).room s m ([.ref (ad 0)] : List Value).toArray below meth c H locs 0 0 (vx_MQ below (wr_Q (dC, dI) A (fun r W1 => qfl ln ST P = 0 ∧ ∃ L0 m0, L0 ≤ 30 ∧ m0 < 3 ∧ ln = nI L0 ∧ mn = nI m0 ∧ r = some (.int (nI (hsum HT n) - nI (hsum (ups (cfo m0 F T (pks P (lrn P RK GP).2.1 HT t n) L0) t (lrn P RK GP).2.2 P HT n).2 n))) ∧ W1 = (cW ad cI cJ n t ((ups (cfo m0 F T (pks P (lrn P RK GP).2.1 HT t n) L0) t (lrn P RK GP).2.2 P HT n).1) ((ups (cfo m0 F T (pks P (lrn P RK GP).2.1 HT t n) L0) t (lrn P RK GP).2.2 P HT n).2) ((lrn P RK GP).2.1) ((lrn P RK GP).2.2) sm F T M ST ln mn E))) (th_X (dC, dI) A (cW ad cI cJ n t P HT RK GP sm F T M ST ln mn E) (fun E => qfl ln ST P = 1 ∧ E = "java/lang/IllegalStateException")) ([.ref (ad 0)] : List Value).toArray s 1 6 A) (F0 m 133 ls [.long u133_0]) := by
                    rintro v133_1 v133_2 v133_5 u133_0 ls H locs rfl rfl rfl rfl hl hP hD hS
                    refine lv_lstore_n (lv' := [(3, .long (lN (cst m0 (yshift (cfo m0 F T (pks P (lrn P RK GP).2.1 HT t n) k) (F k) (T k))))), (0, .ref (ad 0)), (1, .int (nI (hsum HT n))), (2, .int (nI (bn (m0 ≠ 2)))), (5, .int (nI k))]) hx hb dX6_follow_133 rfl hl (by decide) rfl (fun ls hl => ?_)
                    refine lv_iinc (v := nI (k + 1)) (lv' := [(5, .int (nI (k + 1))), (3, .long (lN (cst m0 (yshift (cfo m0 F T (pks P (lrn P RK GP).2.1 HT t n) k) (F k) (T k))))), (0, .ref (ad 0)), (1, .int (nI (hsum HT n))), (2, .int (nI (bn (m0 ≠ 2))))]) hx hb dX6_follow_134 hl (k := 4) rfl (wk_inc _ 1 rfl) (by decide) rfl (fun ls hl => ?_)
                    refine lv_goto (tgt := 77) hx hb dX6_follow_137 (by decide) ?_
                    exact ih_77 (k + 1) _ _ _ _ ls _ _ (by omega) (by omega) (rfl) (rfl) (rfl) (rfl) (lv_sub hl [2, 3, 4, 1, 0] rfl) (hP) (hD) hS
                  refine lv_iload_n hx hb dX6_follow_121 rfl (lv_at hl 3 rfl) ?_
                  refine wk_bn_eq (tgt := 132) hx hb dX6_follow_122 (by decide) (fun c_122 => ?_) (fun c_122 => ?_)
                  · refine lv_lload_n hx hb dX6_follow_132 rfl (lv_at hl 0 rfl) ?_
                    exact cut_133 _ _ _ _ ls _ _ (rfl) (rfl) (rfl) (by unfold cst; rw [if_pos (Decidable.not_not.mp c_122)]) (lv_sub hl [1, 2, 3, 4] rfl) (hP) (hD) hS
                  · refine lv_lload_n hx hb dX6_follow_125 rfl (lv_at hl 0 rfl) ?_
                    refine pu_go (va_runS (As := [.long (lN (yshift (cfo m0 F T (pks P (lrn P RK GP).2.1 HT t n) k) (F k) (T k)))]) (rest := []) ⟨hx, hb, hml, hown, hts⟩ (c_X5_afterLeaving l (yshift (cfo m0 F T (pks P (lrn P RK GP).2.1 HT t n) k) (F k) (T k)) (by first | omega | assumption)) (va_cwS 1 hts gX6_follow_X5_afterLeaving rfl rfl rfl (by decide +kernel) ⟨Nat.le_of_ble_eq_true rfl, Nat.le_of_ble_eq_true rfl⟩) ⟨fun _ _ _ _ q => q, fun _ _ _ => ⟨rfl, trivial⟩⟩ rfl rfl hl.1 rfl (lv_room (Nat.le_of_ble_eq_true rfl)) dX6_follow_126 ⟨Nat.le_of_ble_eq_true rfl, Nat.le_of_ble_eq_true rfl⟩) ?_
                    refine lv_goto (tgt := 133) hx hb dX6_follow_129 (by decide) ?_
                    exact cut_133 _ _ _ _ ls _ _ (rfl) (rfl) (rfl) (by unfold cst; rw [if_neg c_122]) (lv_sub hl [1, 2, 3, 4] rfl) (hP) (hD) hS
          exact cut_77 (L0 + 1) 0 _ _ _ _ ls _ _ (by omega) (by omega) (rfl) (rfl) (rfl) (rfl) (lv_sub hl [2, 3, 4, 1, 0] rfl) (hP) (hD) hS
        refine lv_iload_n hx hb dX6_follow_61 rfl (lv_at hl 1 rfl) ?_
        refine wk_bn_eq (tgt := 72) hx hb dX6_follow_62 (by decide) (fun c_62 => ?_) (fun c_62 => ?_)
        · refine lv_lload_n hx hb dX6_follow_72 rfl (lv_at hl 0 rfl) ?_
          exact cut_73 _ _ _ ls _ _ (rfl) (rfl) (by unfold cst; rw [if_pos (Decidable.not_not.mp c_62)]) (lv_sub hl [2, 3, 1] rfl) (hP) (hD) hS
        · refine lv_lload_n hx hb dX6_follow_65 rfl (lv_at hl 0 rfl) ?_
          refine pu_go (va_runS (As := [.long (lN (pks P (lrn P RK GP).2.1 HT t n))]) (rest := []) ⟨hx, hb, hml, hown, hts⟩ (c_X5_afterLeaving l (pks P (lrn P RK GP).2.1 HT t n) (by first | omega | assumption)) (va_cwS 1 hts gX6_follow_X5_afterLeaving rfl rfl rfl (by decide +kernel) ⟨Nat.le_of_ble_eq_true rfl, Nat.le_of_ble_eq_true rfl⟩) ⟨fun _ _ _ _ q => q, fun _ _ _ => ⟨rfl, trivial⟩⟩ rfl rfl hl.1 rfl (lv_room (Nat.le_of_ble_eq_true rfl)) dX6_follow_66 ⟨Nat.le_of_ble_eq_true rfl, Nat.le_of_ble_eq_true rfl⟩) ?_
          refine lv_goto (tgt := 73) hx hb dX6_follow_69 (by decide) ?_
          exact cut_73 _ _ _ ls _ _ (rfl) (rfl) (by unfold cst; rw [if_neg c_62]) (lv_sub hl [2, 3, 1] rfl) (hP) (hD) hS
      refine lv_aload_n hx hb dX6_follow_39 rfl (lv_at hl 1 rfl) ?_
      refine va_get (D := (dC, dI)) (ci := 5) (v := .ref (ad 7)) (C := RX6) (T := TX6) (N := 7) hx hb hts hinX6 hown hK hP 0 rfl rfl 6 (by decide) (hts (.fieldLink RX6 47 "ReshuffleSearch" "way" "LReshuffleSearch$Way;") (by decide +kernel)) (fun _ h9 => h9) rfl dX6_follow_40 ?_
      refine va_getN (D := (dC, dI)) (ci := 4) (v := .int (nI m0)) (C := RX4) (T := TX4) (N := 6) (host := RX6) hx hb hts hinX4 hown hK hP 7 rfl rfl 5 (by decide) (va_Nw.use rfl hN.1.2.2.2.2.1) (fun _ h9 => h9) rfl dX6_follow_43 ?_
      refine lv_iconst (v := nI 2) hx hb dX6_follow_46 (by decide +kernel) ?_
      refine wk_icmp_eq (tgt := 54) hx hb (by omega) (by omega) dX6_follow_47 (by decide) (fun c_47 => ?_) (fun c_47 => ?_)
      · refine lv_iconst (v := nI 0) hx hb dX6_follow_54 (by decide +kernel) ?_
        exact cut_55 _ _ ls _ _ (rfl) (by rw [bn_f (fun q => q c_47)]) (lv_sub hl [1, 0] rfl) (hP) (hD) hS
      · refine lv_iconst (v := nI 1) hx hb dX6_follow_50 (by decide +kernel) ?_
        refine lv_goto (tgt := 55) hx hb dX6_follow_51 (by decide) ?_
        exact cut_55 _ _ ls _ _ (rfl) (by rw [bn_t c_47]) (lv_sub hl [1, 0] rfl) (hP) (hD) hS
    · exact th_go (cls := "java/lang/IllegalStateException") (names := thF) (text := "no way is kept for these stacks") (ik := 68) (is := 124) (ic := 72) hx hb hlt hown hnx hTw hZ hP (by decide +kernel) (by decide +kernel) (th_l _ (by decide +kernel)) (th_l _ (by decide +kernel)) th_3 (by decide +kernel) (by rw [hml]; exact hl.1) dX6_follow_24 dX6_follow_27 dX6_follow_28 dX6_follow_30 dX6_follow_33 (Nat.le_of_ble_eq_true rfl) (Nat.le_of_ble_eq_true rfl) (Nat.le_of_ble_eq_true rfl) (Nat.le_of_ble_eq_true rfl) hlocks (⟨by unfold qfl; rw [if_neg (fun q => c_21 q.2)], rfl⟩) (Nat.le_refl _) (Nat.le_refl _)
set_option maxHeartbeats 4000000 in
set_option maxRecDepth 100000 in
theorem c_X6_solve (l : Launch) (hlt : l.stackTraces = false) (dC : Nat → ClassId) (dI : Nat → Nat → Nat) (ad : Nat → Nat) (cI cJ : ClassId) (n t : Nat) (P HT RK GP : Nat → Nat) (sm : Int32) (F T M ST : Nat → Nat) (ln mn : Int32) (E : Nat → Nat) (hn0 : 2 ≤ n ∧ n ≤ 4) (ht0 : 2 ≤ t ∧ t ≤ 4) (hP0 : ∀ j, P j < 2147483648) (hH0 : ∀ j, HT j < 1000000) (hR0 : ∀ j, RK j < 8) (hE0 : ∀ j, E j < 2 ^ 54) (Y : Nat → List Nat) (hY : okY n t Y) (hbx : bxY Y ≤ 6) (hpk : pks P (lrn P RK GP).2.1 HT t n = cE Y) (i j : Int32)  (sz : Nat) : vx_Met l yX6_solve wsX6_solve ({ frames := 76, cells := 1, slots := 6, locals := 3026 }) (va_Pc [.ref (ad 0), .int i, .int j] (th_P (dC, dI) [(cI, .int), (cJ, .long)] (cW ad cI cJ n t P HT RK GP sm F T M ST ln mn E) sz)) (wr_Q (dC, dI) (va_A (cW ad cI cJ n t P HT RK GP sm F T M ST ln mn E) sz) (fun r W1 => qsv i j = 0 ∧ ∃ m0 mo E1 F1 T1 M1, m0 < 3 ∧ mo ≤ 30 ∧ i = nI m0 ∧ j = nI mo ∧ hI m0 n t E1 ∧ ((r = some (.int (-2)) ∧ (∀ k, k ≤ 30 → way m0 n t k (stl m0 Y) = none) ∧ W1 = (cW ad cI cJ n t P HT ((lrn P RK GP).2.1) ((lrn P RK GP).2.2) (nI m0) F1 T1 M1 ST (-1) (-1) E1)) ∨ ∃ k w, least m0 n t (stl m0 Y) k ∧ way m0 n t k (stl m0 Y) = some w ∧ wst m0 n t F1 T1 M1 0 w (stl m0 Y) ∧ ((mo < k ∧ r = some (.int (-1)) ∧ W1 = (cW ad cI cJ n t P HT ((lrn P RK GP).2.1) ((lrn P RK GP).2.2) (nI m0) F1 T1 M1 ST (-1) (-1) E1)) ∨ (k ≤ mo ∧ r = some (.int (nI k)) ∧ W1 = (cW ad cI cJ n t P HT ((lrn P RK GP).2.1) ((lrn P RK GP).2.2) (nI m0) F1 T1 (kpm (lrn P RK GP).2.2 M1 k) (cpy ST P 16) (nI k) (nI m0) E1)))))) (th_X (dC, dI) (va_A (cW ad cI cJ n t P HT RK GP sm F T M ST ln mn E) sz) (cW ad cI cJ n t P HT RK GP sm F T M ST ln mn E) (fun E => qsv i j = 1 ∧ E = "java/lang/IllegalArgumentException")) 1 6 (va_A (cW ad cI cJ n t P HT RK GP sm F T M ST ln mn E) sz) := by
  refine vx_ofW (cc := cX6_solve) (maxL := 4) (ret := (some .int)) (by decide) rfl ?_
  intro p e s m args below meth c s₁ B hml hnx hv
  obtain ⟨rfl, ⟨⟨hsz, hP, hK, hD0⟩, hN⟩, hTw, hZ⟩ := hv
  have hx := B.exec
  have hb := B.bytes
  have hr := B.returns
  have hts := atoms_spec (ws := wsX6_solve) B.pre
  have hown : s.vm.findClass RX6 = some m.cls := findClass_of_methodNamed B.named
  have hlocks := B.notSynchronized
  have hinX6 : ∀ w ∈ u_ws RX6 TX6 7, w ∈ wsX6_solve := by decide +kernel
  subst hsz
  have hD := hD0.self (sz := s.heap.size)
  generalize hAe : va_A (cW ad cI cJ n t P HT RK GP sm F T M ST ln mn E) s.heap.size = A at hD hZ ⊢
  have hA : ∀ q : Nat, s.heap.size ≤ q → A q := fun q h => by rw [← hAe]; exact Or.inr h
  have hS : va_S A s.heap s.heap [] := va_S.rf
  have hl := lv_entry ([.ref (ad 0), .int i, .int j]) (n := 4) (Nat.le_of_ble_eq_true rfl)
  rw [lg_entry_eq]
  generalize (lg_sl ([.ref (ad 0), .int i, .int j]) ++ List.replicate (4 - (lg_sl ([.ref (ad 0), .int i, .int j])).length) Slot.unset).toArray = ls at hl ⊢
  have hl : lv_has ls 4 [(0, .ref (ad 0)), (1, .int i), (2, .int j)] := hl
  refine lv_iload_n hx hb dX6_solve_0 rfl (lv_at hl 1 rfl) ?_
  refine lv_if_lt (tgt := 9) hx hb dX6_solve_1 (by decide) (fun c_1 => ?_) (fun c_1 => ?_)
  · exact th_go (cls := "java/lang/IllegalArgumentException") (names := thF) (text := "no such manner") (ik := 59) (is := 78) (ic := 63) hx hb hlt hown hnx hTw hZ hP (by decide +kernel) (by decide +kernel) (th_l _ (by decide +kernel)) (th_l _ (by decide +kernel)) th_2 (by decide +kernel) (by rw [hml]; exact hl.1) dX6_solve_9 dX6_solve_12 dX6_solve_13 dX6_solve_15 dX6_solve_18 (Nat.le_of_ble_eq_true rfl) (Nat.le_of_ble_eq_true rfl) (Nat.le_of_ble_eq_true rfl) (Nat.le_of_ble_eq_true rfl) hlocks (⟨by unfold qsv; rw [if_pos (Or.inl c_1)], rfl⟩) (Nat.le_refl _) (Nat.le_refl _)
  · refine lv_iload_n hx hb dX6_solve_4 rfl (lv_at hl 1 rfl) ?_
    refine lv_iconst (v := nI 2) hx hb dX6_solve_5 (by decide +kernel) ?_
    refine lv_icmp_le (tgt := 19) hx hb dX6_solve_6 (by decide) (fun c_6 => ?_) (fun c_6 => ?_)
    · refine lv_iload_n hx hb dX6_solve_19 rfl (lv_at hl 2 rfl) ?_
      refine lv_if_lt (tgt := 29) hx hb dX6_solve_20 (by decide) (fun c_20 => ?_) (fun c_20 => ?_)
      · exact th_go (cls := "java/lang/IllegalArgumentException") (names := thF) (text := "most is not 0 .. 30") (ik := 59) (is := 80) (ic := 63) hx hb hlt hown hnx hTw hZ hP (by decide +kernel) (by decide +kernel) (th_l _ (by decide +kernel)) (th_l _ (by decide +kernel)) th_2 (by decide +kernel) (by rw [hml]; exact hl.1) dX6_solve_29 dX6_solve_32 dX6_solve_33 dX6_solve_35 dX6_solve_38 (Nat.le_of_ble_eq_true rfl) (Nat.le_of_ble_eq_true rfl) (Nat.le_of_ble_eq_true rfl) (Nat.le_of_ble_eq_true rfl) hlocks (⟨by unfold qsv; rw [if_pos (Or.inr (Or.inr (Or.inl c_20)))], rfl⟩) (Nat.le_refl _) (Nat.le_refl _)
      · refine lv_iload_n hx hb dX6_solve_23 rfl (lv_at hl 2 rfl) ?_
        refine lv_bipush (v := nI 30) hx hb dX6_solve_24 (by decide +kernel) ?_
        refine lv_icmp_le (tgt := 39) hx hb dX6_solve_26 (by decide) (fun c_26 => ?_) (fun c_26 => ?_)
        · obtain ⟨m0, hm0, hi⟩ := stk_nat (n := 3) (by decide) ⟨c_1, i_le (by decide) c_6⟩
          obtain ⟨mo, hmo, hj⟩ := stk_nat (n := 31) (by decide) ⟨c_20, i_le (by decide) c_26⟩
          have hq0 : qsv i j = 0 := by unfold qsv; rw [if_neg (by rintro (q | q | q | q); exact c_1 q; exact Int32.not_le.mpr q c_6; exact c_20 q; exact Int32.not_le.mpr q c_26)]
          have hqx := cE_lt hY ht0.2
          have hl : lv_has ls 4 [(0, .ref (ad 0)), (1, .int (nI m0)), (2, .int (nI mo))] := by simpa only [hi, hj] using hl
          refine lv_aload_n hx hb dX6_solve_39 rfl (lv_at hl 0 rfl) ?_
          refine va_get (D := (dC, dI)) (ci := 5) (v := .ref (ad 7)) (C := RX6) (T := TX6) (N := 7) hx hb hts hinX6 hown hK hP 0 rfl rfl 6 (by decide) (hts (.fieldLink RX6 47 "ReshuffleSearch" "way" "LReshuffleSearch$Way;") (by decide +kernel)) (fun _ h9 => h9) rfl dX6_solve_40 ?_
          have hFc := va_free (wc := (cW ad cI cJ n t P HT RK GP sm F T M ST ln mn E)) hD hS hA [0, 1, 2, 3, 4, 5, 6, 7, 8, 9, 10, 11, 12, 13] rfl
          refine wr_go (va_runV (As := []) (rest := []) ⟨hx, hb, hml, hown, hts⟩ (c_X4_drop l dC dI ad cI cJ n t P HT RK GP sm F T M ST ln mn E  s.heap.size) (cwV 0 hts gX6_solve_X4_drop rfl rfl rfl (by decide +kernel) ⟨Nat.le_of_ble_eq_true rfl, Nat.le_of_ble_eq_true rfl⟩) ⟨wc_blind, va_recv hK hP (ci := 4) (q0 := 7) rfl rfl, fun U hU hW => ⟨rfl, ⟨by rw [hU], by rw [hU]; exact hP, va_K.moved hW.alike hK, hD.weaken (fun _ _ _ _ => trivial)⟩, nst_warm hW hN⟩⟩ rfl rfl hl.1 rfl (lv_room (Nat.le_of_ble_eq_true rfl)) dX6_solve_43 ⟨Nat.le_of_ble_eq_true rfl, Nat.le_of_ble_eq_true rfl⟩) hS hFc hFc (fun r9 W9 H locs hpost hP hD9 hz9 hk9 hS => ?_)
          have hD := hD9.weaken (fun _ _ _ h => hFc _ h)
          obtain ⟨rfl, rfl⟩ := hpost
          have hP : va_P (dC, dI) vwCl (cW ad cI cJ n t P HT RK GP sm F T M ST (-1) (-1) E) H := hP
          have hD : va_D A (cW ad cI cJ n t P HT RK GP sm F T M ST (-1) (-1) E) := hD
          refine W.eq (g2 := F0 m 46 ls []) rfl ?_
          refine lv_aload_n hx hb dX6_solve_46 rfl (lv_at hl 0 rfl) ?_
          refine va_get (D := (dC, dI)) (ci := 5) (v := .ref (ad 6)) (C := RX6) (T := TX6) (N := 7) hx hb hts hinX6 hown hK hP 0 rfl rfl 5 (by decide) (hts (.fieldLink RX6 39 "ReshuffleSearch" "search" "LReshuffleSearch$Search;") (by decide +kernel)) (fun _ h9 => h9) rfl dX6_solve_47 ?_
          refine lv_iload_n hx hb dX6_solve_50 rfl (lv_at hl 1 rfl) ?_
          refine lv_aload_n hx hb dX6_solve_51 rfl (lv_at hl 0 rfl) ?_
          have hFc := va_free (wc := (cW ad cI cJ n t P HT RK GP sm F T M ST (-1) (-1) E)) hD hS hA [0, 1, 2, 3, 4, 5, 6, 7, 8, 9, 10, 11, 12, 13] rfl
          refine wr_go (va_runV (As := []) (rest := [.int (nI m0), .ref (ad 6)]) ⟨hx, hb, hml, hown, hts⟩ (c_X6_packed l dC dI ad cI cJ n t P HT RK GP sm F T M ST (-1) (-1) E hn0 ht0 hP0 hH0 hR0 H.size) (cwV 0 hts gX6_solve_X6_packed rfl rfl rfl (by decide +kernel) ⟨Nat.le_of_ble_eq_true rfl, Nat.le_of_ble_eq_true rfl⟩) ⟨wc_blind, va_recv hK hP (ci := 5) (q0 := 0) rfl rfl, fun U hU hW => ⟨rfl, ⟨by rw [hU], by rw [hU]; exact hP, va_K.moved hW.alike hK, hD.weaken (fun _ _ _ _ => trivial)⟩, nst_warm hW hN⟩⟩ rfl rfl hl.1 rfl (lv_room (Nat.le_of_ble_eq_true rfl)) dX6_solve_52 ⟨Nat.le_of_ble_eq_true rfl, Nat.le_of_ble_eq_true rfl⟩) hS hFc hFc (fun r9 W9 H locs hpost hP hD9 hz9 hk9 hS => ?_)
          have hD := hD9.weaken (fun _ _ _ h => hFc _ h)
          obtain ⟨rfl, rfl⟩ := hpost
          rw [hpk]
          have hP : va_P (dC, dI) vwCl (cW ad cI cJ n t P HT ((lrn P RK GP).2.1) ((lrn P RK GP).2.2) sm F T M ST (-1) (-1) E) H := hP
          have hD : va_D A (cW ad cI cJ n t P HT ((lrn P RK GP).2.1) ((lrn P RK GP).2.2) sm F T M ST (-1) (-1) E) := hD
          refine W.eq (g2 := F0 m 55 ls [.long (lN (cE Y)), .int (nI m0), .ref (ad 6)]) rfl ?_
          have hFc := va_free (wc := (cW ad cI cJ n t P HT ((lrn P RK GP).2.1) ((lrn P RK GP).2.2) sm F T M ST (-1) (-1) E)) hD hS hA [0, 1, 2, 3, 4, 5, 6, 7, 8, 9, 10, 11, 12, 13] rfl
          refine wr_go (va_runV (As := [.int (nI m0), .long (lN (cE Y))]) (rest := []) ⟨hx, hb, hml, hown, hts⟩ (c_X3_fewest l dC dI ad cI cJ n t P HT ((lrn P RK GP).2.1) ((lrn P RK GP).2.2) sm F T M ST (-1) (-1) E hn0 ht0 m0 hm0 Y hY hbx hE0 H.size) (cwV 2 hts gX6_solve_X3_fewest rfl rfl rfl (by decide +kernel) ⟨Nat.le_of_ble_eq_true rfl, Nat.le_of_ble_eq_true rfl⟩) ⟨wc_blind, va_recv hK hP (ci := 3) (q0 := 6) rfl rfl, fun U hU hW => ⟨rfl, ⟨by rw [hU], by rw [hU]; exact hP, va_K.moved hW.alike hK, hD.weaken (fun _ _ _ _ => trivial)⟩, nst_warm hW hN⟩⟩ rfl rfl hl.1 rfl (lv_room (Nat.le_of_ble_eq_true rfl)) dX6_solve_55 ⟨Nat.le_of_ble_eq_true rfl, Nat.le_of_ble_eq_true rfl⟩) hS hFc hFc (fun r9 W9 H locs hpost hP hD9 hz9 hk9 hS => ?_)
          have hD := hD9.weaken (fun _ _ _ h => hFc _ h)
          obtain ⟨E1, F1, T1, M1, rfl, hE1, hcs⟩ := hpost
          obtain ⟨r0, rfl, hc2⟩ : ∃ r0 : Int32, r9 = some (.int r0) ∧ ((r0 = -2 ∧ ∀ j, j ≤ 30 → way m0 n t j (stl m0 Y) = none) ∨ ∃ k, r0 = nI k ∧ least m0 n t (stl m0 Y) k ∧ ∀ w, way m0 n t k (stl m0 Y) = some w → wst m0 n t F1 T1 M1 0 w (stl m0 Y)) := by
            rcases hcs with ⟨h1, h2⟩ | ⟨k, h1, h2, h3⟩
            · exact ⟨_, h1, Or.inl ⟨rfl, h2⟩⟩
            · exact ⟨_, h1, Or.inr ⟨k, rfl, h2, h3⟩⟩
          have hP : va_P (dC, dI) vwCl (cW ad cI cJ n t P HT ((lrn P RK GP).2.1) ((lrn P RK GP).2.2) (nI m0) F1 T1 M1 ST (-1) (-1) E1) H := hP
          have hD : va_D A (cW ad cI cJ n t P HT ((lrn P RK GP).2.1) ((lrn P RK GP).2.2) (nI m0) F1 T1 M1 ST (-1) (-1) E1) := hD
          refine W.eq (g2 := F0 m 58 ls [.int r0]) rfl ?_
          refine lv_istore_n (lv' := [(3, .int r0), (0, .ref (ad 0)), (1, .int (nI m0)), (2, .int (nI mo))]) hx hb dX6_solve_58 rfl hl (by decide) rfl (fun ls hl => ?_)
          refine lv_iload_n hx hb dX6_solve_59 rfl (lv_at hl 0 rfl) ?_
          refine lv_bipush (v := -2) hx hb dX6_solve_60 (by decide +kernel) ?_
          refine lv_icmp_ne (tgt := 68) hx hb dX6_solve_62 (by decide) (fun c_62 => ?_) (fun c_62 => ?_)
          · obtain ⟨k, hk, hls, hws⟩ := hc2.resolve_left (fun q => c_62 q.1)
            obtain ⟨w, hw⟩ := some_of hls.2.1
            have hwl := way_exact hw hls.2.2
            have hk30 := hls.1
            have hbd := way_bd hn0.2 k 0 _ w (stl_ok (man := m0) hY hbx).1 hw (hws w hw)
            have hMk : ∀ j, j < k → M1 j < 2147483648 := fun j hj => by have := (hbd j (by omega)).2.2; rw [Nat.zero_add] at this; omega
            have hl : lv_has ls 4 [(3, .int (nI k)), (0, .ref (ad 0)), (1, .int (nI m0)), (2, .int (nI mo))] := by rw [hk] at hl; exact hl
            refine lv_iload_n hx hb dX6_solve_68 rfl (lv_at hl 0 rfl) ?_
            refine lv_iload_n hx hb dX6_solve_69 rfl (lv_at hl 3 rfl) ?_
            refine wk_icmp_le (tgt := 75) hx hb (by omega) (by omega) dX6_solve_70 (by decide) (fun c_70 => ?_) (fun c_70 => ?_)
            · refine lv_aload_n hx hb dX6_solve_75 rfl (lv_at hl 1 rfl) ?_
              refine va_get (D := (dC, dI)) (ci := 5) (v := .ref (ad 7)) (C := RX6) (T := TX6) (N := 7) hx hb hts hinX6 hown hK hP 0 rfl rfl 6 (by decide) (hts (.fieldLink RX6 47 "ReshuffleSearch" "way" "LReshuffleSearch$Way;") (by decide +kernel)) (fun _ h9 => h9) rfl dX6_solve_76 ?_
              refine lv_iload_n hx hb dX6_solve_79 rfl (lv_at hl 0 rfl) ?_
              refine lv_iload_n hx hb dX6_solve_80 rfl (lv_at hl 2 rfl) ?_
              refine lv_aload_n hx hb dX6_solve_81 rfl (lv_at hl 1 rfl) ?_
              refine va_get (D := (dC, dI)) (ci := 5) (v := .ref (ad 1)) (C := RX6) (T := TX6) (N := 7) hx hb hts hinX6 hown hK hP 0 rfl rfl 2 (by decide) (hts (.fieldLink RX6 20 "ReshuffleSearch" "place" "[I") (by decide +kernel)) (fun _ h9 => h9) rfl dX6_solve_82 ?_
              refine lv_aload_n hx hb dX6_solve_85 rfl (lv_at hl 1 rfl) ?_
              refine va_get (D := (dC, dI)) (ci := 5) (v := .ref (ad 3)) (C := RX6) (T := TX6) (N := 7) hx hb hts hinX6 hown hK hP 0 rfl rfl 4 (by decide) (hts (.fieldLink RX6 30 "ReshuffleSearch" "ranks" "LReshuffleSearch$Ranks;") (by decide +kernel)) (fun _ h9 => h9) rfl dX6_solve_86 ?_
              have hFc := va_free (wc := (cW ad cI cJ n t P HT ((lrn P RK GP).2.1) ((lrn P RK GP).2.2) (nI m0) F1 T1 M1 ST (-1) (-1) E1)) hD hS hA [0, 1, 2, 3, 4, 5, 6, 7, 8, 9, 10, 11, 12, 13] rfl
              refine wr_go (va_runV (As := [.int (nI k), .int (nI m0), .ref (ad 1), .ref (ad 3)]) (rest := []) ⟨hx, hb, hml, hown, hts⟩ (c_X4_keep l dC dI ad cI cJ n t P HT ((lrn P RK GP).2.1) ((lrn P RK GP).2.2) (nI m0) F1 T1 M1 ST (-1) (-1) E1 hP0 k m0 (by first | omega | assumption) hMk H.size) (cwV 4 hts gX6_solve_X4_keep rfl rfl rfl (by decide +kernel) ⟨Nat.le_of_ble_eq_true rfl, Nat.le_of_ble_eq_true rfl⟩) ⟨wc_blind, va_recv hK hP (ci := 4) (q0 := 7) rfl rfl, fun U hU hW => ⟨rfl, ⟨by rw [hU], by rw [hU]; exact hP, va_K.moved hW.alike hK, hD.weaken (fun _ _ _ _ => trivial)⟩, nst_warm hW hN⟩⟩ rfl rfl hl.1 rfl (lv_room (Nat.le_of_ble_eq_true rfl)) dX6_solve_89 ⟨Nat.le_of_ble_eq_true rfl, Nat.le_of_ble_eq_true rfl⟩) hS hFc hFc (fun r9 W9 H locs hpost hP hD9 hz9 hk9 hS => ?_)
              have hD := hD9.weaken (fun _ _ _ h => hFc _ h)
              obtain ⟨rfl, rfl⟩ := hpost
              have hP : va_P (dC, dI) vwCl (cW ad cI cJ n t P HT ((lrn P RK GP).2.1) ((lrn P RK GP).2.2) (nI m0) F1 T1 (kpm ((lrn P RK GP).2.2) M1 k) (cpy ST P 16) (nI k) (nI m0) E1) H := hP
              have hD : va_D A (cW ad cI cJ n t P HT ((lrn P RK GP).2.1) ((lrn P RK GP).2.2) (nI m0) F1 T1 (kpm ((lrn P RK GP).2.2) M1 k) (cpy ST P 16) (nI k) (nI m0) E1) := hD
              refine W.eq (g2 := F0 m 92 ls []) rfl ?_
              refine lv_iload_n hx hb dX6_solve_92 rfl (lv_at hl 0 rfl) ?_
              exact vx_ret (W.widen (k := 1) (n := 6) (by omega) (by omega) (W.iret hx hb hr (fun t9 ht hW => ⟨some (.int (nI k)), (cW ad cI cJ n t P HT ((lrn P RK GP).2.1) ((lrn P RK GP).2.2) (nI m0) F1 T1 (kpm ((lrn P RK GP).2.2) M1 k) (cpy ST P 16) (nI k) (nI m0) E1), rfl, ⟨hq0, m0, mo, E1, F1, T1, M1, hm0, by omega, hi, hj, hE1, Or.inr ⟨k, w, hls, hw, hws w hw, Or.inr ⟨by omega, rfl, rfl⟩⟩⟩, by rw [ht]; exact hP, hD, hS.F ht⟩) hS.2.2 dX6_solve_93))
            · refine lv_iconst (v := -1) hx hb dX6_solve_73 (by decide +kernel) ?_
              exact vx_ret (W.widen (k := 1) (n := 6) (by omega) (by omega) (W.iret hx hb hr (fun t9 ht hW => ⟨some (.int (-1)), (cW ad cI cJ n t P HT ((lrn P RK GP).2.1) ((lrn P RK GP).2.2) (nI m0) F1 T1 M1 ST (-1) (-1) E1), rfl, ⟨hq0, m0, mo, E1, F1, T1, M1, hm0, by omega, hi, hj, hE1, Or.inr ⟨k, w, hls, hw, hws w hw, Or.inl ⟨by omega, rfl, rfl⟩⟩⟩, by rw [ht]; exact hP, hD, hS.F ht⟩) hS.2.2 dX6_solve_74))
          · refine lv_bipush (v := -2) hx hb dX6_solve_65 (by decide +kernel) ?_
            exact vx_ret (W.widen (k := 1) (n := 6) (by omega) (by omega) (W.iret hx hb hr (fun t9 ht hW => ⟨some (.int (-2)), (cW ad cI cJ n t P HT ((lrn P RK GP).2.1) ((lrn P RK GP).2.2) (nI m0) F1 T1 M1 ST (-1) (-1) E1), rfl, ⟨hq0, m0, mo, E1, F1, T1, M1, hm0, by omega, hi, hj, hE1, Or.inl ⟨rfl, by rcases hc2 with q | ⟨k, h1, h2, h3⟩; exact q.2; exact absurd (h1.symm.trans c_62) (nI_m2 h2.1), rfl⟩⟩, by rw [ht]; exact hP, hD, hS.F ht⟩) hS.2.2 dX6_solve_67))
        · exact th_go (cls := "java/lang/IllegalArgumentException") (names := thF) (text := "most is not 0 .. 30") (ik := 59) (is := 80) (ic := 63) hx hb hlt hown hnx hTw hZ hP (by decide +kernel) (by decide +kernel) (th_l _ (by decide +kernel)) (th_l _ (by decide +kernel)) th_2 (by decide +kernel) (by rw [hml]; exact hl.1) dX6_solve_29 dX6_solve_32 dX6_solve_33 dX6_solve_35 dX6_solve_38 (Nat.le_of_ble_eq_true rfl) (Nat.le_of_ble_eq_true rfl) (Nat.le_of_ble_eq_true rfl) (Nat.le_of_ble_eq_true rfl) hlocks (⟨by unfold qsv; rw [if_pos (Or.inr (Or.inr (Or.inr (Int32.not_le.mp c_26))))], rfl⟩) (Nat.le_refl _) (Nat.le_refl _)
    · exact th_go (cls := "java/lang/IllegalArgumentException") (names := thF) (text := "no such manner") (ik := 59) (is := 78) (ic := 63) hx hb hlt hown hnx hTw hZ hP (by decide +kernel) (by decide +kernel) (th_l _ (by decide +kernel)) (th_l _ (by decide +kernel)) th_2 (by decide +kernel) (by rw [hml]; exact hl.1) dX6_solve_9 dX6_solve_12 dX6_solve_13 dX6_solve_15 dX6_solve_18 (Nat.le_of_ble_eq_true rfl) (Nat.le_of_ble_eq_true rfl) (Nat.le_of_ble_eq_true rfl) (Nat.le_of_ble_eq_true rfl) hlocks (⟨by unfold qsv; rw [if_pos (Or.inr (Or.inl (Int32.not_le.mp c_6)))], rfl⟩) (Nat.le_refl _) (Nat.le_refl _)
set_option maxHeartbeats 4000000 in
set_option maxRecDepth 100000 in
theorem c_X6_count (l : Launch) (dC : Nat → ClassId) (dI : Nat → Nat → Nat) (ad : Nat → Nat) (cI cJ : ClassId) (n t : Nat) (P HT RK GP : Nat → Nat) (sm : Int32) (F T M ST : Nat → Nat) (ln mn : Int32) (E : Nat → Nat) (hn0 : 2 ≤ n ∧ n ≤ 4) (hkp : kpt ln mn F T) (w : Int32) : Met l yX6_count wsX6_count ({ frames := 3, cells := 0, slots := 0, locals := 83 }) (va_Pc [.ref (ad 0), .int w] (rc_P (dC, dI) [(cI, .int), (cJ, .long)] (cW ad cI cJ n t P HT RK GP sm F T M ST ln mn E))) (pu_Q (.int (qct n t ln mn (hsum HT n) (trs F T ln.toNatClampNeg) w))) 0 0 (fun _ => False) := by
  refine Met.ofW (cc := cX6_count) (maxL := 2) (ret := (some .int)) (by decide) rfl ?_
  intro p e s m args below meth c s₁ B hml hv
  obtain ⟨rfl, hP, hK, hN⟩ := hv
  have hx := B.exec
  have hb := B.bytes
  have hr := B.returns
  have hts := atoms_spec (ws := wsX6_count) B.pre
  have hown : s.vm.findClass RX6 = some m.cls := findClass_of_methodNamed B.named
  have hlocks := B.notSynchronized
  have hinX4 : ∀ w ∈ u_ws RX4 TX4 6, w ∈ wsX6_count := by decide +kernel
  have hinX6 : ∀ w ∈ u_ws RX6 TX6 7, w ∈ wsX6_count := by decide +kernel
  have hl := lv_entry ([.ref (ad 0), .int w]) (n := 2) (Nat.le_of_ble_eq_true rfl)
  rw [lg_entry_eq]
  generalize (lg_sl ([.ref (ad 0), .int w]) ++ List.replicate (2 - (lg_sl ([.ref (ad 0), .int w])).length) Slot.unset).toArray = ls at hl ⊢
  have hl : lv_has ls 2 [(0, .ref (ad 0)), (1, .int w)] := hl
  refine lv_iload_n hx hb dX6_count_0 rfl (lv_at hl 1 rfl) ?_
  rcases sw6 w with h_1 | h_1 | h_1 | h_1 | h_1 | h_1 | h_1
  · refine wk_ti (v' := nI 0) h_1 ?_
    refine lv_tableIn (tgt := 40) hx hb dX6_count_1 (by decide) (by decide) (by rfl) (by decide) ?_
    refine lv_aload_n hx hb dX6_count_40 rfl (lv_at hl 0 rfl) ?_
    refine pu_go (va_runV (As := []) (rest := []) ⟨hx, hb, hml, hown, hts⟩ (c_X6_boxes l dC dI ad cI cJ n t P HT RK GP sm F T M ST ln mn E hn0) (cwV 0 hts gX6_count_X6_boxes rfl rfl rfl (by decide +kernel) ⟨Nat.le_of_ble_eq_true rfl, Nat.le_of_ble_eq_true rfl⟩) ⟨rc_blind, va_recv hK hP (ci := 5) (q0 := 0) rfl rfl, fun U hU hW => ⟨rfl, by rw [hU]; exact hP, va_K.moved hW.alike hK, nst_warm hW hN⟩⟩ rfl rfl hl.1 rfl (lv_room (Nat.le_of_ble_eq_true rfl)) dX6_count_41 ⟨Nat.le_refl _, Nat.le_refl _⟩) ?_
    refine wk_ti (v' := qct n t ln mn (hsum HT n) (trs F T ln.toNatClampNeg) w) (by rw [h_1]; rfl) ?_
    exact W.iret hx hb hr (fun t9 ht _ => ⟨rfl, ht⟩) (fun _ h => nomatch h) dX6_count_44
  · refine wk_ti (v' := nI 1) h_1 ?_
    refine lv_tableIn (tgt := 45) hx hb dX6_count_1 (by decide) (by decide) (by rfl) (by decide) ?_
    refine lv_aload_n hx hb dX6_count_45 rfl (lv_at hl 0 rfl) ?_
    refine va_get (D := (dC, dI)) (ci := 5) (v := .int (nI n)) (C := RX6) (T := TX6) (N := 7) hx hb hts hinX6 hown hK hP 0 rfl rfl 0 (by decide) (hts (.fieldLink RX6 13 "ReshuffleSearch" "stacks" "I") (by decide +kernel)) (fun _ h9 => h9) rfl dX6_count_46 ?_
    refine wk_ti (v' := qct n t ln mn (hsum HT n) (trs F T ln.toNatClampNeg) w) (by rw [h_1]; rfl) ?_
    exact W.iret hx hb hr (fun t9 ht _ => ⟨rfl, ht⟩) (fun _ h => nomatch h) dX6_count_49
  · refine wk_ti (v' := nI 2) h_1 ?_
    refine lv_tableIn (tgt := 50) hx hb dX6_count_1 (by decide) (by decide) (by rfl) (by decide) ?_
    refine lv_aload_n hx hb dX6_count_50 rfl (lv_at hl 0 rfl) ?_
    refine va_get (D := (dC, dI)) (ci := 5) (v := .int (nI t)) (C := RX6) (T := TX6) (N := 7) hx hb hts hinX6 hown hK hP 0 rfl rfl 1 (by decide) (hts (.fieldLink RX6 17 "ReshuffleSearch" "tiers" "I") (by decide +kernel)) (fun _ h9 => h9) rfl dX6_count_51 ?_
    refine wk_ti (v' := qct n t ln mn (hsum HT n) (trs F T ln.toNatClampNeg) w) (by rw [h_1]; rfl) ?_
    exact W.iret hx hb hr (fun t9 ht _ => ⟨rfl, ht⟩) (fun _ h => nomatch h) dX6_count_54
  · refine wk_ti (v' := nI 3) h_1 ?_
    refine lv_tableIn (tgt := 55) hx hb dX6_count_1 (by decide) (by decide) (by rfl) (by decide) ?_
    refine lv_aload_n hx hb dX6_count_55 rfl (lv_at hl 0 rfl) ?_
    refine va_get (D := (dC, dI)) (ci := 5) (v := .ref (ad 7)) (C := RX6) (T := TX6) (N := 7) hx hb hts hinX6 hown hK hP 0 rfl rfl 6 (by decide) (hts (.fieldLink RX6 47 "ReshuffleSearch" "way" "LReshuffleSearch$Way;") (by decide +kernel)) (fun _ h9 => h9) rfl dX6_count_56 ?_
    refine va_getN (D := (dC, dI)) (ci := 4) (v := .int ln) (C := RX4) (T := TX4) (N := 6) (host := RX6) hx hb hts hinX4 hown hK hP 7 rfl rfl 4 (by decide) (va_Nw.use rfl hN.1.2.2.2.1) (fun _ h9 => h9) rfl dX6_count_59 ?_
    refine wk_ti (v' := qct n t ln mn (hsum HT n) (trs F T ln.toNatClampNeg) w) (by rw [h_1]; unfold qct; rw [if_neg (by decide), if_neg (by decide), if_neg (by decide), if_pos rfl]) ?_
    exact W.iret hx hb hr (fun t9 ht _ => ⟨rfl, ht⟩) (fun _ h => nomatch h) dX6_count_62
  · refine wk_ti (v' := nI 4) h_1 ?_
    refine lv_tableIn (tgt := 63) hx hb dX6_count_1 (by decide) (by decide) (by rfl) (by decide) ?_
    refine lv_aload_n hx hb dX6_count_63 rfl (lv_at hl 0 rfl) ?_
    refine va_get (D := (dC, dI)) (ci := 5) (v := .ref (ad 7)) (C := RX6) (T := TX6) (N := 7) hx hb hts hinX6 hown hK hP 0 rfl rfl 6 (by decide) (hts (.fieldLink RX6 47 "ReshuffleSearch" "way" "LReshuffleSearch$Way;") (by decide +kernel)) (fun _ h9 => h9) rfl dX6_count_64 ?_
    refine pu_go (va_runV (As := []) (rest := []) ⟨hx, hb, hml, hown, hts⟩ (c_X4_isKept l dC dI ad cI cJ n t P HT RK GP sm F T M ST ln mn E ) (cwV 0 hts gX6_count_X4_isKept rfl rfl rfl (by decide +kernel) ⟨Nat.le_of_ble_eq_true rfl, Nat.le_of_ble_eq_true rfl⟩) ⟨rc_blind, va_recv hK hP (ci := 4) (q0 := 7) rfl rfl, fun U hU hW => ⟨rfl, by rw [hU]; exact hP, va_K.moved hW.alike hK, nst_warm hW hN⟩⟩ rfl rfl hl.1 rfl (lv_room (Nat.le_of_ble_eq_true rfl)) dX6_count_67 ⟨Nat.le_refl _, Nat.le_refl _⟩) ?_
    refine wk_bn_eq (tgt := 83) hx hb dX6_count_70 (by decide) (fun c_70 => ?_) (fun c_70 => ?_)
    · refine lv_iconst (v := -1) hx hb dX6_count_83 (by decide +kernel) ?_
      refine wk_ti (v' := qct n t ln mn (hsum HT n) (trs F T ln.toNatClampNeg) w) (by rw [h_1]; unfold qct; rw [if_neg (by decide), if_neg (by decide), if_neg (by decide), if_neg (by decide), if_pos rfl, if_pos (Decidable.not_not.mp c_70)]) ?_
      exact W.iret hx hb hr (fun t9 ht _ => ⟨rfl, ht⟩) (fun _ h => nomatch h) dX6_count_84
    · obtain ⟨L0, m0, hL0, hm0, hL, hM9, hFT⟩ := hkp.resolve_left c_70
      rw [hL] at hP
      have hl : lv_has ls 2 [(0, .ref (ad 0)), (1, .int w)] := by exact hl
      refine lv_aload_n hx hb dX6_count_73 rfl (lv_at hl 0 rfl) ?_
      refine va_get (D := (dC, dI)) (ci := 5) (v := .ref (ad 7)) (C := RX6) (T := TX6) (N := 7) hx hb hts hinX6 hown hK hP 0 rfl rfl 6 (by decide) (hts (.fieldLink RX6 47 "ReshuffleSearch" "way" "LReshuffleSearch$Way;") (by decide +kernel)) (fun _ h9 => h9) rfl dX6_count_74 ?_
      refine pu_go (va_runV (As := []) (rest := []) ⟨hx, hb, hml, hown, hts⟩ (c_X4_wholeTravel l dC dI ad cI cJ n t P HT RK GP sm F T M ST (nI L0) mn E L0 hL0 hFT) (cwV 0 hts gX6_count_X4_wholeTravel rfl rfl rfl (by decide +kernel) ⟨Nat.le_of_ble_eq_true rfl, Nat.le_of_ble_eq_true rfl⟩) ⟨rc_blind, va_recv hK hP (ci := 4) (q0 := 7) rfl rfl, fun U hU hW => ⟨rfl, by rw [hU]; exact hP, va_K.moved hW.alike hK, nst_warm hW hN⟩⟩ rfl rfl hl.1 rfl (lv_room (Nat.le_of_ble_eq_true rfl)) dX6_count_77 ⟨Nat.le_refl _, Nat.le_refl _⟩) ?_
      refine lv_goto (tgt := 84) hx hb dX6_count_80 (by decide) ?_
      refine wk_ti (v' := qct n t ln mn (hsum HT n) (trs F T ln.toNatClampNeg) w) (by rw [h_1]; unfold qct; rw [if_neg (by decide), if_neg (by decide), if_neg (by decide), if_neg (by decide), if_pos rfl, if_neg c_70, hL, nI_clamp (by omega)]) ?_
      exact W.iret hx hb hr (fun t9 ht _ => ⟨rfl, ht⟩) (fun _ h => nomatch h) dX6_count_84
  · refine wk_ti (v' := nI 5) h_1 ?_
    refine lv_tableIn (tgt := 85) hx hb dX6_count_1 (by decide) (by decide) (by rfl) (by decide) ?_
    refine lv_aload_n hx hb dX6_count_85 rfl (lv_at hl 0 rfl) ?_
    refine va_get (D := (dC, dI)) (ci := 5) (v := .ref (ad 7)) (C := RX6) (T := TX6) (N := 7) hx hb hts hinX6 hown hK hP 0 rfl rfl 6 (by decide) (hts (.fieldLink RX6 47 "ReshuffleSearch" "way" "LReshuffleSearch$Way;") (by decide +kernel)) (fun _ h9 => h9) rfl dX6_count_86 ?_
    refine pu_go (va_runV (As := []) (rest := []) ⟨hx, hb, hml, hown, hts⟩ (c_X4_isKept l dC dI ad cI cJ n t P HT RK GP sm F T M ST ln mn E ) (cwV 0 hts gX6_count_X4_isKept rfl rfl rfl (by decide +kernel) ⟨Nat.le_of_ble_eq_true rfl, Nat.le_of_ble_eq_true rfl⟩) ⟨rc_blind, va_recv hK hP (ci := 4) (q0 := 7) rfl rfl, fun U hU hW => ⟨rfl, by rw [hU]; exact hP, va_K.moved hW.alike hK, nst_warm hW hN⟩⟩ rfl rfl hl.1 rfl (lv_room (Nat.le_of_ble_eq_true rfl)) dX6_count_89 ⟨Nat.le_refl _, Nat.le_refl _⟩) ?_
    refine wk_bn_eq (tgt := 105) hx hb dX6_count_92 (by decide) (fun c_92 => ?_) (fun c_92 => ?_)
    · refine lv_iconst (v := -1) hx hb dX6_count_105 (by decide +kernel) ?_
      refine wk_ti (v' := qct n t ln mn (hsum HT n) (trs F T ln.toNatClampNeg) w) (by rw [h_1]; unfold qct; rw [if_neg (by decide), if_neg (by decide), if_neg (by decide), if_neg (by decide), if_neg (by decide), if_pos rfl, if_pos (Decidable.not_not.mp c_92)]) ?_
      exact W.iret hx hb hr (fun t9 ht _ => ⟨rfl, ht⟩) (fun _ h => nomatch h) dX6_count_106
    · refine lv_aload_n hx hb dX6_count_95 rfl (lv_at hl 0 rfl) ?_
      refine va_get (D := (dC, dI)) (ci := 5) (v := .ref (ad 7)) (C := RX6) (T := TX6) (N := 7) hx hb hts hinX6 hown hK hP 0 rfl rfl 6 (by decide) (hts (.fieldLink RX6 47 "ReshuffleSearch" "way" "LReshuffleSearch$Way;") (by decide +kernel)) (fun _ h9 => h9) rfl dX6_count_96 ?_
      refine va_getN (D := (dC, dI)) (ci := 4) (v := .int mn) (C := RX4) (T := TX4) (N := 6) (host := RX6) hx hb hts hinX4 hown hK hP 7 rfl rfl 5 (by decide) (va_Nw.use rfl hN.1.2.2.2.2.1) (fun _ h9 => h9) rfl dX6_count_99 ?_
      refine lv_goto (tgt := 106) hx hb dX6_count_102 (by decide) ?_
      refine wk_ti (v' := qct n t ln mn (hsum HT n) (trs F T ln.toNatClampNeg) w) (by rw [h_1]; unfold qct; rw [if_neg (by decide), if_neg (by decide), if_neg (by decide), if_neg (by decide), if_neg (by decide), if_pos rfl, if_neg c_92]) ?_
      exact W.iret hx hb hr (fun t9 ht _ => ⟨rfl, ht⟩) (fun _ h => nomatch h) dX6_count_106
  · refine lv_tableOut (tgt := 107) hx hb dX6_count_1 h_1.1 (by decide) ?_
    refine lv_iconst (v := -1) hx hb dX6_count_107 (by decide +kernel) ?_
    refine wk_ti (v' := qct n t ln mn (hsum HT n) (trs F T ln.toNatClampNeg) w) (by unfold qct; obtain ⟨-, h0, h1, h2, h3, h4, h5⟩ := h_1; rw [if_neg h0, if_neg h1, if_neg h2, if_neg h3, if_neg h4, if_neg h5]) ?_
    exact W.iret hx hb hr (fun t9 ht _ => ⟨rfl, ht⟩) (fun _ h => nomatch h) dX6_count_108
