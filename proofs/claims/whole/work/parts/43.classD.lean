set_option maxHeartbeats 4000000 in
set_option maxRecDepth 100000 in
theorem c_X6_packed (l : Launch) (dC : Nat → ClassId) (dI : Nat → Nat → Nat) (ad : Nat → Nat) (cI cJ : ClassId) (n t : Nat) (P HT RK GP : Nat → Nat) (sm : Int32) (F T M ST : Nat → Nat) (ln mn : Int32) (E : Nat → Nat) (hn0 : 2 ≤ n ∧ n ≤ 4) (ht0 : 2 ≤ t ∧ t ≤ 4) (hP0 : ∀ j, P j < 2147483648) (hH0 : ∀ j, HT j < 1000000) (hR0 : ∀ j, RK j < 8)  (sz : Nat) : Met l yX6_packed wsX6_packed ({ frames := 2, cells := 0, slots := 0, locals := 48 }) (va_Pc [.ref (ad 0)] (wc_P (dC, dI) [(cI, .int), (cJ, .long)] (cW ad cI cJ n t P HT RK GP sm F T M ST ln mn E) sz)) (wr_Q (dC, dI) (va_A (cW ad cI cJ n t P HT RK GP sm F T M ST ln mn E) sz) (fun r W1 => r = some (.long (lN (pks P (lrn P RK GP).2.1 HT t n))) ∧ W1 = (cW ad cI cJ n t P HT ((lrn P RK GP).2.1) ((lrn P RK GP).2.2) sm F T M ST ln mn E))) 0 0 (va_A (cW ad cI cJ n t P HT RK GP sm F T M ST ln mn E) sz) := by
  refine Met.ofW (cc := cX6_packed) (maxL := 5) (ret := (some .long)) (by decide) rfl ?_
  intro p e s m args below meth c s₁ B hml hv
  obtain ⟨rfl, ⟨hsz, hP, hK, hD0⟩, hN⟩ := hv
  have hx := B.exec
  have hb := B.bytes
  have hr := B.returns
  have hts := atoms_spec (ws := wsX6_packed) B.pre
  have hown : s.vm.findClass RX6 = some m.cls := findClass_of_methodNamed B.named
  have hlocks := B.notSynchronized
  have hinX6 : ∀ w ∈ u_ws RX6 TX6 7, w ∈ wsX6_packed := by decide +kernel
  subst hsz
  have hD := hD0.self (sz := s.heap.size)
  generalize hAe : va_A (cW ad cI cJ n t P HT RK GP sm F T M ST ln mn E) s.heap.size = A at hD ⊢
  have hA : ∀ q : Nat, s.heap.size ≤ q → A q := fun q h => by rw [← hAe]; exact Or.inr h
  have hS : va_S A s.heap s.heap [] := va_S.rf
  have hl := lv_entry ([.ref (ad 0)]) (n := 5) (Nat.le_of_ble_eq_true rfl)
  rw [lg_entry_eq]
  generalize (lg_sl ([.ref (ad 0)]) ++ List.replicate (5 - (lg_sl ([.ref (ad 0)])).length) Slot.unset).toArray = ls at hl ⊢
  have hl : lv_has ls 5 [(0, .ref (ad 0))] := hl
  have hRl := lrn_lt (P := P) (GP := GP) hR0
  refine lv_aload_n hx hb dX6_packed_0 rfl (lv_at hl 0 rfl) ?_
  refine va_get (D := (dC, dI)) (ci := 5) (v := .ref (ad 3)) (C := RX6) (T := TX6) (N := 7) hx hb hts hinX6 hown hK hP 0 rfl rfl 4 (by decide) (hts (.fieldLink RX6 30 "ReshuffleSearch" "ranks" "LReshuffleSearch$Ranks;") (by decide +kernel)) (fun _ h9 => h9) rfl dX6_packed_1 ?_
  refine lv_aload_n hx hb dX6_packed_4 rfl (lv_at hl 0 rfl) ?_
  refine va_get (D := (dC, dI)) (ci := 5) (v := .ref (ad 1)) (C := RX6) (T := TX6) (N := 7) hx hb hts hinX6 hown hK hP 0 rfl rfl 2 (by decide) (hts (.fieldLink RX6 20 "ReshuffleSearch" "place" "[I") (by decide +kernel)) (fun _ h9 => h9) rfl dX6_packed_5 ?_
  have hFc := va_free (wc := (cW ad cI cJ n t P HT RK GP sm F T M ST ln mn E)) hD hS hA [0, 1, 2, 3, 4, 5, 6, 7, 8, 9, 10, 11, 12, 13] rfl
  refine wr_go (va_runV (As := [.ref (ad 1)]) (rest := []) ⟨hx, hb, hml, hown, hts⟩ (c_X1_learn l dC dI ad cI cJ n t P HT RK GP sm F T M ST ln mn E hP0 hR0 s.heap.size) (cwV 1 hts gX6_packed_X1_learn rfl rfl rfl (by decide +kernel) ⟨Nat.le_of_ble_eq_true rfl, Nat.le_of_ble_eq_true rfl⟩) ⟨wc_blind, va_recv hK hP (ci := 2) (q0 := 3) rfl rfl, fun U hU hW => ⟨rfl, ⟨by rw [hU], by rw [hU]; exact hP, va_K.moved hW.alike hK, hD.weaken (fun _ _ _ _ => trivial)⟩, nst_warm hW hN⟩⟩ rfl rfl hl.1 rfl (lv_room (Nat.le_of_ble_eq_true rfl)) dX6_packed_8 ⟨Nat.le_refl _, Nat.le_refl _⟩) hS hFc hFc (fun r9 W9 H locs hpost hP hD9 hz9 hk9 hS => ?_)
  have hD := hD9.weaken (fun _ _ _ h => hFc _ h)
  obtain ⟨rfl, rfl⟩ := hpost
  have hP : va_P (dC, dI) vwCl (cW ad cI cJ n t P HT ((lrn P RK GP).2.1) ((lrn P RK GP).2.2) sm F T M ST ln mn E) H := hP
  have hD : va_D A (cW ad cI cJ n t P HT ((lrn P RK GP).2.1) ((lrn P RK GP).2.2) sm F T M ST ln mn E) := hD
  refine W.eq (g2 := F0 m 11 ls []) rfl ?_
  refine lv_lconst (v := lN 0) hx hb dX6_packed_11 (by decide +kernel) ?_
  refine lv_lstore_n (lv' := [(1, .long (lN 0)), (0, .ref (ad 0))]) hx hb dX6_packed_12 rfl hl (by decide) rfl (fun ls hl => ?_)
  refine lv_iconst (v := nI 0) hx hb dX6_packed_13 (by decide +kernel) ?_
  refine lv_istore_n (lv' := [(3, .int (nI 0)), (1, .long (lN 0)), (0, .ref (ad 0))]) hx hb dX6_packed_14 rfl hl (by decide) rfl (fun ls hl => ?_)
  have cut_15 : ∀ (n_15 : Nat) (s0 : Nat) (v15_1 : Int64) (v15_3 : Int32) (ls : Array Slot) (H : Heap) (locs : List Loc) (hs : s0 ≤ n) (hn_15 : n - s0 < n_15) (_ : v15_1 = lN (pks P (lrn P RK GP).2.1 HT t s0)) (_ : v15_3 = nI s0) (_ : lv_has ls 5 [(0, .ref (ad 0)), (1, .long v15_1), (3, .int v15_3)]) (_ : va_P (dC, dI) vwCl (cW ad cI cJ n t P HT ((lrn P RK GP).2.1) ((lrn P RK GP).2.2) sm F T M ST ln mn E) H) (_ : va_D A (cW ad cI cJ n t P HT ((lrn P RK GP).2.1) ((lrn P RK GP).2.2) sm F T M ST ln mn E)) (_ : va_S A s.heap H locs), W p l e (headSpec wsX6_packed ({ frames := 2, cells := 0, slots := 0, locals := 48 })).room s m ([.ref (ad 0)] : List Value).toArray below meth c H locs 0 0 (MQ below (wr_Q (dC, dI) A (fun r W1 => r = some (.long (lN (pks P (lrn P RK GP).2.1 HT t n))) ∧ W1 = (cW ad cI cJ n t P HT ((lrn P RK GP).2.1) ((lrn P RK GP).2.2) sm F T M ST ln mn E))) ([.ref (ad 0)] : List Value).toArray s 0 0 A) (F0 m 15 ls []) := by
    intro n_15
    induction n_15 with
    | zero => intros; omega
    | succ n_15 ih_15 =>
      rintro s0 v15_1 v15_3 ls H locs hs hn_15 rfl rfl hl hP hD hS
      have hq1 := pks_lt (P := P) (RK := (lrn P RK GP).2.1) (HT := HT) (t := t) s0 (by omega)
      have hqh := hH0 s0
      refine lv_iload_n hx hb dX6_packed_15 rfl (lv_at hl 2 rfl) ?_
      refine lv_aload_n hx hb dX6_packed_16 rfl (lv_at hl 0 rfl) ?_
      refine va_get (D := (dC, dI)) (ci := 5) (v := .int (nI n)) (C := RX6) (T := TX6) (N := 7) hx hb hts hinX6 hown hK hP 0 rfl rfl 0 (by decide) (hts (.fieldLink RX6 13 "ReshuffleSearch" "stacks" "I") (by decide +kernel)) (fun _ h9 => h9) rfl dX6_packed_17 ?_
      refine wk_icmp_ge (tgt := 85) hx hb (by omega) (by omega) dX6_packed_20 (by decide) (fun c_20 => ?_) (fun c_20 => ?_)
      · refine lv_lload_n hx hb dX6_packed_85 rfl (lv_at hl 1 rfl) ?_
        exact W.lret hx hb hr (fun t9 ht hW => ⟨some (.long (lN (pks P (lrn P RK GP).2.1 HT t s0))), (cW ad cI cJ n t P HT ((lrn P RK GP).2.1) ((lrn P RK GP).2.2) sm F T M ST ln mn E), rfl, ⟨by rw [show s0 = n by omega], rfl⟩, by rw [ht]; exact hP, hD, hS.F ht⟩) hS.2.2 dX6_packed_86
      · refine lv_iconst (v := nI 0) hx hb dX6_packed_23 (by decide +kernel) ?_
        refine lv_istore (lv' := [(4, .int (nI 0)), (0, .ref (ad 0)), (1, .long (lN (pks P (lrn P RK GP).2.1 HT t s0))), (3, .int (nI s0))]) hx hb dX6_packed_24 hl (by decide) rfl (fun ls hl => ?_)
        have cut_26 : ∀ (n_26 : Nat) (k : Nat) (v26_1 : Int64) (v26_3 : Int32) (v26_4 : Int32) (ls : Array Slot) (H : Heap) (locs : List Loc) (hk : k ≤ min (HT s0) t) (hn_26 : t - k < n_26) (_ : v26_1 = lN (pkt P (lrn P RK GP).2.1 s0 t (pks P (lrn P RK GP).2.1 HT t s0) k)) (_ : v26_3 = nI s0) (_ : v26_4 = nI k) (_ : lv_has ls 5 [(0, .ref (ad 0)), (1, .long v26_1), (3, .int v26_3), (4, .int v26_4)]) (_ : va_P (dC, dI) vwCl (cW ad cI cJ n t P HT ((lrn P RK GP).2.1) ((lrn P RK GP).2.2) sm F T M ST ln mn E) H) (_ : va_D A (cW ad cI cJ n t P HT ((lrn P RK GP).2.1) ((lrn P RK GP).2.2) sm F T M ST ln mn E)) (_ : va_S A s.heap H locs), W p l e (headSpec wsX6_packed ({ frames := 2, cells := 0, slots := 0, locals := 48 })).room s m ([.ref (ad 0)] : List Value).toArray below meth c H locs 0 0 (MQ below (wr_Q (dC, dI) A (fun r W1 => r = some (.long (lN (pks P (lrn P RK GP).2.1 HT t n))) ∧ W1 = (cW ad cI cJ n t P HT ((lrn P RK GP).2.1) ((lrn P RK GP).2.2) sm F T M ST ln mn E))) ([.ref (ad 0)] : List Value).toArray s 0 0 A) (F0 m 26 ls []) := by
          intro n_26
          induction n_26 with
          | zero => intros; omega
          | succ n_26 ih_26 =>
            rintro k v26_1 v26_3 v26_4 ls H locs hk hn_26 rfl rfl rfl hl hP hD hS
            have hq2 := pkt_lt (P := P) (RK := (lrn P RK GP).2.1) (t := t) hq1 (show s0 < 4 by omega) k
            have hq3 := rkc_lt hRl (P (s0 * t + k))
            have hq4 : k < t → s0 * t + k < 16 := fun h => by have := Nat.mul_le_mul_right t (show s0 ≤ 3 by omega); omega
            refine lv_iload hx hb dX6_packed_26 (lv_at hl 3 rfl) ?_
            refine lv_aload_n hx hb dX6_packed_28 rfl (lv_at hl 0 rfl) ?_
            refine va_get (D := (dC, dI)) (ci := 5) (v := .ref (ad 2)) (C := RX6) (T := TX6) (N := 7) hx hb hts hinX6 hown hK hP 0 rfl rfl 3 (by decide) (hts (.fieldLink RX6 24 "ReshuffleSearch" "height" "[I") (by decide +kernel)) (fun _ h9 => h9) rfl dX6_packed_29 ?_
            refine lv_iload_n hx hb dX6_packed_32 rfl (lv_at hl 2 rfl) ?_
            refine wk_iald hx hb hK hP 2 0 rfl rfl (by omega) dX6_packed_33 ?_
            refine wk_icmp_ge (tgt := 79) hx hb (by omega) (by omega) dX6_packed_34 (by decide) (fun c_34 => ?_) (fun c_34 => ?_)
            · have hkm : k = min (HT s0) t := by omega
              refine lv_iinc (v := nI (s0 + 1)) (lv' := [(3, .int (nI (s0 + 1))), (0, .ref (ad 0)), (1, .long (lN (pkt P (lrn P RK GP).2.1 s0 t (pks P (lrn P RK GP).2.1 HT t s0) k))), (4, .int (nI k))]) hx hb dX6_packed_79 hl (k := 2) rfl (wk_inc _ 1 rfl) (by decide) rfl (fun ls hl => ?_)
              refine lv_goto (tgt := 15) hx hb dX6_packed_82 (by decide) ?_
              exact ih_15 (s0 + 1) _ _ ls _ _ (by omega) (by omega) (by show _ = lN (pkt _ _ _ _ _ (min (HT s0) t)); rw [hkm]) (rfl) (lv_sub hl [1, 2, 0] rfl) (hP) (hD) hS
            · refine lv_iload hx hb dX6_packed_37 (lv_at hl 3 rfl) ?_
              refine lv_aload_n hx hb dX6_packed_39 rfl (lv_at hl 0 rfl) ?_
              refine va_get (D := (dC, dI)) (ci := 5) (v := .int (nI t)) (C := RX6) (T := TX6) (N := 7) hx hb hts hinX6 hown hK hP 0 rfl rfl 1 (by decide) (hts (.fieldLink RX6 17 "ReshuffleSearch" "tiers" "I") (by decide +kernel)) (fun _ h9 => h9) rfl dX6_packed_40 ?_
              refine wk_icmp_ge (tgt := 79) hx hb (by omega) (by omega) dX6_packed_43 (by decide) (fun c_43 => ?_) (fun c_43 => ?_)
              · have hkm : k = min (HT s0) t := by omega
                refine lv_iinc (v := nI (s0 + 1)) (lv' := [(3, .int (nI (s0 + 1))), (0, .ref (ad 0)), (1, .long (lN (pkt P (lrn P RK GP).2.1 s0 t (pks P (lrn P RK GP).2.1 HT t s0) k))), (4, .int (nI k))]) hx hb dX6_packed_79 hl (k := 2) rfl (wk_inc _ 1 rfl) (by decide) rfl (fun ls hl => ?_)
                refine lv_goto (tgt := 15) hx hb dX6_packed_82 (by decide) ?_
                exact ih_15 (s0 + 1) _ _ ls _ _ (by omega) (by omega) (by show _ = lN (pkt _ _ _ _ _ (min (HT s0) t)); rw [hkm]) (rfl) (lv_sub hl [1, 2, 0] rfl) (hP) (hD) hS
              · refine lv_lload_n hx hb dX6_packed_46 rfl (lv_at hl 1 rfl) ?_
                refine lv_iload_n hx hb dX6_packed_47 rfl (lv_at hl 2 rfl) ?_
                refine lv_aload_n hx hb dX6_packed_48 rfl (lv_at hl 0 rfl) ?_
                refine va_get (D := (dC, dI)) (ci := 5) (v := .ref (ad 3)) (C := RX6) (T := TX6) (N := 7) hx hb hts hinX6 hown hK hP 0 rfl rfl 4 (by decide) (hts (.fieldLink RX6 30 "ReshuffleSearch" "ranks" "LReshuffleSearch$Ranks;") (by decide +kernel)) (fun _ h9 => h9) rfl dX6_packed_49 ?_
                refine lv_aload_n hx hb dX6_packed_52 rfl (lv_at hl 0 rfl) ?_
                refine va_get (D := (dC, dI)) (ci := 5) (v := .ref (ad 1)) (C := RX6) (T := TX6) (N := 7) hx hb hts hinX6 hown hK hP 0 rfl rfl 2 (by decide) (hts (.fieldLink RX6 20 "ReshuffleSearch" "place" "[I") (by decide +kernel)) (fun _ h9 => h9) rfl dX6_packed_53 ?_
                refine lv_iload_n hx hb dX6_packed_56 rfl (lv_at hl 2 rfl) ?_
                refine lv_aload_n hx hb dX6_packed_57 rfl (lv_at hl 0 rfl) ?_
                refine va_get (D := (dC, dI)) (ci := 5) (v := .int (nI t)) (C := RX6) (T := TX6) (N := 7) hx hb hts hinX6 hown hK hP 0 rfl rfl 1 (by decide) (hts (.fieldLink RX6 17 "ReshuffleSearch" "tiers" "I") (by decide +kernel)) (fun _ h9 => h9) rfl dX6_packed_58 ?_
                refine wk_imul hx hb dX6_packed_61 ?_
                refine lv_iload hx hb dX6_packed_62 (lv_at hl 3 rfl) ?_
                refine wk_iadd hx hb dX6_packed_64 ?_
                refine wk_iald hx hb hK hP 1 0 rfl rfl (⟨hq4 (by omega), by omega⟩) dX6_packed_65 ?_
                refine pu_go (va_runV (As := [.int (nI (P ((s0 * t) + k)))]) (rest := [.int (nI s0), .long (lN (pkt P (lrn P RK GP).2.1 s0 t (pks P (lrn P RK GP).2.1 HT t s0) k))]) ⟨hx, hb, hml, hown, hts⟩ (c_X1_rankOf l dC dI ad cI cJ n t P HT ((lrn P RK GP).2.1) ((lrn P RK GP).2.2) sm F T M ST ln mn E (P ((s0 * t) + k)) (by first | omega | exact hP0 _)) (cwV 1 hts gX6_packed_X1_rankOf rfl rfl rfl (by decide +kernel) ⟨Nat.le_of_ble_eq_true rfl, Nat.le_of_ble_eq_true rfl⟩) ⟨rc_blind, va_recv hK hP (ci := 2) (q0 := 3) rfl rfl, fun U hU hW => ⟨rfl, by rw [hU]; exact hP, va_K.moved hW.alike hK, nst_warm hW hN⟩⟩ rfl rfl hl.1 rfl (lv_room (Nat.le_of_ble_eq_true rfl)) dX6_packed_66 ⟨Nat.le_refl _, Nat.le_refl _⟩) ?_
                refine pu_go (va_runS (As := [.long (lN (pkt P (lrn P RK GP).2.1 s0 t (pks P (lrn P RK GP).2.1 HT t s0) k)), .int (nI s0), .int (nI (rkc ((lrn P RK GP).2.1) (P ((s0 * t) + k))))]) (rest := []) ⟨hx, hb, hml, hown, hts⟩ (c_X5_laid l (pkt P (lrn P RK GP).2.1 s0 t (pks P (lrn P RK GP).2.1 HT t s0) k) s0 (rkc ((lrn P RK GP).2.1) (P ((s0 * t) + k))) (by first | omega | assumption) (by omega) (by omega)) (va_cwS 3 hts gX6_packed_X5_laid rfl rfl rfl (by decide +kernel) ⟨Nat.le_of_ble_eq_true rfl, Nat.le_of_ble_eq_true rfl⟩) ⟨fun _ _ _ _ q => q, fun _ _ _ => ⟨rfl, trivial⟩⟩ rfl rfl hl.1 rfl (lv_room (Nat.le_of_ble_eq_true rfl)) dX6_packed_69 ⟨Nat.le_refl _, Nat.le_refl _⟩) ?_
                refine lv_lstore_n (lv' := [(1, .long (lN (ylaid (pkt P (lrn P RK GP).2.1 s0 t (pks P (lrn P RK GP).2.1 HT t s0) k) s0 (rkc ((lrn P RK GP).2.1) (P ((s0 * t) + k)))))), (0, .ref (ad 0)), (3, .int (nI s0)), (4, .int (nI k))]) hx hb dX6_packed_72 rfl hl (by decide) rfl (fun ls hl => ?_)
                refine lv_iinc (v := nI (k + 1)) (lv' := [(4, .int (nI (k + 1))), (1, .long (lN (ylaid (pkt P (lrn P RK GP).2.1 s0 t (pks P (lrn P RK GP).2.1 HT t s0) k) s0 (rkc ((lrn P RK GP).2.1) (P ((s0 * t) + k)))))), (0, .ref (ad 0)), (3, .int (nI s0))]) hx hb dX6_packed_73 hl (k := 3) rfl (wk_inc _ 1 rfl) (by decide) rfl (fun ls hl => ?_)
                refine lv_goto (tgt := 26) hx hb dX6_packed_76 (by decide) ?_
                exact ih_26 (k + 1) _ _ _ ls _ _ (by omega) (by omega) (rfl) (rfl) (rfl) (lv_sub hl [2, 1, 3, 0] rfl) (hP) (hD) hS
        exact cut_26 (t + 1) 0 _ _ _ ls _ _ (by omega) (by omega) (rfl) (rfl) (rfl) (lv_sub hl [1, 2, 3, 0] rfl) (hP) (hD) hS
  exact cut_15 (n + 1) 0 _ _ ls _ _ (by omega) (by omega) (rfl) (rfl) (lv_sub hl [2, 1, 0] rfl) (hP) (hD) hS
set_option maxHeartbeats 4000000 in
set_option maxRecDepth 100000 in
theorem c_X6_unpack (l : Launch) (dC : Nat → ClassId) (dI : Nat → Nat → Nat) (ad : Nat → Nat) (cI cJ : ClassId) (n t : Nat) (P HT RK GP : Nat → Nat) (sm : Int32) (F T M ST : Nat → Nat) (ln mn : Int32) (E : Nat → Nat) (hn0 : 2 ≤ n ∧ n ≤ 4) (ht0 : 2 ≤ t ∧ t ≤ 4) (x : Nat) (hx0 : x < 2 ^ 48)  (sz : Nat) : Met l yX6_unpack wsX6_unpack ({ frames := 2, cells := 0, slots := 0, locals := 42 }) (va_Pc [.ref (ad 0), .long (lN x)] (wc_P (dC, dI) [(cI, .int), (cJ, .long)] (cW ad cI cJ n t P HT RK GP sm F T M ST ln mn E) sz)) (wr_Q (dC, dI) (va_A (cW ad cI cJ n t P HT RK GP sm F T M ST ln mn E) sz) (fun r W1 => r = none ∧ W1 = (cW ad cI cJ n t ((ups x t GP P HT n).1) ((ups x t GP P HT n).2) RK GP sm F T M ST ln mn E))) 0 0 (va_A (cW ad cI cJ n t P HT RK GP sm F T M ST ln mn E) sz) := by
  refine Met.ofW (cc := cX6_unpack) (maxL := 7) (ret := none) (by decide) rfl ?_
  intro p e s m args below meth c s₁ B hml hv
  obtain ⟨rfl, ⟨hsz, hP, hK, hD0⟩, hN⟩ := hv
  have hx := B.exec
  have hb := B.bytes
  have hr := B.returns
  have hts := atoms_spec (ws := wsX6_unpack) B.pre
  have hown : s.vm.findClass RX6 = some m.cls := findClass_of_methodNamed B.named
  have hlocks := B.notSynchronized
  have hinX6 : ∀ w ∈ u_ws RX6 TX6 7, w ∈ wsX6_unpack := by decide +kernel
  subst hsz
  have hD := hD0.self (sz := s.heap.size)
  generalize hAe : va_A (cW ad cI cJ n t P HT RK GP sm F T M ST ln mn E) s.heap.size = A at hD ⊢
  have hA : ∀ q : Nat, s.heap.size ≤ q → A q := fun q h => by rw [← hAe]; exact Or.inr h
  have hS : va_S A s.heap s.heap [] := va_S.rf
  have hl := lv_entry ([.ref (ad 0), .long (lN x)]) (n := 7) (Nat.le_of_ble_eq_true rfl)
  rw [lg_entry_eq]
  generalize (lg_sl ([.ref (ad 0), .long (lN x)]) ++ List.replicate (7 - (lg_sl ([.ref (ad 0), .long (lN x)])).length) Slot.unset).toArray = ls at hl ⊢
  have hl : lv_has ls 7 [(0, .ref (ad 0)), (1, .long (lN x))] := hl
  refine lv_iconst (v := nI 0) hx hb dX6_unpack_0 (by decide +kernel) ?_
  refine lv_istore_n (lv' := [(3, .int (nI 0)), (0, .ref (ad 0)), (1, .long (lN x))]) hx hb dX6_unpack_1 rfl hl (by decide) rfl (fun ls hl => ?_)
  have cut_2 : ∀ (n_2 : Nat) (s0 : Nat) (v2_1 : Int64) (v2_3 : Int32) (ls : Array Slot) (H : Heap) (locs : List Loc) (hs : s0 ≤ n) (hn_2 : n - s0 < n_2) (_ : v2_1 = lN x) (_ : v2_3 = nI s0) (_ : lv_has ls 7 [(0, .ref (ad 0)), (1, .long v2_1), (3, .int v2_3)]) (_ : va_P (dC, dI) vwCl (cW ad cI cJ n t ((ups x t GP P HT s0).1) ((ups x t GP P HT s0).2) RK GP sm F T M ST ln mn E) H) (_ : va_D A (cW ad cI cJ n t ((ups x t GP P HT s0).1) ((ups x t GP P HT s0).2) RK GP sm F T M ST ln mn E)) (_ : va_S A s.heap H locs), W p l e (headSpec wsX6_unpack ({ frames := 2, cells := 0, slots := 0, locals := 42 })).room s m ([.ref (ad 0), .long (lN x)] : List Value).toArray below meth c H locs 0 0 (MQ below (wr_Q (dC, dI) A (fun r W1 => r = none ∧ W1 = (cW ad cI cJ n t ((ups x t GP P HT n).1) ((ups x t GP P HT n).2) RK GP sm F T M ST ln mn E))) ([.ref (ad 0), .long (lN x)] : List Value).toArray s 0 0 A) (F0 m 2 ls []) := by
    intro n_2
    induction n_2 with
    | zero => intros; omega
    | succ n_2 ih_2 =>
      rintro s0 v2_1 v2_3 ls H locs hs hn_2 rfl rfl hl hP hD hS
      have hq1 := yw_lt x s0
      have hq2 := ysz_le (yw x s0)
      refine lv_iload_n hx hb dX6_unpack_2 rfl (lv_at hl 2 rfl) ?_
      refine lv_aload_n hx hb dX6_unpack_3 rfl (lv_at hl 0 rfl) ?_
      refine va_get (D := (dC, dI)) (ci := 5) (v := .int (nI n)) (C := RX6) (T := TX6) (N := 7) hx hb hts hinX6 hown hK hP 0 rfl rfl 0 (by decide) (hts (.fieldLink RX6 13 "ReshuffleSearch" "stacks" "I") (by decide +kernel)) (fun _ h9 => h9) rfl dX6_unpack_4 ?_
      refine wk_icmp_ge (tgt := 100) hx hb (by omega) (by omega) dX6_unpack_7 (by decide) (fun c_7 => ?_) (fun c_7 => ?_)
      · exact W.vret hx hb hr (fun t9 ht hW => ⟨none, (cW ad cI cJ n t ((ups x t GP P HT s0).1) ((ups x t GP P HT s0).2) RK GP sm F T M ST ln mn E), rfl, ⟨rfl, by rw [show s0 = n by omega]⟩, by rw [ht]; exact hP, hD, hS.F ht⟩) hS.2.2 dX6_unpack_100
      · refine lv_lload_n hx hb dX6_unpack_10 rfl (lv_at hl 1 rfl) ?_
        refine lv_iload_n hx hb dX6_unpack_11 rfl (lv_at hl 2 rfl) ?_
        refine pu_go (va_runS (As := [.long (lN x), .int (nI s0)]) (rest := []) ⟨hx, hb, hml, hown, hts⟩ (c_X5_wordOf l x s0 (by first | omega | assumption) (by first | omega | assumption)) (va_cwS 2 hts gX6_unpack_X5_wordOf rfl rfl rfl (by decide +kernel) ⟨Nat.le_of_ble_eq_true rfl, Nat.le_of_ble_eq_true rfl⟩) ⟨fun _ _ _ _ q => q, fun _ _ _ => ⟨rfl, trivial⟩⟩ rfl rfl hl.1 rfl (lv_room (Nat.le_of_ble_eq_true rfl)) dX6_unpack_12 ⟨Nat.le_refl _, Nat.le_refl _⟩) ?_
        refine lv_istore (lv' := [(4, .int (nI (yw x s0))), (0, .ref (ad 0)), (1, .long (lN x)), (3, .int (nI s0))]) hx hb dX6_unpack_15 hl (by decide) rfl (fun ls hl => ?_)
        refine lv_iload hx hb dX6_unpack_17 (lv_at hl 0 rfl) ?_
        refine pu_go (va_runS (As := [.int (nI (yw x s0))]) (rest := []) ⟨hx, hb, hml, hown, hts⟩ (c_X5_sizeOf l (yw x s0) (by first | omega | assumption)) (va_cwS 1 hts gX6_unpack_X5_sizeOf rfl rfl rfl (by decide +kernel) ⟨Nat.le_of_ble_eq_true rfl, Nat.le_of_ble_eq_true rfl⟩) ⟨fun _ _ _ _ q => q, fun _ _ _ => ⟨rfl, trivial⟩⟩ rfl rfl hl.1 rfl (lv_room (Nat.le_of_ble_eq_true rfl)) dX6_unpack_19 ⟨Nat.le_refl _, Nat.le_refl _⟩) ?_
        refine lv_istore (lv' := [(5, .int (nI (ysz (yw x s0)))), (4, .int (nI (yw x s0))), (0, .ref (ad 0)), (1, .long (lN x)), (3, .int (nI s0))]) hx hb dX6_unpack_22 hl (by decide) rfl (fun ls hl => ?_)
        refine lv_aload_n hx hb dX6_unpack_24 rfl (lv_at hl 2 rfl) ?_
        refine va_get (D := (dC, dI)) (ci := 5) (v := .ref (ad 2)) (C := RX6) (T := TX6) (N := 7) hx hb hts hinX6 hown hK hP 0 rfl rfl 3 (by decide) (hts (.fieldLink RX6 24 "ReshuffleSearch" "height" "[I") (by decide +kernel)) (fun _ h9 => h9) rfl dX6_unpack_25 ?_
        refine lv_iload_n hx hb dX6_unpack_28 rfl (lv_at hl 4 rfl) ?_
        refine lv_iload hx hb dX6_unpack_29 (lv_at hl 0 rfl) ?_
        refine wk_iast hx hb hK hP hD hS 2 0 rfl rfl (by omega) dX6_unpack_31 (fun H locs hP hD hS => ?_)
        have hP : va_P (dC, dI) vwCl (cW ad cI cJ n t ((ups x t GP P HT s0).1) (upN ((ups x t GP P HT s0).2) s0 (ysz (yw x s0))) RK GP sm F T M ST ln mn E) H := hP
        have hD : va_D A (cW ad cI cJ n t ((ups x t GP P HT s0).1) (upN ((ups x t GP P HT s0).2) s0 (ysz (yw x s0))) RK GP sm F T M ST ln mn E) := hD
        refine lv_iconst (v := nI 0) hx hb dX6_unpack_32 (by decide +kernel) ?_
        refine lv_istore (lv' := [(6, .int (nI 0)), (5, .int (nI (ysz (yw x s0)))), (4, .int (nI (yw x s0))), (0, .ref (ad 0)), (1, .long (lN x)), (3, .int (nI s0))]) hx hb dX6_unpack_33 hl (by decide) rfl (fun ls hl => ?_)
        have cut_35 : ∀ (n_35 : Nat) (k : Nat) (v35_1 : Int64) (v35_3 : Int32) (v35_4 : Int32) (v35_5 : Int32) (v35_6 : Int32) (ls : Array Slot) (H : Heap) (locs : List Loc) (hk : k ≤ t) (hn_35 : t - k < n_35) (_ : v35_1 = lN x) (_ : v35_3 = nI s0) (_ : v35_4 = nI (yw x s0)) (_ : v35_5 = nI (ysz (yw x s0))) (_ : v35_6 = nI k) (_ : lv_has ls 7 [(0, .ref (ad 0)), (1, .long v35_1), (3, .int v35_3), (4, .int v35_4), (5, .int v35_5), (6, .int v35_6)]) (_ : va_P (dC, dI) vwCl (cW ad cI cJ n t (upt x s0 t GP (ups x t GP P HT s0).1 k) (upN (ups x t GP P HT s0).2 s0 (ysz (yw x s0))) RK GP sm F T M ST ln mn E) H) (_ : va_D A (cW ad cI cJ n t (upt x s0 t GP (ups x t GP P HT s0).1 k) (upN (ups x t GP P HT s0).2 s0 (ysz (yw x s0))) RK GP sm F T M ST ln mn E)) (_ : va_S A s.heap H locs), W p l e (headSpec wsX6_unpack ({ frames := 2, cells := 0, slots := 0, locals := 42 })).room s m ([.ref (ad 0), .long (lN x)] : List Value).toArray below meth c H locs 0 0 (MQ below (wr_Q (dC, dI) A (fun r W1 => r = none ∧ W1 = (cW ad cI cJ n t ((ups x t GP P HT n).1) ((ups x t GP P HT n).2) RK GP sm F T M ST ln mn E))) ([.ref (ad 0), .long (lN x)] : List Value).toArray s 0 0 A) (F0 m 35 ls []) := by
          intro n_35
          induction n_35 with
          | zero => intros; omega
          | succ n_35 ih_35 =>
            rintro k v35_1 v35_3 v35_4 v35_5 v35_6 ls H locs hk hn_35 rfl rfl rfl rfl rfl hl hP hD hS
            have hq4 : k < t → s0 * t + k < 16 := fun h => by have := Nat.mul_le_mul_right t (show s0 ≤ 3 by omega); omega
            have hq5 := yr_lt (yw x s0) (ysz (yw x s0) - 1 - k)
            refine lv_iload hx hb dX6_unpack_35 (lv_at hl 5 rfl) ?_
            refine lv_aload_n hx hb dX6_unpack_37 rfl (lv_at hl 0 rfl) ?_
            refine va_get (D := (dC, dI)) (ci := 5) (v := .int (nI t)) (C := RX6) (T := TX6) (N := 7) hx hb hts hinX6 hown hK hP 0 rfl rfl 1 (by decide) (hts (.fieldLink RX6 17 "ReshuffleSearch" "tiers" "I") (by decide +kernel)) (fun _ h9 => h9) rfl dX6_unpack_38 ?_
            refine wk_icmp_ge (tgt := 94) hx hb (by omega) (by omega) dX6_unpack_41 (by decide) (fun c_41 => ?_) (fun c_41 => ?_)
            · have hkt : k = t := by omega
              refine lv_iinc (v := nI (s0 + 1)) (lv' := [(3, .int (nI (s0 + 1))), (0, .ref (ad 0)), (1, .long (lN x)), (4, .int (nI (yw x s0))), (5, .int (nI (ysz (yw x s0)))), (6, .int (nI k))]) hx hb dX6_unpack_94 hl (k := 2) rfl (wk_inc _ 1 rfl) (by decide) rfl (fun ls hl => ?_)
              refine lv_goto (tgt := 2) hx hb dX6_unpack_97 (by decide) ?_
              exact ih_2 (s0 + 1) _ _ ls _ _ (by omega) (by omega) (rfl) (rfl) (lv_sub hl [1, 2, 0] rfl) (by rw [hkt] at hP; exact hP) (by rw [hkt] at hD; exact hD) hS
            · have cut_87 : ∀ (v87_1 : Int64) (v87_3 : Int32) (v87_4 : Int32) (v87_5 : Int32) (v87_6 : Int32) (u87_0 : Int32) (u87_1 : Int32) (ls : Array Slot) (H : Heap) (locs : List Loc) (_ : v87_1 = lN x) (_ : v87_3 = nI s0) (_ : v87_4 = nI (yw x s0)) (_ : v87_5 = nI (ysz (yw x s0))) (_ : v87_6 = nI k) (_ : u87_0 = nI (if k < ysz (yw x s0) then gpc GP (yr (yw x s0) (ysz (yw x s0) - 1 - k)) else 0)) (_ : u87_1 = nI (s0 * t + k)) (_ : lv_has ls 7 [(0, .ref (ad 0)), (1, .long v87_1), (3, .int v87_3), (4, .int v87_4), (5, .int v87_5), (6, .int v87_6)]) (_ : va_P (dC, dI) vwCl (cW ad cI cJ n t (upt x s0 t GP (ups x t GP P HT s0).1 k) (upN (ups x t GP P HT s0).2 s0 (ysz (yw x s0))) RK GP sm F T M ST ln mn E) H) (_ : va_D A (cW ad cI cJ n t (upt x s0 t GP (ups x t GP P HT s0).1 k) (upN (ups x t GP P HT s0).2 s0 (ysz (yw x s0))) RK GP sm F T M ST ln mn E)) (_ : va_S A s.heap H locs), W p l e (headSpec wsX6_unpack ({ frames := 2, cells := 0, slots := 0, locals := 42 })).room s m ([.ref (ad 0), .long (lN x)] : List Value).toArray below meth c H locs 0 0 (MQ below (wr_Q (dC, dI) A (fun r W1 => r = none ∧ W1 = (cW ad cI cJ n t ((ups x t GP P HT n).1) ((ups x t GP P HT n).2) RK GP sm F T M ST ln mn E))) ([.ref (ad 0), .long (lN x)] : List Value).toArray s 0 0 A) (F0 m 87 ls [.int u87_0, .int u87_1, .ref (ad 1)]) := by
                rintro v87_1 v87_3 v87_4 v87_5 v87_6 u87_0 u87_1 ls H locs rfl rfl rfl rfl rfl rfl rfl hl hP hD hS
                refine wk_iast hx hb hK hP hD hS 1 0 rfl rfl (⟨hq4 (by omega), by omega⟩) dX6_unpack_87 (fun H locs hP hD hS => ?_)
                have hP : va_P (dC, dI) vwCl (cW ad cI cJ n t (upN (upt x s0 t GP (ups x t GP P HT s0).1 k) (s0 * t + k) (if k < ysz (yw x s0) then gpc GP (yr (yw x s0) (ysz (yw x s0) - 1 - k)) else 0)) (upN (ups x t GP P HT s0).2 s0 (ysz (yw x s0))) RK GP sm F T M ST ln mn E) H := hP
                have hD : va_D A (cW ad cI cJ n t (upN (upt x s0 t GP (ups x t GP P HT s0).1 k) (s0 * t + k) (if k < ysz (yw x s0) then gpc GP (yr (yw x s0) (ysz (yw x s0) - 1 - k)) else 0)) (upN (ups x t GP P HT s0).2 s0 (ysz (yw x s0))) RK GP sm F T M ST ln mn E) := hD
                refine lv_iinc (v := nI (k + 1)) (lv' := [(6, .int (nI (k + 1))), (0, .ref (ad 0)), (1, .long (lN x)), (3, .int (nI s0)), (4, .int (nI (yw x s0))), (5, .int (nI (ysz (yw x s0))))]) hx hb dX6_unpack_88 hl (k := 5) rfl (wk_inc _ 1 rfl) (by decide) rfl (fun ls hl => ?_)
                refine lv_goto (tgt := 35) hx hb dX6_unpack_91 (by decide) ?_
                exact ih_35 (k + 1) _ _ _ _ _ ls _ _ (by omega) (by omega) (rfl) (rfl) (rfl) (rfl) (rfl) (lv_sub hl [1, 2, 3, 4, 5, 0] rfl) (hP) (hD) hS
              refine lv_aload_n hx hb dX6_unpack_44 rfl (lv_at hl 0 rfl) ?_
              refine va_get (D := (dC, dI)) (ci := 5) (v := .ref (ad 1)) (C := RX6) (T := TX6) (N := 7) hx hb hts hinX6 hown hK hP 0 rfl rfl 2 (by decide) (hts (.fieldLink RX6 20 "ReshuffleSearch" "place" "[I") (by decide +kernel)) (fun _ h9 => h9) rfl dX6_unpack_45 ?_
              refine lv_iload_n hx hb dX6_unpack_48 rfl (lv_at hl 2 rfl) ?_
              refine lv_aload_n hx hb dX6_unpack_49 rfl (lv_at hl 0 rfl) ?_
              refine va_get (D := (dC, dI)) (ci := 5) (v := .int (nI t)) (C := RX6) (T := TX6) (N := 7) hx hb hts hinX6 hown hK hP 0 rfl rfl 1 (by decide) (hts (.fieldLink RX6 17 "ReshuffleSearch" "tiers" "I") (by decide +kernel)) (fun _ h9 => h9) rfl dX6_unpack_50 ?_
              refine wk_imul hx hb dX6_unpack_53 ?_
              refine lv_iload hx hb dX6_unpack_54 (lv_at hl 5 rfl) ?_
              refine wk_iadd hx hb dX6_unpack_56 ?_
              refine lv_iload hx hb dX6_unpack_57 (lv_at hl 5 rfl) ?_
              refine lv_iload hx hb dX6_unpack_59 (lv_at hl 4 rfl) ?_
              refine wk_icmp_ge (tgt := 86) hx hb (by omega) (by omega) dX6_unpack_61 (by decide) (fun c_61 => ?_) (fun c_61 => ?_)
              · refine lv_iconst (v := nI 0) hx hb dX6_unpack_86 (by decide +kernel) ?_
                exact cut_87 _ _ _ _ _ _ _ ls _ _ (rfl) (rfl) (rfl) (rfl) (rfl) (by rw [if_neg (by omega)]) (rfl) (lv_sub hl [0, 1, 2, 3, 4, 5] rfl) (hP) (hD) hS
              · refine lv_aload_n hx hb dX6_unpack_64 rfl (lv_at hl 0 rfl) ?_
                refine va_get (D := (dC, dI)) (ci := 5) (v := .ref (ad 3)) (C := RX6) (T := TX6) (N := 7) hx hb hts hinX6 hown hK hP 0 rfl rfl 4 (by decide) (hts (.fieldLink RX6 30 "ReshuffleSearch" "ranks" "LReshuffleSearch$Ranks;") (by decide +kernel)) (fun _ h9 => h9) rfl dX6_unpack_65 ?_
                refine lv_iload hx hb dX6_unpack_68 (lv_at hl 3 rfl) ?_
                refine lv_iload hx hb dX6_unpack_70 (lv_at hl 4 rfl) ?_
                refine lv_iconst (v := nI 1) hx hb dX6_unpack_72 (by decide +kernel) ?_
                refine wk_isub hx hb (by omega) dX6_unpack_73 ?_
                refine lv_iload hx hb dX6_unpack_74 (lv_at hl 5 rfl) ?_
                refine wk_isub hx hb (by omega) dX6_unpack_76 ?_
                refine pu_go (va_runS (As := [.int (nI (yw x s0)), .int (nI (((ysz (yw x s0)) - 1) - k))]) (rest := [.ref (ad 3), .int (nI ((s0 * t) + k)), .ref (ad 1)]) ⟨hx, hb, hml, hown, hts⟩ (c_X5_rankIn l (yw x s0) (((ysz (yw x s0)) - 1) - k) (by first | omega | assumption) (by first | omega | assumption)) (va_cwS 2 hts gX6_unpack_X5_rankIn rfl rfl rfl (by decide +kernel) ⟨Nat.le_of_ble_eq_true rfl, Nat.le_of_ble_eq_true rfl⟩) ⟨fun _ _ _ _ q => q, fun _ _ _ => ⟨rfl, trivial⟩⟩ rfl rfl hl.1 rfl (lv_room (Nat.le_of_ble_eq_true rfl)) dX6_unpack_77 ⟨Nat.le_refl _, Nat.le_refl _⟩) ?_
                refine pu_go (va_runV (As := [.int (nI (yr (yw x s0) (((ysz (yw x s0)) - 1) - k)))]) (rest := [.int (nI ((s0 * t) + k)), .ref (ad 1)]) ⟨hx, hb, hml, hown, hts⟩ (c_X1_groupOf l dC dI ad cI cJ n t (upt x s0 t GP (ups x t GP P HT s0).1 k) (upN (ups x t GP P HT s0).2 s0 (ysz (yw x s0))) RK GP sm F T M ST ln mn E (yr (yw x s0) (((ysz (yw x s0)) - 1) - k)) (by first | omega | (rw [hq]; exact hM0 _ (by omega)))) (cwV 1 hts gX6_unpack_X1_groupOf rfl rfl rfl (by decide +kernel) ⟨Nat.le_of_ble_eq_true rfl, Nat.le_of_ble_eq_true rfl⟩) ⟨rc_blind, va_recv hK hP (ci := 2) (q0 := 3) rfl rfl, fun U hU hW => ⟨rfl, by rw [hU]; exact hP, va_K.moved hW.alike hK, nst_warm hW hN⟩⟩ rfl rfl hl.1 rfl (lv_room (Nat.le_of_ble_eq_true rfl)) dX6_unpack_80 ⟨Nat.le_refl _, Nat.le_refl _⟩) ?_
                refine lv_goto (tgt := 87) hx hb dX6_unpack_83 (by decide) ?_
                exact cut_87 _ _ _ _ _ _ _ ls _ _ (rfl) (rfl) (rfl) (rfl) (rfl) (by rw [if_pos c_61]) (rfl) (lv_sub hl [0, 1, 2, 3, 4, 5] rfl) (hP) (hD) hS
        exact cut_35 (t + 1) 0 _ _ _ _ _ ls _ _ (by omega) (by omega) (rfl) (rfl) (rfl) (rfl) (rfl) (lv_sub hl [3, 4, 5, 2, 1, 0] rfl) (hP) (hD) hS
  exact cut_2 (n + 1) 0 _ _ ls _ _ (by omega) (by omega) (rfl) (rfl) (lv_sub hl [1, 2, 0] rfl) (hP) (hD) hS
set_option maxHeartbeats 4000000 in
set_option maxRecDepth 100000 in
theorem c_X6_blocked (l : Launch) (dC : Nat → ClassId) (dI : Nat → Nat → Nat) (ad : Nat → Nat) (cI cJ : ClassId) (n t : Nat) (P HT RK GP : Nat → Nat) (sm : Int32) (F T M ST : Nat → Nat) (ln mn : Int32) (E : Nat → Nat) (hn0 : 2 ≤ n ∧ n ≤ 4) (ht0 : 2 ≤ t ∧ t ≤ 4) (hP0 : ∀ j, P j < 2147483648) (hH0 : ∀ j, HT j < 1000000) (hR0 : ∀ j, RK j < 8)  (sz : Nat) : Met l yX6_blocked wsX6_blocked ({ frames := 3, cells := 0, slots := 0, locals := 72 }) (va_Pc [.ref (ad 0)] (wc_P (dC, dI) [(cI, .int), (cJ, .long)] (cW ad cI cJ n t P HT RK GP sm F T M ST ln mn E) sz)) (wr_Q (dC, dI) (va_A (cW ad cI cJ n t P HT RK GP sm F T M ST ln mn E) sz) (fun r W1 => r = some (.int (nI (ybb (pks P (lrn P RK GP).2.1 HT t n) 4))) ∧ W1 = (cW ad cI cJ n t P HT ((lrn P RK GP).2.1) ((lrn P RK GP).2.2) sm F T M ST ln mn E))) 0 0 (va_A (cW ad cI cJ n t P HT RK GP sm F T M ST ln mn E) sz) := by
  refine Met.ofW (cc := cX6_blocked) (maxL := 1) (ret := (some .int)) (by decide) rfl ?_
  intro p e s m args below meth c s₁ B hml hv
  obtain ⟨rfl, ⟨hsz, hP, hK, hD0⟩, hN⟩ := hv
  have hx := B.exec
  have hb := B.bytes
  have hr := B.returns
  have hts := atoms_spec (ws := wsX6_blocked) B.pre
  have hown : s.vm.findClass RX6 = some m.cls := findClass_of_methodNamed B.named
  have hlocks := B.notSynchronized
  subst hsz
  have hD := hD0.self (sz := s.heap.size)
  generalize hAe : va_A (cW ad cI cJ n t P HT RK GP sm F T M ST ln mn E) s.heap.size = A at hD ⊢
  have hA : ∀ q : Nat, s.heap.size ≤ q → A q := fun q h => by rw [← hAe]; exact Or.inr h
  have hS : va_S A s.heap s.heap [] := va_S.rf
  have hl := lv_entry ([.ref (ad 0)]) (n := 1) (Nat.le_of_ble_eq_true rfl)
  rw [lg_entry_eq]
  generalize (lg_sl ([.ref (ad 0)]) ++ List.replicate (1 - (lg_sl ([.ref (ad 0)])).length) Slot.unset).toArray = ls at hl ⊢
  have hl : lv_has ls 1 [(0, .ref (ad 0))] := hl
  have hq1 := pks_lt (P := P) (RK := (lrn P RK GP).2.1) (HT := HT) (t := t) n hn0.2
  refine lv_aload_n hx hb dX6_blocked_0 rfl (lv_at hl 0 rfl) ?_
  have hFc := va_free (wc := (cW ad cI cJ n t P HT RK GP sm F T M ST ln mn E)) hD hS hA [0, 1, 2, 3, 4, 5, 6, 7, 8, 9, 10, 11, 12, 13] rfl
  refine wr_go (va_runV (As := []) (rest := []) ⟨hx, hb, hml, hown, hts⟩ (c_X6_packed l dC dI ad cI cJ n t P HT RK GP sm F T M ST ln mn E hn0 ht0 hP0 hH0 hR0 s.heap.size) (cwV 0 hts gX6_blocked_X6_packed rfl rfl rfl (by decide +kernel) ⟨Nat.le_of_ble_eq_true rfl, Nat.le_of_ble_eq_true rfl⟩) ⟨wc_blind, va_recv hK hP (ci := 5) (q0 := 0) rfl rfl, fun U hU hW => ⟨rfl, ⟨by rw [hU], by rw [hU]; exact hP, va_K.moved hW.alike hK, hD.weaken (fun _ _ _ _ => trivial)⟩, nst_warm hW hN⟩⟩ rfl rfl hl.1 rfl (lv_room (Nat.le_of_ble_eq_true rfl)) dX6_blocked_1 ⟨Nat.le_refl _, Nat.le_refl _⟩) hS hFc hFc (fun r9 W9 H locs hpost hP hD9 hz9 hk9 hS => ?_)
  have hD := hD9.weaken (fun _ _ _ h => hFc _ h)
  obtain ⟨rfl, rfl⟩ := hpost
  have hP : va_P (dC, dI) vwCl (cW ad cI cJ n t P HT ((lrn P RK GP).2.1) ((lrn P RK GP).2.2) sm F T M ST ln mn E) H := hP
  have hD : va_D A (cW ad cI cJ n t P HT ((lrn P RK GP).2.1) ((lrn P RK GP).2.2) sm F T M ST ln mn E) := hD
  refine W.eq (g2 := F0 m 4 ls [.long (lN (pks P (lrn P RK GP).2.1 HT t n))]) rfl ?_
  refine pu_go (va_runS (As := [.long (lN (pks P (lrn P RK GP).2.1 HT t n))]) (rest := []) ⟨hx, hb, hml, hown, hts⟩ (c_X5_blockedBoxes l (pks P (lrn P RK GP).2.1 HT t n) (by first | omega | assumption)) (va_cwS 1 hts gX6_blocked_X5_blockedBoxes rfl rfl rfl (by decide +kernel) ⟨Nat.le_of_ble_eq_true rfl, Nat.le_of_ble_eq_true rfl⟩) ⟨fun _ _ _ _ q => q, fun _ _ _ => ⟨rfl, trivial⟩⟩ rfl rfl hl.1 rfl (lv_room (Nat.le_of_ble_eq_true rfl)) dX6_blocked_4 ⟨Nat.le_refl _, Nat.le_refl _⟩) ?_
  exact W.iret hx hb hr (fun t9 ht hW => ⟨some (.int (nI (ybb (pks P (lrn P RK GP).2.1 HT t n) 4))), (cW ad cI cJ n t P HT ((lrn P RK GP).2.1) ((lrn P RK GP).2.2) sm F T M ST ln mn E), rfl, ⟨rfl, rfl⟩, by rw [ht]; exact hP, hD, hS.F ht⟩) hS.2.2 dX6_blocked_7
set_option maxHeartbeats 4000000 in
set_option maxRecDepth 100000 in
theorem c_X6_rule (l : Launch) (dC : Nat → ClassId) (dI : Nat → Nat → Nat) (ad : Nat → Nat) (cI cJ : ClassId) (n t : Nat) (P HT RK GP : Nat → Nat) (sm : Int32) (F T M ST : Nat → Nat) (ln mn : Int32) (E : Nat → Nat) (hn0 : 2 ≤ n ∧ n ≤ 4) (ht0 : 2 ≤ t ∧ t ≤ 4) (hP0 : ∀ j, P j < 2147483648) (hH0 : ∀ j, HT j < 1000000) (hR0 : ∀ j, RK j < 8)  (sz : Nat) : Met l yX6_rule wsX6_rule ({ frames := 4, cells := 0, slots := 0, locals := 104 }) (va_Pc [.ref (ad 0)] (wc_P (dC, dI) [(cI, .int), (cJ, .long)] (cW ad cI cJ n t P HT RK GP sm F T M ST ln mn E) sz)) (wr_Q (dC, dI) (va_A (cW ad cI cJ n t P HT RK GP sm F T M ST ln mn E) sz) (fun r W1 => r = some (.int (oN (yrl n t 100 0 (yaf 6 (pks P (lrn P RK GP).2.1 HT t n))))) ∧ W1 = (cW ad cI cJ n t P HT ((lrn P RK GP).2.1) ((lrn P RK GP).2.2) sm F T M ST ln mn E))) 0 0 (va_A (cW ad cI cJ n t P HT RK GP sm F T M ST ln mn E) sz) := by
  refine Met.ofW (cc := cX6_rule) (maxL := 1) (ret := (some .int)) (by decide) rfl ?_
  intro p e s m args below meth c s₁ B hml hv
  obtain ⟨rfl, ⟨hsz, hP, hK, hD0⟩, hN⟩ := hv
  have hx := B.exec
  have hb := B.bytes
  have hr := B.returns
  have hts := atoms_spec (ws := wsX6_rule) B.pre
  have hown : s.vm.findClass RX6 = some m.cls := findClass_of_methodNamed B.named
  have hlocks := B.notSynchronized
  have hinX6 : ∀ w ∈ u_ws RX6 TX6 7, w ∈ wsX6_rule := by decide +kernel
  subst hsz
  have hD := hD0.self (sz := s.heap.size)
  generalize hAe : va_A (cW ad cI cJ n t P HT RK GP sm F T M ST ln mn E) s.heap.size = A at hD ⊢
  have hA : ∀ q : Nat, s.heap.size ≤ q → A q := fun q h => by rw [← hAe]; exact Or.inr h
  have hS : va_S A s.heap s.heap [] := va_S.rf
  have hl := lv_entry ([.ref (ad 0)]) (n := 1) (Nat.le_of_ble_eq_true rfl)
  rw [lg_entry_eq]
  generalize (lg_sl ([.ref (ad 0)]) ++ List.replicate (1 - (lg_sl ([.ref (ad 0)])).length) Slot.unset).toArray = ls at hl ⊢
  have hl : lv_has ls 1 [(0, .ref (ad 0))] := hl
  have hq1 := pks_lt (P := P) (RK := (lrn P RK GP).2.1) (HT := HT) (t := t) n hn0.2
  refine lv_aload_n hx hb dX6_rule_0 rfl (lv_at hl 0 rfl) ?_
  have hFc := va_free (wc := (cW ad cI cJ n t P HT RK GP sm F T M ST ln mn E)) hD hS hA [0, 1, 2, 3, 4, 5, 6, 7, 8, 9, 10, 11, 12, 13] rfl
  refine wr_go (va_runV (As := []) (rest := []) ⟨hx, hb, hml, hown, hts⟩ (c_X6_packed l dC dI ad cI cJ n t P HT RK GP sm F T M ST ln mn E hn0 ht0 hP0 hH0 hR0 s.heap.size) (cwV 0 hts gX6_rule_X6_packed rfl rfl rfl (by decide +kernel) ⟨Nat.le_of_ble_eq_true rfl, Nat.le_of_ble_eq_true rfl⟩) ⟨wc_blind, va_recv hK hP (ci := 5) (q0 := 0) rfl rfl, fun U hU hW => ⟨rfl, ⟨by rw [hU], by rw [hU]; exact hP, va_K.moved hW.alike hK, hD.weaken (fun _ _ _ _ => trivial)⟩, nst_warm hW hN⟩⟩ rfl rfl hl.1 rfl (lv_room (Nat.le_of_ble_eq_true rfl)) dX6_rule_1 ⟨Nat.le_refl _, Nat.le_refl _⟩) hS hFc hFc (fun r9 W9 H locs hpost hP hD9 hz9 hk9 hS => ?_)
  have hD := hD9.weaken (fun _ _ _ h => hFc _ h)
  obtain ⟨rfl, rfl⟩ := hpost
  have hP : va_P (dC, dI) vwCl (cW ad cI cJ n t P HT ((lrn P RK GP).2.1) ((lrn P RK GP).2.2) sm F T M ST ln mn E) H := hP
  have hD : va_D A (cW ad cI cJ n t P HT ((lrn P RK GP).2.1) ((lrn P RK GP).2.2) sm F T M ST ln mn E) := hD
  refine W.eq (g2 := F0 m 4 ls [.long (lN (pks P (lrn P RK GP).2.1 HT t n))]) rfl ?_
  refine lv_aload_n hx hb dX6_rule_4 rfl (lv_at hl 0 rfl) ?_
  refine va_get (D := (dC, dI)) (ci := 5) (v := .int (nI n)) (C := RX6) (T := TX6) (N := 7) hx hb hts hinX6 hown hK hP 0 rfl rfl 0 (by decide) (hts (.fieldLink RX6 13 "ReshuffleSearch" "stacks" "I") (by decide +kernel)) (fun _ h9 => h9) rfl dX6_rule_5 ?_
  refine lv_aload_n hx hb dX6_rule_8 rfl (lv_at hl 0 rfl) ?_
  refine va_get (D := (dC, dI)) (ci := 5) (v := .int (nI t)) (C := RX6) (T := TX6) (N := 7) hx hb hts hinX6 hown hK hP 0 rfl rfl 1 (by decide) (hts (.fieldLink RX6 17 "ReshuffleSearch" "tiers" "I") (by decide +kernel)) (fun _ h9 => h9) rfl dX6_rule_9 ?_
  refine pu_go (va_runS (As := [.long (lN (pks P (lrn P RK GP).2.1 HT t n)), .int (nI n), .int (nI t)]) (rest := []) ⟨hx, hb, hml, hown, hts⟩ (c_X2_moves l (pks P (lrn P RK GP).2.1 HT t n) n t (by first | omega | assumption) (by omega) (by omega)) (va_cwS 3 hts gX6_rule_X2_moves rfl rfl rfl (by decide +kernel) ⟨Nat.le_of_ble_eq_true rfl, Nat.le_of_ble_eq_true rfl⟩) ⟨fun _ _ _ _ q => q, fun _ _ _ => ⟨rfl, trivial⟩⟩ rfl rfl hl.1 rfl (lv_room (Nat.le_of_ble_eq_true rfl)) dX6_rule_12 ⟨Nat.le_refl _, Nat.le_refl _⟩) ?_
  exact W.iret hx hb hr (fun t9 ht hW => ⟨some (.int (oN (yrl n t 100 0 (yaf 6 (pks P (lrn P RK GP).2.1 HT t n))))), (cW ad cI cJ n t P HT ((lrn P RK GP).2.1) ((lrn P RK GP).2.2) sm F T M ST ln mn E), rfl, ⟨rfl, rfl⟩, by rw [ht]; exact hP, hD, hS.F ht⟩) hS.2.2 dX6_rule_15
set_option maxHeartbeats 4000000 in
set_option maxRecDepth 100000 in
theorem c_X3_settled (l : Launch) (dC : Nat → ClassId) (dI : Nat → Nat → Nat) (ad : Nat → Nat) (cI cJ : ClassId) (n t : Nat) (P HT RK GP : Nat → Nat) (sm : Int32) (F T M ST : Nat → Nat) (ln mn : Int32) (E : Nat → Nat) (m0 : Nat) (hm0 : m0 < 3) (x : Nat) (hx0 : x < 2 ^ 48)  : Met l yX3_settled wsX3_settled ({ frames := 3, cells := 0, slots := 0, locals := 71 }) (va_Pc [.ref (ad 6), .long (lN x)] (rc_P (dC, dI) [(cI, .int), (cJ, .long)] (cW ad cI cJ n t P HT RK GP (nI m0) F T M ST ln mn E))) (pu_Q (.long (lN (if m0 = 2 then x else yaf 6 x)))) 0 0 (fun _ => False) := by
  refine Met.ofW (cc := cX3_settled) (maxL := 3) (ret := (some .long)) (by decide) rfl ?_
  intro p e s m args below meth c s₁ B hml hv
  obtain ⟨rfl, hP, hK, hN⟩ := hv
  have hx := B.exec
  have hb := B.bytes
  have hr := B.returns
  have hts := atoms_spec (ws := wsX3_settled) B.pre
  have hown : s.vm.findClass RX3 = some m.cls := findClass_of_methodNamed B.named
  have hlocks := B.notSynchronized
  have hinX3 : ∀ w ∈ u_ws RX3 TX3 5, w ∈ wsX3_settled := by decide +kernel
  have hl := lv_entry ([.ref (ad 6), .long (lN x)]) (n := 3) (Nat.le_of_ble_eq_true rfl)
  rw [lg_entry_eq]
  generalize (lg_sl ([.ref (ad 6), .long (lN x)]) ++ List.replicate (3 - (lg_sl ([.ref (ad 6), .long (lN x)])).length) Slot.unset).toArray = ls at hl ⊢
  have hl : lv_has ls 3 [(0, .ref (ad 6)), (1, .long (lN x))] := hl
  refine lv_aload_n hx hb dX3_settled_0 rfl (lv_at hl 0 rfl) ?_
  refine va_get (D := (dC, dI)) (ci := 3) (v := .int (nI m0)) (C := RX3) (T := TX3) (N := 5) hx hb hts hinX3 hown hK hP 6 rfl rfl 4 (by decide) (hts (.fieldLink RX3 25 "ReshuffleSearch$Search" "manner" "I") (by decide +kernel)) (fun _ h9 => h9) rfl dX3_settled_1 ?_
  refine lv_iconst (v := nI 2) hx hb dX3_settled_4 (by decide +kernel) ?_
  refine wk_icmp_ne (tgt := 12) hx hb (by omega) (by omega) dX3_settled_5 (by decide) (fun c_5 => ?_) (fun c_5 => ?_)
  · refine lv_lload_n hx hb dX3_settled_12 rfl (lv_at hl 1 rfl) ?_
    refine pu_go (va_runS (As := [.long (lN x)]) (rest := []) ⟨hx, hb, hml, hown, hts⟩ (c_X5_afterLeaving l x (by first | omega | assumption)) (va_cwS 1 hts gX3_settled_X5_afterLeaving rfl rfl rfl (by decide +kernel) ⟨Nat.le_of_ble_eq_true rfl, Nat.le_of_ble_eq_true rfl⟩) ⟨fun _ _ _ _ q => q, fun _ _ _ => ⟨rfl, trivial⟩⟩ rfl rfl hl.1 rfl (lv_room (Nat.le_of_ble_eq_true rfl)) dX3_settled_13 ⟨Nat.le_refl _, Nat.le_refl _⟩) ?_
    refine wk_tl (v' := lN (if m0 = 2 then x else yaf 6 x)) (by rw [if_neg c_5]) ?_
    exact W.lret hx hb hr (fun t9 ht _ => ⟨rfl, ht⟩) (fun _ h => nomatch h) dX3_settled_16
  · refine lv_lload_n hx hb dX3_settled_8 rfl (lv_at hl 1 rfl) ?_
    refine lv_goto (tgt := 16) hx hb dX3_settled_9 (by decide) ?_
    refine wk_tl (v' := lN (if m0 = 2 then x else yaf 6 x)) (by rw [if_pos c_5]) ?_
    exact W.lret hx hb hr (fun t9 ht _ => ⟨rfl, ht⟩) (fun _ h => nomatch h) dX3_settled_16
set_option maxHeartbeats 4000000 in
set_option maxRecDepth 100000 in
theorem c_X3_isOpenFrom (l : Launch) (dC : Nat → ClassId) (dI : Nat → Nat → Nat) (ad : Nat → Nat) (cI cJ : ClassId) (n t : Nat) (P HT RK GP : Nat → Nat) (sm : Int32) (F T M ST : Nat → Nat) (ln mn : Int32) (E : Nat → Nat) (m0 : Nat) (hm0 : m0 < 3) (w g : Nat) (hw0 : w < 4096) (hg0 : g < 8)  : Met l yX3_isOpenFrom wsX3_isOpenFrom ({ frames := 2, cells := 0, slots := 0, locals := 44 }) (va_Pc [.ref (ad 6), .int (nI w), .int (nI g)] (rc_P (dC, dI) [(cI, .int), (cJ, .long)] (cW ad cI cJ n t P HT RK GP (nI m0) F T M ST ln mn E))) (pu_Q (.int (nI (bn (w ≠ 0 ∧ (m0 ≠ 0 ∨ ylo w 4 = g)))))) 0 0 (fun _ => False) := by
  refine Met.ofW (cc := cX3_isOpenFrom) (maxL := 3) (ret := (some .boolean)) (by decide) rfl ?_
  intro p e s m args below meth c s₁ B hml hv
  obtain ⟨rfl, hP, hK, hN⟩ := hv
  have hx := B.exec
  have hb := B.bytes
  have hr := B.returns
  have hts := atoms_spec (ws := wsX3_isOpenFrom) B.pre
  have hown : s.vm.findClass RX3 = some m.cls := findClass_of_methodNamed B.named
  have hlocks := B.notSynchronized
  have hinX3 : ∀ w ∈ u_ws RX3 TX3 5, w ∈ wsX3_isOpenFrom := by decide +kernel
  have hl := lv_entry ([.ref (ad 6), .int (nI w), .int (nI g)]) (n := 3) (Nat.le_of_ble_eq_true rfl)
  rw [lg_entry_eq]
  generalize (lg_sl ([.ref (ad 6), .int (nI w), .int (nI g)]) ++ List.replicate (3 - (lg_sl ([.ref (ad 6), .int (nI w), .int (nI g)])).length) Slot.unset).toArray = ls at hl ⊢
  have hl : lv_has ls 3 [(0, .ref (ad 6)), (1, .int (nI w)), (2, .int (nI g))] := hl
  have hq := ylo_lt w 4
  refine lv_iload_n hx hb dX3_isOpenFrom_0 rfl (lv_at hl 1 rfl) ?_
  refine wk_if_eq (tgt := 23) hx hb (by omega) dX3_isOpenFrom_1 (by decide) (fun c_1 => ?_) (fun c_1 => ?_)
  · refine lv_iconst (v := nI 0) hx hb dX3_isOpenFrom_23 (by decide +kernel) ?_
    refine wk_ti (v' := nI (bn (w ≠ 0 ∧ (m0 ≠ 0 ∨ ylo w 4 = g)))) (by rw [bn_f (fun q => q.1 c_1)]) ?_
    exact W.zret hx hb hr (bn_nar _) (fun t9 ht _ => ⟨rfl, ht⟩) (fun _ h => nomatch h) dX3_isOpenFrom_24
  · refine lv_aload_n hx hb dX3_isOpenFrom_4 rfl (lv_at hl 0 rfl) ?_
    refine va_get (D := (dC, dI)) (ci := 3) (v := .int (nI m0)) (C := RX3) (T := TX3) (N := 5) hx hb hts hinX3 hown hK hP 6 rfl rfl 4 (by decide) (hts (.fieldLink RX3 25 "ReshuffleSearch$Search" "manner" "I") (by decide +kernel)) (fun _ h9 => h9) rfl dX3_isOpenFrom_5 ?_
    refine wk_if_ne (tgt := 19) hx hb (by omega) dX3_isOpenFrom_8 (by decide) (fun c_8 => ?_) (fun c_8 => ?_)
    · refine lv_iconst (v := nI 1) hx hb dX3_isOpenFrom_19 (by decide +kernel) ?_
      refine lv_goto (tgt := 24) hx hb dX3_isOpenFrom_20 (by decide) ?_
      refine wk_ti (v' := nI (bn (w ≠ 0 ∧ (m0 ≠ 0 ∨ ylo w 4 = g)))) (by rw [bn_t ⟨c_1, Or.inl c_8⟩]) ?_
      exact W.zret hx hb hr (bn_nar _) (fun t9 ht _ => ⟨rfl, ht⟩) (fun _ h => nomatch h) dX3_isOpenFrom_24
    · refine lv_iload_n hx hb dX3_isOpenFrom_11 rfl (lv_at hl 1 rfl) ?_
      refine pu_go (va_runS (As := [.int (nI w)]) (rest := []) ⟨hx, hb, hml, hown, hts⟩ (c_X5_leastRank l w (by first | omega | assumption)) (va_cwS 1 hts gX3_isOpenFrom_X5_leastRank rfl rfl rfl (by decide +kernel) ⟨Nat.le_of_ble_eq_true rfl, Nat.le_of_ble_eq_true rfl⟩) ⟨fun _ _ _ _ q => q, fun _ _ _ => ⟨rfl, trivial⟩⟩ rfl rfl hl.1 rfl (lv_room (Nat.le_of_ble_eq_true rfl)) dX3_isOpenFrom_12 ⟨Nat.le_refl _, Nat.le_refl _⟩) ?_
      refine lv_iload_n hx hb dX3_isOpenFrom_15 rfl (lv_at hl 2 rfl) ?_
      refine wk_icmp_ne (tgt := 23) hx hb (by omega) (by omega) dX3_isOpenFrom_16 (by decide) (fun c_16 => ?_) (fun c_16 => ?_)
      · refine lv_iconst (v := nI 0) hx hb dX3_isOpenFrom_23 (by decide +kernel) ?_
        refine wk_ti (v' := nI (bn (w ≠ 0 ∧ (m0 ≠ 0 ∨ ylo w 4 = g)))) (by rw [bn_f (fun q => q.2.elim (fun z => z c_8) c_16)]) ?_
        exact W.zret hx hb hr (bn_nar _) (fun t9 ht _ => ⟨rfl, ht⟩) (fun _ h => nomatch h) dX3_isOpenFrom_24
      · refine lv_iconst (v := nI 1) hx hb dX3_isOpenFrom_19 (by decide +kernel) ?_
        refine lv_goto (tgt := 24) hx hb dX3_isOpenFrom_20 (by decide) ?_
        refine wk_ti (v' := nI (bn (w ≠ 0 ∧ (m0 ≠ 0 ∨ ylo w 4 = g)))) (by rw [bn_t ⟨c_1, Or.inr c_16⟩]) ?_
        exact W.zret hx hb hr (bn_nar _) (fun t9 ht _ => ⟨rfl, ht⟩) (fun _ h => nomatch h) dX3_isOpenFrom_24
