theorem top_eq {n t : Nat} {Z : Nat → List Nat} (h : okY n t Z) (ht : t ≤ 4) {s : Nat} (hs : s < 4) (hne : Z s ≠ []) : yr (mE Z) (4 * s + (mht (mE Z) s t - 1)) = (Z s).headD 0 := by
  rw [mht_mE h ht hs]
  cases hZ : Z s with
  | nil => exact absurd hZ hne
  | cons a l =>
    have := mtop_mE h ht hs hZ
    rw [hZ] at this
    exact this
theorem ite_t {c : Prop} [Decidable c] {a b x : Nat} (h : c) (e : (if c then a else b) = x) : a = x := by rw [if_pos h] at e; exact e
theorem ite_f {c : Prop} [Decidable c] {a b x : Nat} (h : ¬ c) (e : (if c then a else b) = x) : b = x := by rw [if_neg h] at e; exact e
theorem chd_mE2 {man n t : Nat} (hn : n ≤ 4) (ht : t ≤ 4) {Y : Nat → List Nat} (h : okY n t Y) {m : Nat} (hm : mayb man n t Y (m / 4) (m % 4) = true) : (if man = 2 then mmv (mE Y) (m / 4) (m % 4) t else mleft n t (mmv (mE Y) (m / 4) (m % 4) t)) = mE (chd man n t Y m) := by
  have := chd_mE hn ht h hm
  rwa [show 4 * (m / 4) + m % 4 = m by omega] at this
theorem done_iff {man n t : Nat} {Z : Nat → List Nat} (h : okY n t Z) (ht : t ≤ 4) (hn : man ≠ 2 → nf Z) : (if man = 2 then mbs (mE Z) 16 = 0 else mE Z = 0) ↔ blk Z = 0 := by
  by_cases c : man = 2
  · rw [if_pos c, mbs_mE h ht]
  · rw [if_neg c, mE_0 h ht]
    exact ⟨fun q => blk_nil q, fun q => nf_empty' h (hn c) q⟩
set_option maxHeartbeats 16000000 in
set_option maxRecDepth 100000 in
theorem c_X7_search (l : Launch) (dC : Nat → ClassId) (dI : Nat → Nat → Nat) (ad : Nat → Nat) (cI cJ cB : ClassId) (th n t kp ma my rk : Nat) (G F T M WG GO Y V AT NX : Nat → Nat) (hn0 : 2 ≤ n ∧ n ≤ 4) (ht0 : 2 ≤ t ∧ t ≤ 4) (m0 lm : Nat) (hm0 : m0 < 3) (hlm : lm ≤ 30) (bs : List Nat) (hbs : bs.Pairwise (fun a b => a ≤ b)) (hbl : bs.length ≤ 6) (Rt : Nat → List Nat) (hR1 : okY n t Rt) (hR2 : cb bs Rt) (hR3 : m0 ≠ 2 → nf Rt) (hR4 : AT 0 = mE Rt) (hTI : tI m0 n t bs V Y) (hFT : ∀ j, F j < 4 ∧ T j < 4)  (sz : Nat) : Met l yX7_search wsX7_search ({ frames := 4, cells := 0, slots := 0, locals := 96 }) (va_Pc [.ref (ad 0), .int (nI m0), .int (nI lm)] (wr_P (dC, dI) [(cI, .int), (cJ, .long), (cB, .byte)] (mW ad cI cJ cB th n t kp ma my rk G F T M WG GO Y V AT NX) sz)) (wr_Q (dC, dI) (va_A (mW ad cI cJ cB th n t kp ma my rk G F T M WG GO Y V AT NX) sz) (fun r W1 => ∃ F1 T1 M1 Y1 V1 AT1 NX1 my1, W1 = (mW ad cI cJ cB th n t kp ma my1 rk G F1 T1 M1 WG GO Y1 V1 AT1 NX1) ∧ tI m0 n t bs V1 Y1 ∧ AT1 0 = mE Rt ∧ (∀ j, F1 j < 4 ∧ T1 j < 4) ∧ ((r = some (.int (nI 0)) ∧ way m0 n t lm Rt = none ∧ my1 = my) ∨ (r = some (.int (nI 1)) ∧ ∃ w, way m0 n t lm Rt = some w ∧ my1 = w.length ∧ wsg m0 n t GO F1 T1 M1 0 w Rt)))) 0 0 (va_A (mW ad cI cJ cB th n t kp ma my rk G F T M WG GO Y V AT NX) sz) := by
  refine Met.ofW (cc := cX7_search) (maxL := 11) (ret := (some .boolean)) (by decide) rfl ?_
  intro p e s m args below meth c s₁ B hml hv
  obtain ⟨rfl, hsz, hP, hK, hD0⟩ := hv
  have hx := B.exec
  have hb := B.bytes
  have hr := B.returns
  have hts := atoms_spec (ws := wsX7_search) B.pre
  have hown : s.vm.findClass RX7 = some m.cls := findClass_of_methodNamed B.named
  have hlocks := B.notSynchronized
  have hinX7 : ∀ w ∈ u_ws RX7 TX7 17, w ∈ wsX7_search := by decide +kernel
  subst hsz
  have hD := hD0.self (sz := s.heap.size)
  generalize hAe : va_A (mW ad cI cJ cB th n t kp ma my rk G F T M WG GO Y V AT NX) s.heap.size = A at hD ⊢
  have hA : ∀ q : Nat, s.heap.size ≤ q → A q := fun q h => by rw [← hAe]; exact Or.inr h
  have hS : va_S A s.heap s.heap [] := va_S.rf
  have hl := lv_entry ([.ref (ad 0), .int (nI m0), .int (nI lm)]) (n := 11) (Nat.le_of_ble_eq_true rfl)
  rw [lg_entry_eq]
  generalize (lg_sl ([.ref (ad 0), .int (nI m0), .int (nI lm)]) ++ List.replicate (11 - (lg_sl ([.ref (ad 0), .int (nI m0), .int (nI lm)])).length) Slot.unset).toArray = ls at hl ⊢
  have hl : lv_has ls 11 [(0, .ref (ad 0)), (1, .int (nI m0)), (2, .int (nI lm))] := hl
  refine lv_iconst (v := nI 0) hx hb dX7_search_0 (by decide +kernel) ?_
  refine lv_istore_n (lv' := [(3, .int (nI 0)), (0, .ref (ad 0)), (1, .int (nI m0)), (2, .int (nI lm))]) hx hb dX7_search_1 rfl hl (by decide) rfl (fun ls hl => ?_)
  refine lv_aload_n hx hb dX7_search_2 rfl (lv_at hl 1 rfl) ?_
  refine va_get (D := (dC, dI)) (ci := 6) (v := .ref (ad 16)) (C := RX7) (T := TX7) (N := 17) hx hb hts hinX7 hown hK hP 0 rfl rfl 16 (by decide) (hts (.fieldLink RX7 40 "ReshuffleSearchModel" "next" "[I") (by decide +kernel)) (fun _ h9 => h9) rfl dX7_search_3 ?_
  refine lv_iconst (v := nI 0) hx hb dX7_search_6 (by decide +kernel) ?_
  refine lv_iconst (v := nI 0) hx hb dX7_search_7 (by decide +kernel) ?_
  refine wk_iast hx hb hK hP hD hS 10 0 rfl rfl (by omega) dX7_search_8 (fun H locs hP hD hS => ?_)
  have hP : va_P (dC, dI) vwCl (mW ad cI cJ cB th n t kp ma my rk G F T M WG GO Y V AT (upN NX 0 0)) H := hP
  have hD : va_D A (mW ad cI cJ cB th n t kp ma my rk G F T M WG GO Y V AT (upN NX 0 0)) := hD
  have cut_9 : ∀ (n_9 : Nat) (k : Nat) (Zs : Nat → Nat → List Nat) (AT1 : Nat → Nat) (NX1 : Nat → Nat) (F1 : Nat → Nat) (T1 : Nat → Nat) (M1 : Nat → Nat) (Y1 : Nat → Nat) (V1 : Nat → Nat) (v9_1 : Int32) (v9_2 : Int32) (v9_3 : Int32) (ls : Array Slot) (H : Heap) (locs : List Loc) (hdI : dfI m0 n t lm bs GO Rt Zs AT1 NX1 F1 T1 M1 k) (hTI1 : tI m0 n t bs V1 Y1) (hA0 : AT1 0 = mE Rt) (hFT1 : ∀ j, F1 j < 4 ∧ T1 j < 4) (hn_9 : mu NX1 k < n_9) (_ : v9_1 = nI m0) (_ : v9_2 = nI lm) (_ : v9_3 = nI k - nI 1) (_ : lv_has ls 11 [(0, .ref (ad 0)), (1, .int v9_1), (2, .int v9_2), (3, .int v9_3)]) (_ : va_P (dC, dI) vwCl (mW ad cI cJ cB th n t kp ma my rk G F1 T1 M1 WG GO Y1 V1 AT1 NX1) H) (_ : va_D A (mW ad cI cJ cB th n t kp ma my rk G F1 T1 M1 WG GO Y1 V1 AT1 NX1)) (_ : va_S A s.heap H locs), W p l e (headSpec wsX7_search ({ frames := 4, cells := 0, slots := 0, locals := 96 })).room s m ([.ref (ad 0), .int (nI m0), .int (nI lm)] : List Value).toArray below meth c H locs 0 0 (MQ below (wr_Q (dC, dI) A (fun r W1 => ∃ F1 T1 M1 Y1 V1 AT1 NX1 my1, W1 = (mW ad cI cJ cB th n t kp ma my1 rk G F1 T1 M1 WG GO Y1 V1 AT1 NX1) ∧ tI m0 n t bs V1 Y1 ∧ AT1 0 = mE Rt ∧ (∀ j, F1 j < 4 ∧ T1 j < 4) ∧ ((r = some (.int (nI 0)) ∧ way m0 n t lm Rt = none ∧ my1 = my) ∨ (r = some (.int (nI 1)) ∧ ∃ w, way m0 n t lm Rt = some w ∧ my1 = w.length ∧ wsg m0 n t GO F1 T1 M1 0 w Rt)))) ([.ref (ad 0), .int (nI m0), .int (nI lm)] : List Value).toArray s 0 0 A) (F0 m 9 ls []) := by
    intro n_9
    induction n_9 with
    | zero => intros; omega
    | succ n_9 ih_9 =>
      rintro k Zs AT1 NX1 F1 T1 M1 Y1 V1 v9_1 v9_2 v9_3 ls H locs hdI hTI1 hA0 hFT1 hn_9 rfl rfl rfl hl hP hD hS
      refine lv_iload_n hx hb dX7_search_9 rfl (lv_at hl 3 rfl) ?_
      refine lv_if_lt (tgt := 311) hx hb dX7_search_10 (by decide) (fun c_10 => ?_) (fun c_10 => ?_)
      · have hk0 := (wk_m1lt (k := k) (by have := hdI.2.2.2.2.2; omega)).mp c_10
        rw [hk0] at hdI
        refine lv_iconst (v := nI 0) hx hb dX7_search_311 (by decide +kernel) ?_
        exact W.zret hx hb hr (by decide +kernel) (fun t9 ht hW => ⟨some (.int (nI 0)), (mW ad cI cJ cB th n t kp ma my rk G F1 T1 M1 WG GO Y1 V1 AT1 NX1), rfl, ⟨F1, T1, M1, Y1, V1, AT1, NX1, my, rfl, hTI1, hA0, hFT1, Or.inl ⟨rfl, hdI.2.2.2.2.1 rfl, rfl⟩⟩, by rw [ht]; exact hP, hD, hS.F ht⟩) hS.2.2 dX7_search_312
      · obtain ⟨d, rfl⟩ : ∃ d, k = d + 1 := ⟨k - 1, by have : k ≠ 0 := fun q => c_10 ((wk_m1lt (k := k) (by have := hdI.2.2.2.2.2; omega)).mpr q); omega⟩
        have hnd := hdI.2.1 d (Nat.lt_succ_self d)
        have hzx := mE_lt hnd.1 ht0.2
        have htop := hdI.2.2.2.1 d rfl
        have hdl : d ≤ lm := by have := hdI.2.2.2.2.2; omega
        have hnx := hnd.2.2.2.2
        have hl : lv_has ls 11 [(0, .ref (ad 0)), (1, .int (nI m0)), (2, .int (nI lm)), (3, .int (nI d))] := by rw [show nI (d + 1) - nI 1 = nI d from pk_sub (by omega)] at hl; exact hl
        refine lv_aload_n hx hb dX7_search_13 rfl (lv_at hl 0 rfl) ?_
        refine va_get (D := (dC, dI)) (ci := 6) (v := .ref (ad 15)) (C := RX7) (T := TX7) (N := 17) hx hb hts hinX7 hown hK hP 0 rfl rfl 15 (by decide) (hts (.fieldLink RX7 37 "ReshuffleSearchModel" "at" "[J") (by decide +kernel)) (fun _ h9 => h9) rfl dX7_search_14 ?_
        refine lv_iload_n hx hb dX7_search_17 rfl (lv_at hl 3 rfl) ?_
        refine wk_lald hx hb hK hP 9 1 rfl rfl (by omega) dX7_search_18 ?_
        refine wk_tl (v' := lN (mE (Zs d))) (congrArg lN hnd.2.2.2.1) ?_
        refine lv_lstore (lv' := [(4, .long (lN (mE (Zs d)))), (0, .ref (ad 0)), (1, .int (nI m0)), (2, .int (nI lm)), (3, .int (nI d))]) hx hb dX7_search_19 hl (by decide) rfl (fun ls hl => ?_)
        refine lv_iload_n hx hb dX7_search_21 rfl (lv_at hl 3 rfl) ?_
        refine lv_iload_n hx hb dX7_search_22 rfl (lv_at hl 4 rfl) ?_
        refine wk_isub hx hb (hdl) dX7_search_23 ?_
        refine lv_istore (lv' := [(6, .int (nI (lm - d))), (4, .long (lN (mE (Zs d)))), (0, .ref (ad 0)), (1, .int (nI m0)), (2, .int (nI lm)), (3, .int (nI d))]) hx hb dX7_search_24 hl (by decide) rfl (fun ls hl => ?_)
        have cut_52 : ∀ (v52_1 : Int32) (v52_2 : Int32) (v52_3 : Int32) (v52_4 : Int64) (v52_6 : Int32) (ls : Array Slot) (H : Heap) (locs : List Loc) (hbk : blk (Zs d) ≠ 0) (_ : v52_1 = nI m0) (_ : v52_2 = nI lm) (_ : v52_3 = nI d) (_ : v52_4 = lN (mE (Zs d))) (_ : v52_6 = nI (lm - d)) (_ : lv_has ls 11 [(0, .ref (ad 0)), (1, .int v52_1), (2, .int v52_2), (3, .int v52_3), (4, .long v52_4), (6, .int v52_6)]) (_ : va_P (dC, dI) vwCl (mW ad cI cJ cB th n t kp ma my rk G F1 T1 M1 WG GO Y1 V1 AT1 NX1) H) (_ : va_D A (mW ad cI cJ cB th n t kp ma my rk G F1 T1 M1 WG GO Y1 V1 AT1 NX1)) (_ : va_S A s.heap H locs), W p l e (headSpec wsX7_search ({ frames := 4, cells := 0, slots := 0, locals := 96 })).room s m ([.ref (ad 0), .int (nI m0), .int (nI lm)] : List Value).toArray below meth c H locs 0 0 (MQ below (wr_Q (dC, dI) A (fun r W1 => ∃ F1 T1 M1 Y1 V1 AT1 NX1 my1, W1 = (mW ad cI cJ cB th n t kp ma my1 rk G F1 T1 M1 WG GO Y1 V1 AT1 NX1) ∧ tI m0 n t bs V1 Y1 ∧ AT1 0 = mE Rt ∧ (∀ j, F1 j < 4 ∧ T1 j < 4) ∧ ((r = some (.int (nI 0)) ∧ way m0 n t lm Rt = none ∧ my1 = my) ∨ (r = some (.int (nI 1)) ∧ ∃ w, way m0 n t lm Rt = some w ∧ my1 = w.length ∧ wsg m0 n t GO F1 T1 M1 0 w Rt)))) ([.ref (ad 0), .int (nI m0), .int (nI lm)] : List Value).toArray s 0 0 A) (F0 m 52 ls []) := by
          rintro v52_1 v52_2 v52_3 v52_4 v52_6 ls H locs hbk rfl rfl rfl rfl rfl hl hP hD hS
          have cut_87 : ∀ (is9 : Nat) (v87_1 : Int32) (v87_2 : Int32) (v87_3 : Int32) (v87_4 : Int64) (v87_6 : Int32) (u87_0 : Int32) (ls : Array Slot) (H : Heap) (locs : List Loc) (hi1 : is9 < 2) (hi2 : is9 = 1 → d < lm) (hi3 : is9 = 0 → way m0 n t (lm - d) (Zs d) = none) (_ : v87_1 = nI m0) (_ : v87_2 = nI lm) (_ : v87_3 = nI d) (_ : v87_4 = lN (mE (Zs d))) (_ : v87_6 = nI (lm - d)) (_ : u87_0 = nI is9) (_ : lv_has ls 11 [(0, .ref (ad 0)), (1, .int v87_1), (2, .int v87_2), (3, .int v87_3), (4, .long v87_4), (6, .int v87_6)]) (_ : va_P (dC, dI) vwCl (mW ad cI cJ cB th n t kp ma my rk G F1 T1 M1 WG GO Y1 V1 AT1 NX1) H) (_ : va_D A (mW ad cI cJ cB th n t kp ma my rk G F1 T1 M1 WG GO Y1 V1 AT1 NX1)) (_ : va_S A s.heap H locs), W p l e (headSpec wsX7_search ({ frames := 4, cells := 0, slots := 0, locals := 96 })).room s m ([.ref (ad 0), .int (nI m0), .int (nI lm)] : List Value).toArray below meth c H locs 0 0 (MQ below (wr_Q (dC, dI) A (fun r W1 => ∃ F1 T1 M1 Y1 V1 AT1 NX1 my1, W1 = (mW ad cI cJ cB th n t kp ma my1 rk G F1 T1 M1 WG GO Y1 V1 AT1 NX1) ∧ tI m0 n t bs V1 Y1 ∧ AT1 0 = mE Rt ∧ (∀ j, F1 j < 4 ∧ T1 j < 4) ∧ ((r = some (.int (nI 0)) ∧ way m0 n t lm Rt = none ∧ my1 = my) ∨ (r = some (.int (nI 1)) ∧ ∃ w, way m0 n t lm Rt = some w ∧ my1 = w.length ∧ wsg m0 n t GO F1 T1 M1 0 w Rt)))) ([.ref (ad 0), .int (nI m0), .int (nI lm)] : List Value).toArray s 0 0 A) (F0 m 87 ls [.int u87_0]) := by
            rintro is9 v87_1 v87_2 v87_3 v87_4 v87_6 u87_0 ls H locs hi1 hi2 hi3 rfl rfl rfl rfl rfl rfl hl hP hD hS
            refine lv_istore (lv' := [(7, .int (nI is9)), (0, .ref (ad 0)), (1, .int (nI m0)), (2, .int (nI lm)), (3, .int (nI d)), (4, .long (lN (mE (Zs d)))), (6, .int (nI (lm - d)))]) hx hb dX7_search_87 hl (by decide) rfl (fun ls hl => ?_)
            refine lv_aload_n hx hb dX7_search_89 rfl (lv_at hl 1 rfl) ?_
            refine va_get (D := (dC, dI)) (ci := 6) (v := .ref (ad 16)) (C := RX7) (T := TX7) (N := 17) hx hb hts hinX7 hown hK hP 0 rfl rfl 16 (by decide) (hts (.fieldLink RX7 40 "ReshuffleSearchModel" "next" "[I") (by decide +kernel)) (fun _ h9 => h9) rfl dX7_search_90 ?_
            refine lv_iload_n hx hb dX7_search_93 rfl (lv_at hl 4 rfl) ?_
            refine wk_iald hx hb hK hP 10 0 rfl rfl (by omega) dX7_search_94 ?_
            refine lv_istore (lv' := [(8, .int (nI (NX1 d))), (7, .int (nI is9)), (0, .ref (ad 0)), (1, .int (nI m0)), (2, .int (nI lm)), (3, .int (nI d)), (4, .long (lN (mE (Zs d)))), (6, .int (nI (lm - d)))]) hx hb dX7_search_95 hl (by decide) rfl (fun ls hl => ?_)
            have cut_133 : ∀ (m9 : Nat) (v133_1 : Int32) (v133_2 : Int32) (v133_3 : Int32) (v133_4 : Int64) (v133_6 : Int32) (v133_7 : Int32) (v133_8 : Int32) (ls : Array Slot) (H : Heap) (locs : List Loc) (hXX : is9 = 1 → d < lm ∧ NX1 d ≤ m9 ∧ m9 ≤ 16 ∧ flt m0 n t (lm - d - 1) (Zs d) m9 ∧ (m9 < 16 → mayb m0 n t (Zs d) (m9 / 4) (m9 % 4) = true)) (hx16 : m9 ≤ 16) (_ : v133_1 = nI m0) (_ : v133_2 = nI lm) (_ : v133_3 = nI d) (_ : v133_4 = lN (mE (Zs d))) (_ : v133_6 = nI (lm - d)) (_ : v133_7 = nI is9) (_ : v133_8 = nI m9) (_ : lv_has ls 11 [(0, .ref (ad 0)), (1, .int v133_1), (2, .int v133_2), (3, .int v133_3), (4, .long v133_4), (6, .int v133_6), (7, .int v133_7), (8, .int v133_8)]) (_ : va_P (dC, dI) vwCl (mW ad cI cJ cB th n t kp ma my rk G F1 T1 M1 WG GO Y1 V1 AT1 NX1) H) (_ : va_D A (mW ad cI cJ cB th n t kp ma my rk G F1 T1 M1 WG GO Y1 V1 AT1 NX1)) (_ : va_S A s.heap H locs), W p l e (headSpec wsX7_search ({ frames := 4, cells := 0, slots := 0, locals := 96 })).room s m ([.ref (ad 0), .int (nI m0), .int (nI lm)] : List Value).toArray below meth c H locs 0 0 (MQ below (wr_Q (dC, dI) A (fun r W1 => ∃ F1 T1 M1 Y1 V1 AT1 NX1 my1, W1 = (mW ad cI cJ cB th n t kp ma my1 rk G F1 T1 M1 WG GO Y1 V1 AT1 NX1) ∧ tI m0 n t bs V1 Y1 ∧ AT1 0 = mE Rt ∧ (∀ j, F1 j < 4 ∧ T1 j < 4) ∧ ((r = some (.int (nI 0)) ∧ way m0 n t lm Rt = none ∧ my1 = my) ∨ (r = some (.int (nI 1)) ∧ ∃ w, way m0 n t lm Rt = some w ∧ my1 = w.length ∧ wsg m0 n t GO F1 T1 M1 0 w Rt)))) ([.ref (ad 0), .int (nI m0), .int (nI lm)] : List Value).toArray s 0 0 A) (F0 m 133 ls []) := by
              rintro m9 v133_1 v133_2 v133_3 v133_4 v133_6 v133_7 v133_8 ls H locs hXX hx16 rfl rfl rfl rfl rfl rfl rfl hl hP hD hS
              have cut_262 : ∀ (v262_1 : Int32) (v262_2 : Int32) (v262_3 : Int32) (v262_4 : Int64) (v262_6 : Int32) (ls : Array Slot) (H : Heap) (locs : List Loc) (hno : way m0 n t (lm - d) (Zs d) = none) (_ : v262_1 = nI m0) (_ : v262_2 = nI lm) (_ : v262_3 = nI d) (_ : v262_4 = lN (mE (Zs d))) (_ : v262_6 = nI (lm - d)) (_ : lv_has ls 11 [(0, .ref (ad 0)), (1, .int v262_1), (2, .int v262_2), (3, .int v262_3), (4, .long v262_4), (6, .int v262_6)]) (_ : va_P (dC, dI) vwCl (mW ad cI cJ cB th n t kp ma my rk G F1 T1 M1 WG GO Y1 V1 AT1 NX1) H) (_ : va_D A (mW ad cI cJ cB th n t kp ma my rk G F1 T1 M1 WG GO Y1 V1 AT1 NX1)) (_ : va_S A s.heap H locs), W p l e (headSpec wsX7_search ({ frames := 4, cells := 0, slots := 0, locals := 96 })).room s m ([.ref (ad 0), .int (nI m0), .int (nI lm)] : List Value).toArray below meth c H locs 0 0 (MQ below (wr_Q (dC, dI) A (fun r W1 => ∃ F1 T1 M1 Y1 V1 AT1 NX1 my1, W1 = (mW ad cI cJ cB th n t kp ma my1 rk G F1 T1 M1 WG GO Y1 V1 AT1 NX1) ∧ tI m0 n t bs V1 Y1 ∧ AT1 0 = mE Rt ∧ (∀ j, F1 j < 4 ∧ T1 j < 4) ∧ ((r = some (.int (nI 0)) ∧ way m0 n t lm Rt = none ∧ my1 = my) ∨ (r = some (.int (nI 1)) ∧ ∃ w, way m0 n t lm Rt = some w ∧ my1 = w.length ∧ wsg m0 n t GO F1 T1 M1 0 w Rt)))) ([.ref (ad 0), .int (nI m0), .int (nI lm)] : List Value).toArray s 0 0 A) (F0 m 262 ls []) := by
                rintro v262_1 v262_2 v262_3 v262_4 v262_6 ls H locs hno rfl rfl rfl rfl rfl hl hP hD hS
                obtain ⟨i0, hi0, hgo0, hst0⟩ := tI_place hbl hTI1 (mE (Zs d))
                have hpl : (mhash (mE (Zs d)) + i0) % 131072 < 131072 := Nat.mod_lt _ (by decide)
                have hvl := hTI1.1 ((mhash (mE (Zs d)) + i0) % 131072)
                refine lv_aload_n hx hb dX7_search_262 rfl (lv_at hl 0 rfl) ?_
                refine lv_lload hx hb dX7_search_263 (lv_at hl 4 rfl) ?_
                refine pu_go (va_runV (As := [.long (lN (mE (Zs d)))]) (rest := []) ⟨hx, hb, hml, hown, hts⟩ (c_X7_placeOf l dC dI (mW ad cI cJ cB th n t kp ma my rk G F1 T1 M1 WG GO Y1 V1 AT1 NX1) [(cI, .int), (cJ, .long), (cB, .byte)] (ad 0) _ rfl (ad 13) (ad 14) cJ cB Y1 V1 rfl rfl rfl rfl rfl rfl (mE (Zs d)) i0 hzx hTI1.1 hTI1.2.1 hgo0 hst0) (cwV 1 hts gX7_search_X7_placeOf rfl rfl rfl (by decide +kernel) ⟨Nat.le_of_ble_eq_true rfl, Nat.le_of_ble_eq_true rfl⟩) ⟨fun a U g mk q => ⟨q.1, q.2.1, va_K.moved (u := U) (U := U.calling g mk a) (Vm.Alike.refl U.vm) q.2.2⟩, va_recv hK hP (ci := 6) (q0 := 0) rfl rfl, fun U hU hW => ⟨rfl, by rw [hU]; exact hP, va_K.moved hW.alike hK⟩⟩ rfl rfl hl.1 rfl (lv_room (Nat.le_of_ble_eq_true rfl)) dX7_search_265 ⟨Nat.le_refl _, Nat.le_refl _⟩) ?_
                refine lv_istore (lv' := [(9, .int (nI ((mhash (mE (Zs d)) + i0) % 131072))), (0, .ref (ad 0)), (1, .int (nI m0)), (2, .int (nI lm)), (3, .int (nI d)), (4, .long (lN (mE (Zs d)))), (6, .int (nI (lm - d)))]) hx hb dX7_search_268 hl (by decide) rfl (fun ls hl => ?_)
                have cut_305 : ∀ (Y2 : Nat → Nat) (V2 : Nat → Nat) (v305_1 : Int32) (v305_2 : Int32) (v305_3 : Int32) (ls : Array Slot) (H : Heap) (locs : List Loc) (hTI2 : tI m0 n t bs V2 Y2) (_ : v305_1 = nI m0) (_ : v305_2 = nI lm) (_ : v305_3 = nI d) (_ : lv_has ls 11 [(0, .ref (ad 0)), (1, .int v305_1), (2, .int v305_2), (3, .int v305_3)]) (_ : va_P (dC, dI) vwCl (mW ad cI cJ cB th n t kp ma my rk G F1 T1 M1 WG GO Y2 V2 AT1 NX1) H) (_ : va_D A (mW ad cI cJ cB th n t kp ma my rk G F1 T1 M1 WG GO Y2 V2 AT1 NX1)) (_ : va_S A s.heap H locs), W p l e (headSpec wsX7_search ({ frames := 4, cells := 0, slots := 0, locals := 96 })).room s m ([.ref (ad 0), .int (nI m0), .int (nI lm)] : List Value).toArray below meth c H locs 0 0 (MQ below (wr_Q (dC, dI) A (fun r W1 => ∃ F1 T1 M1 Y1 V1 AT1 NX1 my1, W1 = (mW ad cI cJ cB th n t kp ma my1 rk G F1 T1 M1 WG GO Y1 V1 AT1 NX1) ∧ tI m0 n t bs V1 Y1 ∧ AT1 0 = mE Rt ∧ (∀ j, F1 j < 4 ∧ T1 j < 4) ∧ ((r = some (.int (nI 0)) ∧ way m0 n t lm Rt = none ∧ my1 = my) ∨ (r = some (.int (nI 1)) ∧ ∃ w, way m0 n t lm Rt = some w ∧ my1 = w.length ∧ wsg m0 n t GO F1 T1 M1 0 w Rt)))) ([.ref (ad 0), .int (nI m0), .int (nI lm)] : List Value).toArray s 0 0 A) (F0 m 305 ls []) := by
                  rintro Y2 V2 v305_1 v305_2 v305_3 ls H locs hTI2 rfl rfl rfl hl hP hD hS
                  refine lv_iinc (v := nI d - nI 1) (lv' := [(3, .int (nI d - nI 1)), (0, .ref (ad 0)), (1, .int (nI m0)), (2, .int (nI lm))]) hx hb dX7_search_305 hl (k := 3) rfl (by rw [Int32.sub_eq_add_neg]; rfl) (by decide) rfl (fun ls hl => ?_)
                  refine lv_goto (tgt := 9) hx hb dX7_search_308 (by decide) ?_
                  exact ih_9 d Zs AT1 NX1 F1 T1 M1 Y2 V2 _ _ _ ls _ _ (dI_pop hdI hno) (hTI2) (hA0) (hFT1) (Nat.lt_of_lt_of_le (mu_pop hnx) (by omega)) (rfl) (rfl) (rfl) (lv_sub hl [1, 2, 3, 0] rfl) (hP) (hD) hS
                refine lv_aload_n hx hb dX7_search_270 rfl (lv_at hl 1 rfl) ?_
                refine va_get (D := (dC, dI)) (ci := 6) (v := .ref (ad 14)) (C := RX7) (T := TX7) (N := 17) hx hb hts hinX7 hown hK hP 0 rfl rfl 14 (by decide) (hts (.fieldLink RX7 33 "ReshuffleSearchModel" "vain" "[B") (by decide +kernel)) (fun _ h9 => h9) rfl dX7_search_271 ?_
                refine lv_iload hx hb dX7_search_274 (lv_at hl 0 rfl) ?_
                refine wk_bald hx hb hK hP 8 2 rfl rfl (⟨hpl, by omega⟩) dX7_search_276 ?_
                refine lv_iload hx hb dX7_search_277 (lv_at hl 6 rfl) ?_
                refine lv_iconst (v := nI 1) hx hb dX7_search_279 (by decide +kernel) ?_
                refine wk_iadd hx hb dX7_search_280 ?_
                refine wk_icmp_ge (tgt := 305) hx hb (by omega) (by omega) dX7_search_281 (by decide) (fun c_281 => ?_) (fun c_281 => ?_)
                · exact cut_305 Y1 V1 _ _ _ ls _ _ (hTI1) (rfl) (rfl) (rfl) (lv_sub hl [1, 2, 3, 4] rfl) (hP) (hD) hS
                · refine lv_aload_n hx hb dX7_search_284 rfl (lv_at hl 1 rfl) ?_
                  refine va_get (D := (dC, dI)) (ci := 6) (v := .ref (ad 13)) (C := RX7) (T := TX7) (N := 17) hx hb hts hinX7 hown hK hP 0 rfl rfl 13 (by decide) (hts (.fieldLink RX7 29 "ReshuffleSearchModel" "yard" "[J") (by decide +kernel)) (fun _ h9 => h9) rfl dX7_search_285 ?_
                  refine lv_iload hx hb dX7_search_288 (lv_at hl 0 rfl) ?_
                  refine lv_lload hx hb dX7_search_290 (lv_at hl 5 rfl) ?_
                  refine wk_last hx hb hK hP hD hS 7 1 rfl rfl (⟨hpl, by omega⟩) dX7_search_292 (fun H locs hP hD hS => ?_)
                  have hP : va_P (dC, dI) vwCl (mW ad cI cJ cB th n t kp ma my rk G F1 T1 M1 WG GO (upN Y1 ((mhash (mE (Zs d)) + i0) % 131072) (mE (Zs d))) V1 AT1 NX1) H := hP
                  have hD : va_D A (mW ad cI cJ cB th n t kp ma my rk G F1 T1 M1 WG GO (upN Y1 ((mhash (mE (Zs d)) + i0) % 131072) (mE (Zs d))) V1 AT1 NX1) := hD
                  refine lv_aload_n hx hb dX7_search_293 rfl (lv_at hl 1 rfl) ?_
                  refine va_get (D := (dC, dI)) (ci := 6) (v := .ref (ad 14)) (C := RX7) (T := TX7) (N := 17) hx hb hts hinX7 hown hK hP 0 rfl rfl 14 (by decide) (hts (.fieldLink RX7 33 "ReshuffleSearchModel" "vain" "[B") (by decide +kernel)) (fun _ h9 => h9) rfl dX7_search_294 ?_
                  refine lv_iload hx hb dX7_search_297 (lv_at hl 0 rfl) ?_
                  refine lv_iload hx hb dX7_search_299 (lv_at hl 6 rfl) ?_
                  refine lv_iconst (v := nI 1) hx hb dX7_search_301 (by decide +kernel) ?_
                  refine wk_iadd hx hb dX7_search_302 ?_
                  refine wk_i2b hx hb (by omega) dX7_search_303 ?_
                  refine wk_bast hx hb hK hP hD hS 8 2 rfl rfl (⟨hpl, by omega⟩) (by omega) dX7_search_304 (fun H locs hP hD hS => ?_)
                  have hP : va_P (dC, dI) vwCl (mW ad cI cJ cB th n t kp ma my rk G F1 T1 M1 WG GO (upN Y1 ((mhash (mE (Zs d)) + i0) % 131072) (mE (Zs d))) (upN V1 ((mhash (mE (Zs d)) + i0) % 131072) ((lm - d) + 1)) AT1 NX1) H := hP
                  have hD : va_D A (mW ad cI cJ cB th n t kp ma my rk G F1 T1 M1 WG GO (upN Y1 ((mhash (mE (Zs d)) + i0) % 131072) (mE (Zs d))) (upN V1 ((mhash (mE (Zs d)) + i0) % 131072) ((lm - d) + 1)) AT1 NX1) := hD
                  exact cut_305 (upN Y1 ((mhash (mE (Zs d)) + i0) % 131072) (mE (Zs d))) (upN V1 ((mhash (mE (Zs d)) + i0) % 131072) (lm - d + 1)) _ _ _ ls _ _ (tI_put ht0.2 hTI1 hnd.1 hnd.2.1 hi0 hgo0 hst0 ⟨by omega, by omega⟩ (by rw [show lm - d + 1 - 1 = lm - d by omega]; exact hno)) (rfl) (rfl) (rfl) (lv_sub hl [1, 2, 3, 4] rfl) (hP) (hD) hS
              refine lv_iload hx hb dX7_search_133 (lv_at hl 6 rfl) ?_
              refine wk_if_eq (tgt := 262) hx hb (by omega) dX7_search_135 (by decide) (fun c_135 => ?_) (fun c_135 => ?_)
              · exact cut_262 _ _ _ _ _ ls _ _ (hi3 c_135) (rfl) (rfl) (rfl) (rfl) (rfl) (lv_sub hl [0, 1, 2, 3, 4, 5] rfl) (hP) (hD) hS
              · refine lv_iload hx hb dX7_search_138 (lv_at hl 7 rfl) ?_
                refine lv_bipush (v := nI 16) hx hb dX7_search_140 (by decide +kernel) ?_
                refine wk_icmp_ge (tgt := 262) hx hb (by omega) (by omega) dX7_search_142 (by decide) (fun c_142 => ?_) (fun c_142 => ?_)
                · exact cut_262 _ _ _ _ _ ls _ _ (node_none hbk (hXX (by omega)).1 (by rw [← show m9 = 16 by omega]; exact (hXX (by omega)).2.2.2.1)) (rfl) (rfl) (rfl) (rfl) (rfl) (lv_sub hl [0, 1, 2, 3, 4, 5] rfl) (hP) (hD) hS
                · obtain ⟨hx2a, hx3, -, hx4, hx5⟩ := hXX (by omega)
                  have hmay := hx5 c_142
                  have hx2 := And.intro hx2a trivial
                  obtain ⟨hy1, hy2, hy3, hy4, hy5, -⟩ := mayb_iff.mp hmay
                  have hla := mht_mE hnd.1 ht0.2 (show m9 / 4 < 4 by omega)
                  have hlb := mht_mE hnd.1 ht0.2 (show m9 % 4 < 4 by omega)
                  have hlc := (hnd.1.1 (m9 / 4)).1
                  have hld := (hnd.1.1 (m9 % 4)).1
                  have hpos : 0 < (Zs d (m9 / 4)).length := List.length_pos_iff.mpr hy4
                  have hb8 := yr_lt (mE (Zs d)) (4 * (m9 / 4) + (mht (mE (Zs d)) (m9 / 4) t - 1))
                  have hmlt := mmv_lt (x := mE (Zs d)) (a := m9 / 4) (b := m9 % 4) (t := t) hzx (by omega) (by omega) (by omega)
                  refine lv_aload_n hx hb dX7_search_145 rfl (lv_at hl 0 rfl) ?_
                  refine va_get (D := (dC, dI)) (ci := 6) (v := .ref (ad 16)) (C := RX7) (T := TX7) (N := 17) hx hb hts hinX7 hown hK hP 0 rfl rfl 16 (by decide) (hts (.fieldLink RX7 40 "ReshuffleSearchModel" "next" "[I") (by decide +kernel)) (fun _ h9 => h9) rfl dX7_search_146 ?_
                  refine lv_iload_n hx hb dX7_search_149 rfl (lv_at hl 3 rfl) ?_
                  refine lv_iload hx hb dX7_search_150 (lv_at hl 7 rfl) ?_
                  refine lv_iconst (v := nI 1) hx hb dX7_search_152 (by decide +kernel) ?_
                  refine wk_iadd hx hb dX7_search_153 ?_
                  refine wk_iast hx hb hK hP hD hS 10 0 rfl rfl (by omega) dX7_search_154 (fun H locs hP hD hS => ?_)
                  have hP : va_P (dC, dI) vwCl (mW ad cI cJ cB th n t kp ma my rk G F1 T1 M1 WG GO Y1 V1 AT1 (upN NX1 d (m9 + 1))) H := hP
                  have hD : va_D A (mW ad cI cJ cB th n t kp ma my rk G F1 T1 M1 WG GO Y1 V1 AT1 (upN NX1 d (m9 + 1))) := hD
                  refine lv_aload_n hx hb dX7_search_155 rfl (lv_at hl 0 rfl) ?_
                  refine va_get (D := (dC, dI)) (ci := 6) (v := .ref (ad 7)) (C := RX7) (T := TX7) (N := 17) hx hb hts hinX7 hown hK hP 0 rfl rfl 7 (by decide) (hts (.fieldLink RX7 13 "ReshuffleSearchModel" "from" "[I") (by decide +kernel)) (fun _ h9 => h9) rfl dX7_search_156 ?_
                  refine lv_iload_n hx hb dX7_search_159 rfl (lv_at hl 3 rfl) ?_
                  refine lv_iload hx hb dX7_search_160 (lv_at hl 7 rfl) ?_
                  refine lv_iconst (v := nI 4) hx hb dX7_search_162 (by decide +kernel) ?_
                  refine wk_idiv hx hb (by omega) (by decide) (by decide) dX7_search_163 ?_
                  refine wk_iast hx hb hK hP hD hS 2 0 rfl rfl (by omega) dX7_search_164 (fun H locs hP hD hS => ?_)
                  have hP : va_P (dC, dI) vwCl (mW ad cI cJ cB th n t kp ma my rk G (upN F1 d (m9 / 4)) T1 M1 WG GO Y1 V1 AT1 (upN NX1 d (m9 + 1))) H := hP
                  have hD : va_D A (mW ad cI cJ cB th n t kp ma my rk G (upN F1 d (m9 / 4)) T1 M1 WG GO Y1 V1 AT1 (upN NX1 d (m9 + 1))) := hD
                  refine lv_aload_n hx hb dX7_search_165 rfl (lv_at hl 0 rfl) ?_
                  refine va_get (D := (dC, dI)) (ci := 6) (v := .ref (ad 8)) (C := RX7) (T := TX7) (N := 17) hx hb hts hinX7 hown hK hP 0 rfl rfl 8 (by decide) (hts (.fieldLink RX7 16 "ReshuffleSearchModel" "to" "[I") (by decide +kernel)) (fun _ h9 => h9) rfl dX7_search_166 ?_
                  refine lv_iload_n hx hb dX7_search_169 rfl (lv_at hl 3 rfl) ?_
                  refine lv_iload hx hb dX7_search_170 (lv_at hl 7 rfl) ?_
                  refine lv_iconst (v := nI 4) hx hb dX7_search_172 (by decide +kernel) ?_
                  refine wk_irem hx hb (by omega) (by decide) (by decide) dX7_search_173 ?_
                  refine wk_iast hx hb hK hP hD hS 3 0 rfl rfl (by omega) dX7_search_174 (fun H locs hP hD hS => ?_)
                  have hP : va_P (dC, dI) vwCl (mW ad cI cJ cB th n t kp ma my rk G (upN F1 d (m9 / 4)) (upN T1 d (m9 % 4)) M1 WG GO Y1 V1 AT1 (upN NX1 d (m9 + 1))) H := hP
                  have hD : va_D A (mW ad cI cJ cB th n t kp ma my rk G (upN F1 d (m9 / 4)) (upN T1 d (m9 % 4)) M1 WG GO Y1 V1 AT1 (upN NX1 d (m9 + 1))) := hD
                  refine lv_aload_n hx hb dX7_search_175 rfl (lv_at hl 0 rfl) ?_
                  refine va_get (D := (dC, dI)) (ci := 6) (v := .ref (ad 9)) (C := RX7) (T := TX7) (N := 17) hx hb hts hinX7 hown hK hP 0 rfl rfl 9 (by decide) (hts (.fieldLink RX7 19 "ReshuffleSearchModel" "moved" "[I") (by decide +kernel)) (fun _ h9 => h9) rfl dX7_search_176 ?_
                  refine lv_iload_n hx hb dX7_search_179 rfl (lv_at hl 3 rfl) ?_
                  refine lv_aload_n hx hb dX7_search_180 rfl (lv_at hl 0 rfl) ?_
                  refine va_get (D := (dC, dI)) (ci := 6) (v := .ref (ad 12)) (C := RX7) (T := TX7) (N := 17) hx hb hts hinX7 hown hK hP 0 rfl rfl 12 (by decide) (hts (.fieldLink RX7 25 "ReshuffleSearchModel" "groupOf" "[I") (by decide +kernel)) (fun _ h9 => h9) rfl dX7_search_181 ?_
                  refine lv_lload hx hb dX7_search_184 (lv_at hl 4 rfl) ?_
                  refine lv_iload hx hb dX7_search_186 (lv_at hl 7 rfl) ?_
                  refine lv_iconst (v := nI 4) hx hb dX7_search_188 (by decide +kernel) ?_
                  refine wk_idiv hx hb (by omega) (by decide) (by decide) dX7_search_189 ?_
                  refine lv_aload_n hx hb dX7_search_190 rfl (lv_at hl 0 rfl) ?_
                  refine lv_lload hx hb dX7_search_191 (lv_at hl 4 rfl) ?_
                  refine lv_iload hx hb dX7_search_193 (lv_at hl 7 rfl) ?_
                  refine lv_iconst (v := nI 4) hx hb dX7_search_195 (by decide +kernel) ?_
                  refine wk_idiv hx hb (by omega) (by decide) (by decide) dX7_search_196 ?_
                  refine pu_go (va_runV (As := [.long (lN (mE (Zs d))), .int (nI (m9 / 4))]) (rest := [.int (nI (m9 / 4)), .long (lN (mE (Zs d))), .ref (ad 12), .int (nI d), .ref (ad 9)]) ⟨hx, hb, hml, hown, hts⟩ (c_X7_height l dC dI (mW ad cI cJ cB th n t kp ma my rk G (upN F1 d (m9 / 4)) (upN T1 d (m9 % 4)) M1 WG GO Y1 V1 AT1 (upN NX1 d (m9 + 1))) [(cI, .int), (cJ, .long), (cB, .byte)] (ad 0) _ rfl t rfl ht0 (mE (Zs d)) (m9 / 4) (by first | omega | assumption) (by first | omega | assumption)) (cwV 2 hts gX7_search_X7_height rfl rfl rfl (by decide +kernel) ⟨Nat.le_of_ble_eq_true rfl, Nat.le_of_ble_eq_true rfl⟩) ⟨fun a U g mk q => ⟨q.1, q.2.1, va_K.moved (u := U) (U := U.calling g mk a) (Vm.Alike.refl U.vm) q.2.2⟩, va_recv hK hP (ci := 6) (q0 := 0) rfl rfl, fun U hU hW => ⟨rfl, by rw [hU]; exact hP, va_K.moved hW.alike hK⟩⟩ rfl rfl hl.1 rfl (lv_room (Nat.le_of_ble_eq_true rfl)) dX7_search_197 ⟨Nat.le_refl _, Nat.le_refl _⟩) ?_
                  refine lv_iconst (v := nI 1) hx hb dX7_search_200 (by decide +kernel) ?_
                  refine wk_isub hx hb (by omega) dX7_search_201 ?_
                  refine pu_go (va_runS (As := [.long (lN (mE (Zs d))), .int (nI (m9 / 4)), .int (nI ((mht (mE (Zs d)) (m9 / 4) t) - 1))]) (rest := [.ref (ad 12), .int (nI d), .ref (ad 9)]) ⟨hx, hb, hml, hown, hts⟩ (c_X7_box l (mE (Zs d)) (m9 / 4) ((mht (mE (Zs d)) (m9 / 4) t) - 1) (by first | omega | assumption) (by first | omega | assumption)) (va_cwS 3 hts gX7_search_X7_box rfl rfl rfl (by decide +kernel) ⟨Nat.le_of_ble_eq_true rfl, Nat.le_of_ble_eq_true rfl⟩) ⟨fun _ _ _ _ q => q, fun _ _ _ => ⟨rfl, trivial⟩⟩ rfl rfl hl.1 rfl (lv_room (Nat.le_of_ble_eq_true rfl)) dX7_search_202 ⟨Nat.le_refl _, Nat.le_refl _⟩) ?_
                  refine wk_iald hx hb hK hP 6 0 rfl rfl (by omega) dX7_search_205 ?_
                  refine wk_ti (v' := nI (GO ((Zs d (m9 / 4)).headD 0))) (congrArg (fun z => nI (GO z)) (top_eq hnd.1 ht0.2 (by omega) hy4)) ?_
                  refine wk_iast hx hb hK hP hD hS 4 0 rfl rfl (by omega) dX7_search_206 (fun H locs hP hD hS => ?_)
                  have hP : va_P (dC, dI) vwCl (mW ad cI cJ cB th n t kp ma my rk G (upN F1 d (m9 / 4)) (upN T1 d (m9 % 4)) (upN M1 d (GO ((Zs d (m9 / 4)).headD 0))) WG GO Y1 V1 AT1 (upN NX1 d (m9 + 1))) H := hP
                  have hD : va_D A (mW ad cI cJ cB th n t kp ma my rk G (upN F1 d (m9 / 4)) (upN T1 d (m9 % 4)) (upN M1 d (GO ((Zs d (m9 / 4)).headD 0))) WG GO Y1 V1 AT1 (upN NX1 d (m9 + 1))) := hD
                  refine lv_aload_n hx hb dX7_search_207 rfl (lv_at hl 0 rfl) ?_
                  refine lv_lload hx hb dX7_search_208 (lv_at hl 4 rfl) ?_
                  refine lv_iload hx hb dX7_search_210 (lv_at hl 7 rfl) ?_
                  refine lv_iconst (v := nI 4) hx hb dX7_search_212 (by decide +kernel) ?_
                  refine wk_idiv hx hb (by omega) (by decide) (by decide) dX7_search_213 ?_
                  refine lv_iload hx hb dX7_search_214 (lv_at hl 7 rfl) ?_
                  refine lv_iconst (v := nI 4) hx hb dX7_search_216 (by decide +kernel) ?_
                  refine wk_irem hx hb (by omega) (by decide) (by decide) dX7_search_217 ?_
                  refine pu_go (va_runV (As := [.long (lN (mE (Zs d))), .int (nI (m9 / 4)), .int (nI (m9 % 4))]) (rest := []) ⟨hx, hb, hml, hown, hts⟩ (c_X7_moved l dC dI (mW ad cI cJ cB th n t kp ma my rk G (upN F1 d (m9 / 4)) (upN T1 d (m9 % 4)) (upN M1 d (GO ((Zs d (m9 / 4)).headD 0))) WG GO Y1 V1 AT1 (upN NX1 d (m9 + 1))) [(cI, .int), (cJ, .long), (cB, .byte)] (ad 0) _ rfl t rfl ht0 (mE (Zs d)) (m9 / 4) (m9 % 4) (by first | omega | assumption) (by first | omega | assumption) (by first | omega | assumption) (by first | omega | assumption) (by first | omega | assumption)) (cwV 3 hts gX7_search_X7_moved rfl rfl rfl (by decide +kernel) ⟨Nat.le_of_ble_eq_true rfl, Nat.le_of_ble_eq_true rfl⟩) ⟨fun a U g mk q => ⟨q.1, q.2.1, va_K.moved (u := U) (U := U.calling g mk a) (Vm.Alike.refl U.vm) q.2.2⟩, va_recv hK hP (ci := 6) (q0 := 0) rfl rfl, fun U hU hW => ⟨rfl, by rw [hU]; exact hP, va_K.moved hW.alike hK⟩⟩ rfl rfl hl.1 rfl (lv_room (Nat.le_of_ble_eq_true rfl)) dX7_search_218 ⟨Nat.le_refl _, Nat.le_refl _⟩) ?_
                  refine lv_lstore (lv' := [(9, .long (lN (mmv (mE (Zs d)) (m9 / 4) (m9 % 4) t))), (0, .ref (ad 0)), (1, .int (nI m0)), (2, .int (nI lm)), (3, .int (nI d)), (4, .long (lN (mE (Zs d)))), (6, .int (nI (lm - d))), (7, .int (nI is9)), (8, .int (nI m9))]) hx hb dX7_search_221 hl (by decide) rfl (fun ls hl => ?_)
                  have cut_246 : ∀ (v246_1 : Int32) (v246_2 : Int32) (v246_3 : Int32) (v246_8 : Int32) (u246_0 : Int64) (u246_1 : Int32) (ls : Array Slot) (H : Heap) (locs : List Loc) (_ : v246_1 = nI m0) (_ : v246_2 = nI lm) (_ : v246_3 = nI d) (_ : v246_8 = nI m9) (_ : u246_0 = lN (mE (chd m0 n t (Zs d) m9))) (_ : u246_1 = nI (d + 1)) (_ : lv_has ls 11 [(0, .ref (ad 0)), (1, .int v246_1), (2, .int v246_2), (3, .int v246_3), (8, .int v246_8)]) (_ : va_P (dC, dI) vwCl (mW ad cI cJ cB th n t kp ma my rk G (upN F1 d (m9 / 4)) (upN T1 d (m9 % 4)) (upN M1 d (GO ((Zs d (m9 / 4)).headD 0))) WG GO Y1 V1 AT1 (upN NX1 d (m9 + 1))) H) (_ : va_D A (mW ad cI cJ cB th n t kp ma my rk G (upN F1 d (m9 / 4)) (upN T1 d (m9 % 4)) (upN M1 d (GO ((Zs d (m9 / 4)).headD 0))) WG GO Y1 V1 AT1 (upN NX1 d (m9 + 1)))) (_ : va_S A s.heap H locs), W p l e (headSpec wsX7_search ({ frames := 4, cells := 0, slots := 0, locals := 96 })).room s m ([.ref (ad 0), .int (nI m0), .int (nI lm)] : List Value).toArray below meth c H locs 0 0 (MQ below (wr_Q (dC, dI) A (fun r W1 => ∃ F1 T1 M1 Y1 V1 AT1 NX1 my1, W1 = (mW ad cI cJ cB th n t kp ma my1 rk G F1 T1 M1 WG GO Y1 V1 AT1 NX1) ∧ tI m0 n t bs V1 Y1 ∧ AT1 0 = mE Rt ∧ (∀ j, F1 j < 4 ∧ T1 j < 4) ∧ ((r = some (.int (nI 0)) ∧ way m0 n t lm Rt = none ∧ my1 = my) ∨ (r = some (.int (nI 1)) ∧ ∃ w, way m0 n t lm Rt = some w ∧ my1 = w.length ∧ wsg m0 n t GO F1 T1 M1 0 w Rt)))) ([.ref (ad 0), .int (nI m0), .int (nI lm)] : List Value).toArray s 0 0 A) (F0 m 246 ls [.long u246_0, .int u246_1, .ref (ad 15)]) := by
                    rintro v246_1 v246_2 v246_3 v246_8 u246_0 u246_1 ls H locs rfl rfl rfl rfl rfl rfl hl hP hD hS
                    refine wk_last hx hb hK hP hD hS 9 1 rfl rfl (by omega) dX7_search_246 (fun H locs hP hD hS => ?_)
                    have hP : va_P (dC, dI) vwCl (mW ad cI cJ cB th n t kp ma my rk G (upN F1 d (m9 / 4)) (upN T1 d (m9 % 4)) (upN M1 d (GO ((Zs d (m9 / 4)).headD 0))) WG GO Y1 V1 (upN AT1 (d + 1) (mE (chd m0 n t (Zs d) m9))) (upN NX1 d (m9 + 1))) H := hP
                    have hD : va_D A (mW ad cI cJ cB th n t kp ma my rk G (upN F1 d (m9 / 4)) (upN T1 d (m9 % 4)) (upN M1 d (GO ((Zs d (m9 / 4)).headD 0))) WG GO Y1 V1 (upN AT1 (d + 1) (mE (chd m0 n t (Zs d) m9))) (upN NX1 d (m9 + 1))) := hD
                    refine lv_aload_n hx hb dX7_search_247 rfl (lv_at hl 0 rfl) ?_
                    refine va_get (D := (dC, dI)) (ci := 6) (v := .ref (ad 16)) (C := RX7) (T := TX7) (N := 17) hx hb hts hinX7 hown hK hP 0 rfl rfl 16 (by decide) (hts (.fieldLink RX7 40 "ReshuffleSearchModel" "next" "[I") (by decide +kernel)) (fun _ h9 => h9) rfl dX7_search_248 ?_
                    refine lv_iload_n hx hb dX7_search_251 rfl (lv_at hl 3 rfl) ?_
                    refine lv_iconst (v := nI 1) hx hb dX7_search_252 (by decide +kernel) ?_
                    refine wk_iadd hx hb dX7_search_253 ?_
                    refine lv_iconst (v := nI 0) hx hb dX7_search_254 (by decide +kernel) ?_
                    refine wk_iast hx hb hK hP hD hS 10 0 rfl rfl (by omega) dX7_search_255 (fun H locs hP hD hS => ?_)
                    have hP : va_P (dC, dI) vwCl (mW ad cI cJ cB th n t kp ma my rk G (upN F1 d (m9 / 4)) (upN T1 d (m9 % 4)) (upN M1 d (GO ((Zs d (m9 / 4)).headD 0))) WG GO Y1 V1 (upN AT1 (d + 1) (mE (chd m0 n t (Zs d) m9))) (upN (upN NX1 d (m9 + 1)) (d + 1) 0)) H := hP
                    have hD : va_D A (mW ad cI cJ cB th n t kp ma my rk G (upN F1 d (m9 / 4)) (upN T1 d (m9 % 4)) (upN M1 d (GO ((Zs d (m9 / 4)).headD 0))) WG GO Y1 V1 (upN AT1 (d + 1) (mE (chd m0 n t (Zs d) m9))) (upN (upN NX1 d (m9 + 1)) (d + 1) 0)) := hD
                    refine lv_iinc (v := nI (d + 1)) (lv' := [(3, .int (nI (d + 1))), (0, .ref (ad 0)), (1, .int (nI m0)), (2, .int (nI lm)), (8, .int (nI m9))]) hx hb dX7_search_256 hl (k := 3) rfl (wk_inc _ 1 rfl) (by decide) rfl (fun ls hl => ?_)
                    refine lv_goto (tgt := 308) hx hb dX7_search_259 (by decide) ?_
                    refine lv_goto (tgt := 9) hx hb dX7_search_308 (by decide) ?_
                    exact ih_9 (d + 2) (fun i => if i = d + 1 then chd m0 n t (Zs d) m9 else Zs i) _ _ _ _ _ _ _ _ _ _ ls _ _ (dI_push hn0.2 hbs hbl hdI hbk hx2.1 c_142 hx4 hmay) (hTI1) (by rw [upN_n (by omega)]; exact hA0) (fun j => ⟨by have := (hFT1 j).1; unfold upN; split <;> omega, by have := (hFT1 j).2; unfold upN; split <;> omega⟩) (Nat.lt_of_lt_of_le (mu_push (by omega) hx3 c_142) (by omega)) (rfl) (rfl) ((pk_sub (by omega)).symm) (lv_sub hl [1, 2, 3, 0] rfl) (hP) (hD) hS
                  refine lv_aload_n hx hb dX7_search_223 rfl (lv_at hl 1 rfl) ?_
                  refine va_get (D := (dC, dI)) (ci := 6) (v := .ref (ad 15)) (C := RX7) (T := TX7) (N := 17) hx hb hts hinX7 hown hK hP 0 rfl rfl 15 (by decide) (hts (.fieldLink RX7 37 "ReshuffleSearchModel" "at" "[J") (by decide +kernel)) (fun _ h9 => h9) rfl dX7_search_224 ?_
                  refine lv_iload_n hx hb dX7_search_227 rfl (lv_at hl 4 rfl) ?_
                  refine lv_iconst (v := nI 1) hx hb dX7_search_228 (by decide +kernel) ?_
                  refine wk_iadd hx hb dX7_search_229 ?_
                  refine lv_iload_n hx hb dX7_search_230 rfl (lv_at hl 2 rfl) ?_
                  refine lv_iconst (v := nI 2) hx hb dX7_search_231 (by decide +kernel) ?_
                  refine wk_icmp_ne (tgt := 240) hx hb (by omega) (by omega) dX7_search_232 (by decide) (fun c_232 => ?_) (fun c_232 => ?_)
                  · refine lv_aload_n hx hb dX7_search_240 rfl (lv_at hl 1 rfl) ?_
                    refine lv_lload hx hb dX7_search_241 (lv_at hl 0 rfl) ?_
                    refine pu_go (va_runV (As := [.long (lN (mmv (mE (Zs d)) (m9 / 4) (m9 % 4) t))]) (rest := [.int (nI (d + 1)), .ref (ad 15)]) ⟨hx, hb, hml, hown, hts⟩ (c_X7_left l dC dI (mW ad cI cJ cB th n t kp ma my rk G (upN F1 d (m9 / 4)) (upN T1 d (m9 % 4)) (upN M1 d (GO ((Zs d (m9 / 4)).headD 0))) WG GO Y1 V1 AT1 (upN NX1 d (m9 + 1))) [(cI, .int), (cJ, .long), (cB, .byte)] (ad 0) _ rfl n rfl hn0 t rfl ht0 (mmv (mE (Zs d)) (m9 / 4) (m9 % 4) t) (by first | omega | assumption)) (cwV 1 hts gX7_search_X7_left rfl rfl rfl (by decide +kernel) ⟨Nat.le_of_ble_eq_true rfl, Nat.le_of_ble_eq_true rfl⟩) ⟨fun a U g mk q => ⟨q.1, q.2.1, va_K.moved (u := U) (U := U.calling g mk a) (Vm.Alike.refl U.vm) q.2.2⟩, va_recv hK hP (ci := 6) (q0 := 0) rfl rfl, fun U hU hW => ⟨rfl, by rw [hU]; exact hP, va_K.moved hW.alike hK⟩⟩ rfl rfl hl.1 rfl (lv_room (Nat.le_of_ble_eq_true rfl)) dX7_search_243 ⟨Nat.le_refl _, Nat.le_refl _⟩) ?_
                    exact cut_246 _ _ _ _ _ _ ls _ _ (rfl) (rfl) (rfl) (rfl) (congrArg lN (ite_f c_232 (chd_mE2 hn0.2 ht0.2 hnd.1 hmay))) (rfl) (lv_sub hl [1, 2, 3, 4, 8] rfl) (hP) (hD) hS
                  · refine lv_lload hx hb dX7_search_235 (lv_at hl 0 rfl) ?_
                    refine lv_goto (tgt := 246) hx hb dX7_search_237 (by decide) ?_
                    exact cut_246 _ _ _ _ _ _ ls _ _ (rfl) (rfl) (rfl) (rfl) (congrArg lN (ite_t c_232 (chd_mE2 hn0.2 ht0.2 hnd.1 hmay))) (rfl) (lv_sub hl [1, 2, 3, 4, 8] rfl) (hP) (hD) hS
            have cut_97 : ∀ (n_97 : Nat) (mq : Nat) (v97_1 : Int32) (v97_2 : Int32) (v97_3 : Int32) (v97_4 : Int64) (v97_6 : Int32) (v97_7 : Int32) (v97_8 : Int32) (ls : Array Slot) (H : Heap) (locs : List Loc) (hm1 : NX1 d ≤ mq) (hm2 : mq ≤ 16) (hm3 : is9 = 1 → flt m0 n t (lm - d - 1) (Zs d) mq) (hn_97 : 16 - mq < n_97) (_ : v97_1 = nI m0) (_ : v97_2 = nI lm) (_ : v97_3 = nI d) (_ : v97_4 = lN (mE (Zs d))) (_ : v97_6 = nI (lm - d)) (_ : v97_7 = nI is9) (_ : v97_8 = nI mq) (_ : lv_has ls 11 [(0, .ref (ad 0)), (1, .int v97_1), (2, .int v97_2), (3, .int v97_3), (4, .long v97_4), (6, .int v97_6), (7, .int v97_7), (8, .int v97_8)]) (_ : va_P (dC, dI) vwCl (mW ad cI cJ cB th n t kp ma my rk G F1 T1 M1 WG GO Y1 V1 AT1 NX1) H) (_ : va_D A (mW ad cI cJ cB th n t kp ma my rk G F1 T1 M1 WG GO Y1 V1 AT1 NX1)) (_ : va_S A s.heap H locs), W p l e (headSpec wsX7_search ({ frames := 4, cells := 0, slots := 0, locals := 96 })).room s m ([.ref (ad 0), .int (nI m0), .int (nI lm)] : List Value).toArray below meth c H locs 0 0 (MQ below (wr_Q (dC, dI) A (fun r W1 => ∃ F1 T1 M1 Y1 V1 AT1 NX1 my1, W1 = (mW ad cI cJ cB th n t kp ma my1 rk G F1 T1 M1 WG GO Y1 V1 AT1 NX1) ∧ tI m0 n t bs V1 Y1 ∧ AT1 0 = mE Rt ∧ (∀ j, F1 j < 4 ∧ T1 j < 4) ∧ ((r = some (.int (nI 0)) ∧ way m0 n t lm Rt = none ∧ my1 = my) ∨ (r = some (.int (nI 1)) ∧ ∃ w, way m0 n t lm Rt = some w ∧ my1 = w.length ∧ wsg m0 n t GO F1 T1 M1 0 w Rt)))) ([.ref (ad 0), .int (nI m0), .int (nI lm)] : List Value).toArray s 0 0 A) (F0 m 97 ls []) := by
              intro n_97
              induction n_97 with
              | zero => intros; omega
              | succ n_97 ih_97 =>
                rintro mq v97_1 v97_2 v97_3 v97_4 v97_6 v97_7 v97_8 ls H locs hm1 hm2 hm3 hn_97 rfl rfl rfl rfl rfl rfl rfl hl hP hD hS
                refine lv_iload hx hb dX7_search_97 (lv_at hl 6 rfl) ?_
                refine wk_if_eq (tgt := 133) hx hb (by omega) dX7_search_99 (by decide) (fun c_99 => ?_) (fun c_99 => ?_)
                · exact cut_133 mq _ _ _ _ _ _ _ ls _ _ (fun q => absurd q (by omega)) (hm2) (rfl) (rfl) (rfl) (rfl) (rfl) (rfl) (rfl) (lv_sub hl [0, 1, 2, 3, 4, 5, 6, 7] rfl) (hP) (hD) hS
                · refine lv_iload hx hb dX7_search_102 (lv_at hl 7 rfl) ?_
                  refine lv_bipush (v := nI 16) hx hb dX7_search_104 (by decide +kernel) ?_
                  refine wk_icmp_ge (tgt := 133) hx hb (by omega) (by omega) dX7_search_106 (by decide) (fun c_106 => ?_) (fun c_106 => ?_)
                  · exact cut_133 mq _ _ _ _ _ _ _ ls _ _ (fun q => ⟨hi2 q, hm1, hm2, hm3 q, fun z => absurd z (by omega)⟩) (hm2) (rfl) (rfl) (rfl) (rfl) (rfl) (rfl) (rfl) (lv_sub hl [0, 1, 2, 3, 4, 5, 6, 7] rfl) (hP) (hD) hS
                  · refine lv_aload_n hx hb dX7_search_109 rfl (lv_at hl 0 rfl) ?_
                    refine lv_iload_n hx hb dX7_search_110 rfl (lv_at hl 1 rfl) ?_
                    refine lv_lload hx hb dX7_search_111 (lv_at hl 4 rfl) ?_
                    refine lv_iload hx hb dX7_search_113 (lv_at hl 7 rfl) ?_
                    refine lv_iconst (v := nI 4) hx hb dX7_search_115 (by decide +kernel) ?_
                    refine wk_idiv hx hb (by omega) (by decide) (by decide) dX7_search_116 ?_
                    refine lv_iload hx hb dX7_search_117 (lv_at hl 7 rfl) ?_
                    refine lv_iconst (v := nI 4) hx hb dX7_search_119 (by decide +kernel) ?_
                    refine wk_irem hx hb (by omega) (by decide) (by decide) dX7_search_120 ?_
                    refine pu_go (va_runV (As := [.int (nI m0), .long (lN (mE (Zs d))), .int (nI (mq / 4)), .int (nI (mq % 4))]) (rest := []) ⟨hx, hb, hml, hown, hts⟩ (c_X7_mayMove l dC dI (mW ad cI cJ cB th n t kp ma my rk G F1 T1 M1 WG GO Y1 V1 AT1 NX1) [(cI, .int), (cJ, .long), (cB, .byte)] (ad 0) _ rfl n rfl hn0 t rfl ht0 (mE (Zs d)) m0 (mq / 4) (mq % 4) (by first | omega | assumption) (by first | omega | assumption) (by first | omega | assumption) (by first | omega | assumption)) (cwV 4 hts gX7_search_X7_mayMove rfl rfl rfl (by decide +kernel) ⟨Nat.le_of_ble_eq_true rfl, Nat.le_of_ble_eq_true rfl⟩) ⟨fun a U g mk q => ⟨q.1, q.2.1, va_K.moved (u := U) (U := U.calling g mk a) (Vm.Alike.refl U.vm) q.2.2⟩, va_recv hK hP (ci := 6) (q0 := 0) rfl rfl, fun U hU hW => ⟨rfl, by rw [hU]; exact hP, va_K.moved hW.alike hK⟩⟩ rfl rfl hl.1 rfl (lv_room (Nat.le_of_ble_eq_true rfl)) dX7_search_121 ⟨Nat.le_refl _, Nat.le_refl _⟩) ?_
                    refine wk_bn_ne (tgt := 133) hx hb dX7_search_124 (by decide) (fun c_124 => ?_) (fun c_124 => ?_)
                    · exact cut_133 mq _ _ _ _ _ _ _ ls _ _ (fun q => ⟨hi2 q, hm1, hm2, hm3 q, fun _ => by rw [← mmay_mE hn0.2 hnd.1 ht0.2 (by omega) (by omega)]; exact c_124⟩) (hm2) (rfl) (rfl) (rfl) (rfl) (rfl) (rfl) (rfl) (lv_sub hl [0, 1, 2, 3, 4, 5, 6, 7] rfl) (hP) (hD) hS
                    · refine lv_iinc (v := nI (mq + 1)) (lv' := [(8, .int (nI (mq + 1))), (0, .ref (ad 0)), (1, .int (nI m0)), (2, .int (nI lm)), (3, .int (nI d)), (4, .long (lN (mE (Zs d)))), (6, .int (nI (lm - d))), (7, .int (nI is9))]) hx hb dX7_search_127 hl (k := 7) rfl (wk_inc _ 1 rfl) (by decide) rfl (fun ls hl => ?_)
                      refine lv_goto (tgt := 97) hx hb dX7_search_130 (by decide) ?_
                      exact ih_97 (mq + 1) _ _ _ _ _ _ _ ls _ _ (by omega) (by omega) (fun q => flt_s (hm3 q) (fun z => absurd (by rw [mmay_mE hn0.2 hnd.1 ht0.2 (by omega) (by omega)]; exact z) c_124)) (by omega) (rfl) (rfl) (rfl) (rfl) (rfl) (rfl) (rfl) (lv_sub hl [1, 2, 3, 4, 5, 6, 7, 0] rfl) (hP) (hD) hS
            exact cut_97 ((16 - NX1 d) + 1) (NX1 d) _ _ _ _ _ _ _ ls _ _ (Nat.le_refl _) (hnx) (fun _ => htop.1) (by omega) (rfl) (rfl) (rfl) (rfl) (rfl) (rfl) (rfl) (lv_sub hl [2, 3, 4, 5, 6, 7, 1, 0] rfl) (hP) (hD) hS
          refine lv_aload_n hx hb dX7_search_52 rfl (lv_at hl 0 rfl) ?_
          refine va_get (D := (dC, dI)) (ci := 6) (v := .ref (ad 16)) (C := RX7) (T := TX7) (N := 17) hx hb hts hinX7 hown hK hP 0 rfl rfl 16 (by decide) (hts (.fieldLink RX7 40 "ReshuffleSearchModel" "next" "[I") (by decide +kernel)) (fun _ h9 => h9) rfl dX7_search_53 ?_
          refine lv_iload_n hx hb dX7_search_56 rfl (lv_at hl 3 rfl) ?_
          refine wk_iald hx hb hK hP 10 0 rfl rfl (by omega) dX7_search_57 ?_
          refine wk_if_gt (tgt := 82) hx hb (by omega) dX7_search_58 (by decide) (fun c_58 => ?_) (fun c_58 => ?_)
          · refine lv_iconst (v := nI 1) hx hb dX7_search_82 (by decide +kernel) ?_
            refine lv_goto (tgt := 87) hx hb dX7_search_83 (by decide) ?_
            exact cut_87 1 _ _ _ _ _ _ ls _ _ (by decide) (fun _ => (htop.2 c_58).2) (fun q => absurd q (by decide)) (rfl) (rfl) (rfl) (rfl) (rfl) (rfl) (lv_sub hl [0, 1, 2, 3, 4, 5] rfl) (hP) (hD) hS
          · refine lv_iload hx hb dX7_search_61 (lv_at hl 5 rfl) ?_
            refine wk_if_le (tgt := 86) hx hb (by omega) dX7_search_63 (by decide) (fun c_63 => ?_) (fun c_63 => ?_)
            · refine lv_iconst (v := nI 0) hx hb dX7_search_86 (by decide +kernel) ?_
              exact cut_87 0 _ _ _ _ _ _ ls _ _ (by decide) (fun q => absurd q (by decide)) (fun _ => node_zero hbk (by omega)) (rfl) (rfl) (rfl) (rfl) (rfl) (rfl) (lv_sub hl [0, 1, 2, 3, 4, 5] rfl) (hP) (hD) hS
            · obtain ⟨i0, hi0, hgo0, hst0⟩ := tI_place hbl hTI1 (mE (Zs d))
              have hpl : (mhash (mE (Zs d)) + i0) % 131072 < 131072 := Nat.mod_lt _ (by decide)
              have hvl := hTI1.1 ((mhash (mE (Zs d)) + i0) % 131072)
              refine lv_aload_n hx hb dX7_search_66 rfl (lv_at hl 0 rfl) ?_
              refine va_get (D := (dC, dI)) (ci := 6) (v := .ref (ad 14)) (C := RX7) (T := TX7) (N := 17) hx hb hts hinX7 hown hK hP 0 rfl rfl 14 (by decide) (hts (.fieldLink RX7 33 "ReshuffleSearchModel" "vain" "[B") (by decide +kernel)) (fun _ h9 => h9) rfl dX7_search_67 ?_
              refine lv_aload_n hx hb dX7_search_70 rfl (lv_at hl 0 rfl) ?_
              refine lv_lload hx hb dX7_search_71 (lv_at hl 4 rfl) ?_
              refine pu_go (va_runV (As := [.long (lN (mE (Zs d)))]) (rest := [.ref (ad 14)]) ⟨hx, hb, hml, hown, hts⟩ (c_X7_placeOf l dC dI (mW ad cI cJ cB th n t kp ma my rk G F1 T1 M1 WG GO Y1 V1 AT1 NX1) [(cI, .int), (cJ, .long), (cB, .byte)] (ad 0) _ rfl (ad 13) (ad 14) cJ cB Y1 V1 rfl rfl rfl rfl rfl rfl (mE (Zs d)) i0 hzx hTI1.1 hTI1.2.1 hgo0 hst0) (cwV 1 hts gX7_search_X7_placeOf rfl rfl rfl (by decide +kernel) ⟨Nat.le_of_ble_eq_true rfl, Nat.le_of_ble_eq_true rfl⟩) ⟨fun a U g mk q => ⟨q.1, q.2.1, va_K.moved (u := U) (U := U.calling g mk a) (Vm.Alike.refl U.vm) q.2.2⟩, va_recv hK hP (ci := 6) (q0 := 0) rfl rfl, fun U hU hW => ⟨rfl, by rw [hU]; exact hP, va_K.moved hW.alike hK⟩⟩ rfl rfl hl.1 rfl (lv_room (Nat.le_of_ble_eq_true rfl)) dX7_search_73 ⟨Nat.le_refl _, Nat.le_refl _⟩) ?_
              refine wk_bald hx hb hK hP 8 2 rfl rfl (⟨hpl, by omega⟩) dX7_search_76 ?_
              refine lv_iload hx hb dX7_search_77 (lv_at hl 5 rfl) ?_
              refine wk_icmp_gt (tgt := 86) hx hb (by omega) (by omega) dX7_search_79 (by decide) (fun c_79 => ?_) (fun c_79 => ?_)
              · refine lv_iconst (v := nI 0) hx hb dX7_search_86 (by decide +kernel) ?_
                exact cut_87 0 _ _ _ _ _ _ ls _ _ (by decide) (fun q => absurd q (by decide)) (fun _ => tI_hit hn0.2 ht0.2 hTI1 hnd.1 hpl hst0 c_79) (rfl) (rfl) (rfl) (rfl) (rfl) (rfl) (lv_sub hl [0, 1, 2, 3, 4, 5] rfl) (hP) (hD) hS
              · refine lv_iconst (v := nI 1) hx hb dX7_search_82 (by decide +kernel) ?_
                refine lv_goto (tgt := 87) hx hb dX7_search_83 (by decide) ?_
                exact cut_87 1 _ _ _ _ _ _ ls _ _ (by decide) (fun _ => by omega) (fun q => absurd q (by decide)) (rfl) (rfl) (rfl) (rfl) (rfl) (rfl) (lv_sub hl [0, 1, 2, 3, 4, 5] rfl) (hP) (hD) hS
        refine lv_aload_n hx hb dX7_search_26 rfl (lv_at hl 2 rfl) ?_
        refine va_get (D := (dC, dI)) (ci := 6) (v := .ref (ad 16)) (C := RX7) (T := TX7) (N := 17) hx hb hts hinX7 hown hK hP 0 rfl rfl 16 (by decide) (hts (.fieldLink RX7 40 "ReshuffleSearchModel" "next" "[I") (by decide +kernel)) (fun _ h9 => h9) rfl dX7_search_27 ?_
        refine lv_iload_n hx hb dX7_search_30 rfl (lv_at hl 5 rfl) ?_
        refine wk_iald hx hb hK hP 10 0 rfl rfl (by omega) dX7_search_31 ?_
        refine wk_if_ne (tgt := 52) hx hb (by omega) dX7_search_32 (by decide) (fun c_32 => ?_) (fun c_32 => ?_)
        · exact cut_52 _ _ _ _ _ ls _ _ ((htop.2 (by omega)).1) (rfl) (rfl) (rfl) (rfl) (rfl) (lv_sub hl [2, 3, 4, 5, 1, 0] rfl) (hP) (hD) hS
        · refine lv_aload_n hx hb dX7_search_35 rfl (lv_at hl 2 rfl) ?_
          refine lv_iload_n hx hb dX7_search_36 rfl (lv_at hl 3 rfl) ?_
          refine lv_lload hx hb dX7_search_37 (lv_at hl 1 rfl) ?_
          refine pu_go (va_runV (As := [.int (nI m0), .long (lN (mE (Zs d)))]) (rest := []) ⟨hx, hb, hml, hown, hts⟩ (c_X7_isDone l dC dI (mW ad cI cJ cB th n t kp ma my rk G F1 T1 M1 WG GO Y1 V1 AT1 NX1) [(cI, .int), (cJ, .long), (cB, .byte)] (ad 0) _ rfl (mE (Zs d)) m0 (by first | omega | assumption) (by first | omega | assumption)) (cwV 2 hts gX7_search_X7_isDone rfl rfl rfl (by decide +kernel) ⟨Nat.le_of_ble_eq_true rfl, Nat.le_of_ble_eq_true rfl⟩) ⟨fun a U g mk q => ⟨q.1, q.2.1, va_K.moved (u := U) (U := U.calling g mk a) (Vm.Alike.refl U.vm) q.2.2⟩, va_recv hK hP (ci := 6) (q0 := 0) rfl rfl, fun U hU hW => ⟨rfl, by rw [hU]; exact hP, va_K.moved hW.alike hK⟩⟩ rfl rfl hl.1 rfl (lv_room (Nat.le_of_ble_eq_true rfl)) dX7_search_39 ⟨Nat.le_refl _, Nat.le_refl _⟩) ?_
          refine wk_bn_eq (tgt := 52) hx hb dX7_search_42 (by decide) (fun c_42 => ?_) (fun c_42 => ?_)
          · exact cut_52 _ _ _ _ _ ls _ _ (fun q => c_42 ((done_iff hnd.1 ht0.2 hnd.2.2.1).mpr q)) (rfl) (rfl) (rfl) (rfl) (rfl) (lv_sub hl [2, 3, 4, 5, 1, 0] rfl) (hP) (hD) hS
          · refine lv_aload_n hx hb dX7_search_45 rfl (lv_at hl 2 rfl) ?_
            refine lv_iload_n hx hb dX7_search_46 rfl (lv_at hl 5 rfl) ?_
            refine va_put (D := (dC, dI)) (ci := 6) (v := .int (nI d)) (ty := .int) (C := RX7) (T := TX7) (N := 17) hx hb hts hinX7 tyX7 tyX7_ok nmX7 hown hK hP hD hS 0 rfl rfl 6 (by decide) (hts (.fieldLink RX7 108 "ReshuffleSearchModel" "many" "I") (by decide +kernel)) (fun _ h9 => h9) rfl (by decide +kernel) (rfl) (rfl) (Nat.le_of_ble_eq_true rfl) dX7_search_47 (fun H locs hP hD hS => ?_)
            have hP : va_P (dC, dI) vwCl (mW ad cI cJ cB th n t kp ma d rk G F1 T1 M1 WG GO Y1 V1 AT1 NX1) H := hP
            have hD : va_D A (mW ad cI cJ cB th n t kp ma d rk G F1 T1 M1 WG GO Y1 V1 AT1 NX1) := hD
            refine lv_iconst (v := nI 1) hx hb dX7_search_50 (by decide +kernel) ?_
            exact W.zret hx hb hr (by decide +kernel) (fun t9 ht hW => ⟨some (.int (nI 1)), (mW ad cI cJ cB th n t kp ma d rk G F1 T1 M1 WG GO Y1 V1 AT1 NX1), rfl, ⟨F1, T1, M1, Y1, V1, AT1, NX1, d, rfl, hTI1, hA0, hFT1, Or.inr ⟨rfl, by obtain ⟨w, a, b, c⟩ := dI_done hdI ((done_iff hnd.1 ht0.2 hnd.2.2.1).mp c_42); exact ⟨w, a, b.symm, c⟩⟩⟩, by rw [ht]; exact hP, hD, hS.F ht⟩) hS.2.2 dX7_search_51
  exact cut_9 ((mu (upN NX 0 0) 1) + 1) 1 (fun _ => Rt) AT (upN NX 0 0) F T M Y V _ _ _ ls _ _ (dI_0 hR1 hR2 hR3 hR4) (hTI) (hR4) (hFT) (Nat.lt_succ_self _) (rfl) (rfl) (by decide +kernel) (lv_sub hl [1, 2, 3, 0] rfl) (hP) (hD) hS
