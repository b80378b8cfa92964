/-- the reference's source stack -/
def msrc (x t : Nat) : Nat → Nat
  | 0 => 0
  | k + 1 => if mabv x (k + 1) t < mabv x (msrc x t k) t then k + 1 else msrc x t k
theorem msrc_s (x t k : Nat) : msrc x t (k + 1) = if mabv x (k + 1) t < mabv x (msrc x t k) t then k + 1 else msrc x t k := rfl
theorem msrc_le (x t : Nat) : ∀ k, msrc x t k ≤ k
  | 0 => Nat.le_refl 0
  | k + 1 => by
    have := msrc_le x t k
    rw [msrc_s]
    split <;> omega
theorem mabv_le (x s t : Nat) : mabv x s t ≤ 9 := mab_le _ _ _ _ 5 0 (by omega)
def mrl (n t : Nat) : Nat → Nat → Nat → Option (Option Nat)
  | 0, _, _ => none
  | f + 1, made, x => if x = 0 then some (some made) else if mht x (msrc x t (n - 1)) t = 0 then none else
    match mtgt x (msrc x t (n - 1)) (yr x (4 * msrc x t (n - 1) + (mht x (msrc x t (n - 1)) t - 1))) n t with
    | none => some none
    | some q => mrl n t f (made + 1) (mleft n t (mmv x (msrc x t (n - 1)) q t))
theorem mrl_s (n t f made x : Nat) : mrl n t (f + 1) made x = if x = 0 then some (some made) else if mht x (msrc x t (n - 1)) t = 0 then none else
    match mtgt x (msrc x t (n - 1)) (yr x (4 * msrc x t (n - 1) + (mht x (msrc x t (n - 1)) t - 1))) n t with
    | none => some none
    | some q => mrl n t f (made + 1) (mleft n t (mmv x (msrc x t (n - 1)) q t)) := rfl
theorem mtg_nf (x fr b t : Nat) {n : Nat} : ∀ i, i ≤ n → (∀ q, (mtg x fr b n t i).1 = some q → mht x q t ≠ t ∧ q ≠ fr) ∧ ∀ q, (mtg x fr b n t i).2 = some q → mht x q t ≠ t ∧ q ≠ fr
  | 0, _ => ⟨fun _ h => (nomatch h), fun _ h => (nomatch h)⟩
  | i + 1, hi => by
    have ih := mtg_nf x fr b t i (Nat.le_of_succ_le hi)
    rw [mtg_s]
    split
    · exact ih
    · next h =>
      have h' : mht x (n - 1 - i) t ≠ t ∧ n - 1 - i ≠ fr := ⟨fun q => h (Or.inr q), fun q => h (Or.inl q)⟩
      refine ⟨?_, ?_⟩
      · unfold mfit
        split
        · intro q h2; cases h2; exact h'
        · exact ih.1
      · unfold mopn
        split
        · intro q h2; cases h2; exact h'
        · exact ih.2
theorem mtgt_ok {x fr b n t q : Nat} (h : mtgt x fr b n t = some q) : q < n ∧ mht x q t < t ∧ q ≠ fr := by
  have h1 := mtg_ok x fr b t (n := n) n (Nat.le_refl n)
  have h2 := mtg_nf x fr b t (n := n) n (Nat.le_refl n)
  have h3 := mht_le x q t
  unfold mtgt at h
  split at h
  · have := (h2.2 q h).1
    exact ⟨h1.2 q h, by omega, (h2.2 q h).2⟩
  · have := (h2.1 q h).1
    exact ⟨h1.1 q h, by omega, (h2.1 q h).2⟩
set_option maxHeartbeats 4000000 in
set_option maxRecDepth 100000 in
theorem c_X7_rule (l : Launch) (dC : Nat → ClassId) (dI : Nat → Nat → Nat) (ad : Nat → Nat) (cI cJ cB : ClassId) (th n t kp ma my rk : Nat) (G F T M WG GO Y V AT NX : Nat → Nat) (hn0 : 2 ≤ n ∧ n ≤ 4) (ht0 : 2 ≤ t ∧ t ≤ 4) (hG : ∀ j, G j < 2147483648) (hGO : ∀ j, GO j < 2147483648) (hR : (nwr G GO 20).1 ≤ 6) (ans : Option Nat) (hans : mrl n t 100 0 (mleft n t (nwy G (nwr G GO 20).2 (nwr G GO 20).1 16)) = some ans)  (sz : Nat) : Met l yX7_rule wsX7_rule ({ frames := 3, cells := 0, slots := 0, locals := 76 }) (va_Pc [.ref (ad 0)] (wr_P (dC, dI) [(cI, .int), (cJ, .long), (cB, .byte)] (mW ad cI cJ cB th n t kp ma my rk G F T M WG GO Y V AT NX) sz)) (wr_Q (dC, dI) (va_A (mW ad cI cJ cB th n t kp ma my rk G F T M WG GO Y V AT NX) sz) (fun r W1 => r = some (.int (oN ans)) ∧ W1 = (mW ad cI cJ cB 0 n t kp ma my ((nwr G GO 20).1) G F T M WG ((nwr G GO 20).2) Y V AT NX))) 0 0 (va_A (mW ad cI cJ cB th n t kp ma my rk G F T M WG GO Y V AT NX) sz) := by
  refine Met.ofW (cc := cX7_rule) (maxL := 6) (ret := (some .int)) (by decide) rfl ?_
  intro p e s m args below meth c s₁ B hml hv
  obtain ⟨rfl, hsz, hP, hK, hD0⟩ := hv
  have hx := B.exec
  have hb := B.bytes
  have hr := B.returns
  have hts := atoms_spec (ws := wsX7_rule) B.pre
  have hown : s.vm.findClass RX7 = some m.cls := findClass_of_methodNamed B.named
  have hlocks := B.notSynchronized
  have hinX7 : ∀ w ∈ u_ws RX7 TX7 17, w ∈ wsX7_rule := by decide +kernel
  subst hsz
  have hD := hD0.self (sz := s.heap.size)
  generalize hAe : va_A (mW ad cI cJ cB th n t kp ma my rk G F T M WG GO Y V AT NX) s.heap.size = A at hD ⊢
  have hA : ∀ q : Nat, s.heap.size ≤ q → A q := fun q h => by rw [← hAe]; exact Or.inr h
  have hS : va_S A s.heap s.heap [] := va_S.rf
  have hl := lv_entry ([.ref (ad 0)]) (n := 6) (Nat.le_of_ble_eq_true rfl)
  rw [lg_entry_eq]
  generalize (lg_sl ([.ref (ad 0)]) ++ List.replicate (6 - (lg_sl ([.ref (ad 0)])).length) Slot.unset).toArray = ls at hl ⊢
  have hl : lv_has ls 6 [(0, .ref (ad 0))] := hl
  have hq0 := nwy_48 (G := G) (GO := (nwr G GO 20).2) hR
  have hq00 := mleft_le n t _ (nwy G (nwr G GO 20).2 (nwr G GO 20).1 16) (Nat.lt_succ_self _)
  refine lv_aload_n hx hb dX7_rule_0 rfl (lv_at hl 0 rfl) ?_
  refine lv_iconst (v := nI 0) hx hb dX7_rule_1 (by decide +kernel) ?_
  refine va_put (D := (dC, dI)) (ci := 6) (v := .int (nI 0)) (ty := .int) (C := RX7) (T := TX7) (N := 17) hx hb hts hinX7 tyX7 tyX7_ok nmX7 hown hK hP hD hS 0 rfl rfl 0 (by decide) (hts (.fieldLink RX7 50 "ReshuffleSearchModel" "thrown" "I") (by decide +kernel)) (fun _ h9 => h9) rfl (by decide +kernel) (rfl) (rfl) (Nat.le_of_ble_eq_true rfl) dX7_rule_2 (fun H locs hP hD hS => ?_)
  have hP : va_P (dC, dI) vwCl (mW ad cI cJ cB 0 n t kp ma my rk G F T M WG GO Y V AT NX) H := hP
  have hD : va_D A (mW ad cI cJ cB 0 n t kp ma my rk G F T M WG GO Y V AT NX) := hD
  refine lv_aload_n hx hb dX7_rule_5 rfl (lv_at hl 0 rfl) ?_
  refine lv_aload_n hx hb dX7_rule_6 rfl (lv_at hl 0 rfl) ?_
  have hFc := va_free (wc := (mW ad cI cJ cB 0 n t kp ma my rk G F T M WG GO Y V AT NX)) hD hS hA [0, 1, 2, 3, 4, 5, 6, 7, 8, 9, 10] rfl
  refine wr_go (va_runV (As := []) (rest := [.ref (ad 0)]) ⟨hx, hb, hml, hown, hts⟩ (c_X7_now l dC dI ad cI cJ cB 0 n t kp ma my rk G F T M WG GO Y V AT NX hG hGO hR H.size) (cwV 0 hts gX7_rule_X7_now rfl rfl rfl (by decide +kernel) ⟨Nat.le_of_ble_eq_true rfl, Nat.le_of_ble_eq_true rfl⟩) ⟨wr_blind, va_recv hK hP (ci := 6) (q0 := 0) rfl rfl, fun U hU hW => ⟨rfl, by rw [hU], by rw [hU]; exact hP, va_K.moved hW.alike hK, hD.weaken (fun _ _ _ _ => trivial)⟩⟩ rfl rfl hl.1 rfl (lv_room (Nat.le_of_ble_eq_true rfl)) dX7_rule_7 ⟨Nat.le_refl _, Nat.le_refl _⟩) hS hFc hFc (fun r9 W9 H locs hpost hP hD9 hz9 hk9 hS => ?_)
  have hD := hD9.weaken (fun _ _ _ h => hFc _ h)
  obtain ⟨rfl, rfl⟩ := hpost
  have hP : va_P (dC, dI) vwCl (mW ad cI cJ cB 0 n t kp ma my ((nwr G GO 20).1) G F T M WG ((nwr G GO 20).2) Y V AT NX) H := hP
  have hD : va_D A (mW ad cI cJ cB 0 n t kp ma my ((nwr G GO 20).1) G F T M WG ((nwr G GO 20).2) Y V AT NX) := hD
  refine W.eq (g2 := F0 m 10 ls [.long (lN (nwy G (nwr G GO 20).2 (nwr G GO 20).1 16)), .ref (ad 0)]) rfl ?_
  refine pu_go (va_runV (As := [.long (lN (nwy G (nwr G GO 20).2 (nwr G GO 20).1 16))]) (rest := []) ⟨hx, hb, hml, hown, hts⟩ (c_X7_left l dC dI (mW ad cI cJ cB 0 n t kp ma my ((nwr G GO 20).1) G F T M WG ((nwr G GO 20).2) Y V AT NX) [(cI, .int), (cJ, .long), (cB, .byte)] (ad 0) _ rfl n rfl hn0 t rfl ht0 (nwy G (nwr G GO 20).2 (nwr G GO 20).1 16) (by first | omega | assumption)) (cwV 1 hts gX7_rule_X7_left rfl rfl rfl (by decide +kernel) ⟨Nat.le_of_ble_eq_true rfl, Nat.le_of_ble_eq_true rfl⟩) ⟨fun a U g mk q => ⟨q.1, q.2.1, va_K.moved (u := U) (U := U.calling g mk a) (Vm.Alike.refl U.vm) q.2.2⟩, va_recv hK hP (ci := 6) (q0 := 0) rfl rfl, fun U hU hW => ⟨rfl, by rw [hU]; exact hP, va_K.moved hW.alike hK⟩⟩ rfl rfl hl.1 rfl (lv_room (Nat.le_of_ble_eq_true rfl)) dX7_rule_10 ⟨Nat.le_refl _, Nat.le_refl _⟩) ?_
  refine lv_lstore_n (lv' := [(1, .long (lN (mleft n t (nwy G (nwr G GO 20).2 (nwr G GO 20).1 16)))), (0, .ref (ad 0))]) hx hb dX7_rule_13 rfl hl (by decide) rfl (fun ls hl => ?_)
  refine lv_iconst (v := nI 0) hx hb dX7_rule_14 (by decide +kernel) ?_
  refine lv_istore_n (lv' := [(3, .int (nI 0)), (1, .long (lN (mleft n t (nwy G (nwr G GO 20).2 (nwr G GO 20).1 16)))), (0, .ref (ad 0))]) hx hb dX7_rule_15 rfl hl (by decide) rfl (fun ls hl => ?_)
  have cut_16 : ∀ (n_16 : Nat) (k : Nat) (z : Nat) (v16_1 : Int64) (v16_3 : Int32) (ls : Array Slot) (H : Heap) (locs : List Loc) (hk : k ≤ 100) (hz : z < 2 ^ 48) (he : mrl n t (100 - k) k z = some ans) (hn_16 : 100 - k < n_16) (_ : v16_1 = lN z) (_ : v16_3 = nI k) (_ : lv_has ls 6 [(0, .ref (ad 0)), (1, .long v16_1), (3, .int v16_3)]) (_ : va_P (dC, dI) vwCl (mW ad cI cJ cB 0 n t kp ma my ((nwr G GO 20).1) G F T M WG ((nwr G GO 20).2) Y V AT NX) H) (_ : va_D A (mW ad cI cJ cB 0 n t kp ma my ((nwr G GO 20).1) G F T M WG ((nwr G GO 20).2) Y V AT NX)) (_ : va_S A s.heap H locs), W p l e (headSpec wsX7_rule ({ frames := 3, cells := 0, slots := 0, locals := 76 })).room s m ([.ref (ad 0)] : List Value).toArray below meth c H locs 0 0 (MQ below (wr_Q (dC, dI) A (fun r W1 => r = some (.int (oN ans)) ∧ W1 = (mW ad cI cJ cB 0 n t kp ma my ((nwr G GO 20).1) G F T M WG ((nwr G GO 20).2) Y V AT NX))) ([.ref (ad 0)] : List Value).toArray s 0 0 A) (F0 m 16 ls []) := by
    intro n_16
    induction n_16 with
    | zero => intros; omega
    | succ n_16 ih_16 =>
      rintro k z v16_1 v16_3 ls H locs hk hz he hn_16 rfl rfl hl hP hD hS
      have hk1 : k < 100 := by
        rcases Nat.lt_or_ge k 100 with q | q
        · exact q
        · rw [show 100 - k = 0 by omega] at he; exact nomatch he
      rw [show 100 - k = (100 - (k + 1)) + 1 by omega, mrl_s] at he
      have hm9 := msrc_le z t (n - 1)
      refine lv_lload_n hx hb dX7_rule_16 rfl (lv_at hl 1 rfl) ?_
      refine lv_lconst (v := lN 0) hx hb dX7_rule_17 (by decide +kernel) ?_
      refine wk_lcmp_eq (tgt := 134) hx hb (by omega) (by omega) dX7_rule_18 dX7_rule_19 (by decide) (fun c_19 => ?_) (fun c_19 => ?_)
      · refine lv_iload_n hx hb dX7_rule_134 rfl (lv_at hl 2 rfl) ?_
        exact W.iret hx hb hr (fun t9 ht hW => ⟨some (.int (nI k)), (mW ad cI cJ cB 0 n t kp ma my ((nwr G GO 20).1) G F T M WG ((nwr G GO 20).2) Y V AT NX), rfl, ⟨by rw [if_pos c_19] at he; cases he; rfl, rfl⟩, by rw [ht]; exact hP, hD, hS.F ht⟩) hS.2.2 dX7_rule_135
      · refine lv_iconst (v := nI 0) hx hb dX7_rule_22 (by decide +kernel) ?_
        refine lv_istore (lv' := [(4, .int (nI 0)), (0, .ref (ad 0)), (1, .long (lN z)), (3, .int (nI k))]) hx hb dX7_rule_23 hl (by decide) rfl (fun ls hl => ?_)
        refine lv_iconst (v := nI 1) hx hb dX7_rule_25 (by decide +kernel) ?_
        refine lv_istore (lv' := [(5, .int (nI 1)), (4, .int (nI 0)), (0, .ref (ad 0)), (1, .long (lN z)), (3, .int (nI k))]) hx hb dX7_rule_26 hl (by decide) rfl (fun ls hl => ?_)
        have cut_28 : ∀ (n_28 : Nat) (j : Nat) (v28_1 : Int64) (v28_3 : Int32) (v28_4 : Int32) (v28_5 : Int32) (ls : Array Slot) (H : Heap) (locs : List Loc) (hj : j ≤ n - 1) (hn_28 : n - 1 - j < n_28) (_ : v28_1 = lN z) (_ : v28_3 = nI k) (_ : v28_4 = nI (msrc z t j)) (_ : v28_5 = nI (j + 1)) (_ : lv_has ls 6 [(0, .ref (ad 0)), (1, .long v28_1), (3, .int v28_3), (4, .int v28_4), (5, .int v28_5)]) (_ : va_P (dC, dI) vwCl (mW ad cI cJ cB 0 n t kp ma my ((nwr G GO 20).1) G F T M WG ((nwr G GO 20).2) Y V AT NX) H) (_ : va_D A (mW ad cI cJ cB 0 n t kp ma my ((nwr G GO 20).1) G F T M WG ((nwr G GO 20).2) Y V AT NX)) (_ : va_S A s.heap H locs), W p l e (headSpec wsX7_rule ({ frames := 3, cells := 0, slots := 0, locals := 76 })).room s m ([.ref (ad 0)] : List Value).toArray below meth c H locs 0 0 (MQ below (wr_Q (dC, dI) A (fun r W1 => r = some (.int (oN ans)) ∧ W1 = (mW ad cI cJ cB 0 n t kp ma my ((nwr G GO 20).1) G F T M WG ((nwr G GO 20).2) Y V AT NX))) ([.ref (ad 0)] : List Value).toArray s 0 0 A) (F0 m 28 ls []) := by
          intro n_28
          induction n_28 with
          | zero => intros; omega
          | succ n_28 ih_28 =>
            rintro j v28_1 v28_3 v28_4 v28_5 ls H locs hj hn_28 rfl rfl rfl rfl hl hP hD hS
            have hq1 := msrc_le z t j
            have hq2 := mabv_le z (j + 1) t
            have hq3 := mabv_le z (msrc z t j) t
            refine lv_iload hx hb dX7_rule_28 (lv_at hl 4 rfl) ?_
            refine lv_aload_n hx hb dX7_rule_30 rfl (lv_at hl 0 rfl) ?_
            refine va_get (D := (dC, dI)) (ci := 6) (v := .int (nI n)) (C := RX7) (T := TX7) (N := 17) hx hb hts hinX7 hown hK hP 0 rfl rfl 1 (by decide) (hts (.fieldLink RX7 43 "ReshuffleSearchModel" "stacks" "I") (by decide +kernel)) (fun _ h9 => h9) rfl dX7_rule_31 ?_
            refine wk_icmp_ge (tgt := 69) hx hb (by omega) (by omega) dX7_rule_34 (by decide) (fun c_34 => ?_) (fun c_34 => ?_)
            · have hjn : j = n - 1 := by omega
              rw [hjn] at hl
              have hne : mht z (msrc z t (n - 1)) t ≠ 0 := fun q => by rw [if_neg c_19, if_pos q] at he; exact nomatch he
              have hh9 := mht_le z (msrc z t (n - 1)) t
              have hb9 := yr_lt z (4 * (msrc z t (n - 1)) + (mht z (msrc z t (n - 1)) t - 1))
              have hl : lv_has ls 6 [(0, .ref (ad 0)), (1, .long (lN z)), (3, .int (nI k)), (4, .int (nI (msrc z t (n - 1)))), (5, .int (nI (n - 1 + 1)))] := by exact hl
              refine lv_aload_n hx hb dX7_rule_69 rfl (lv_at hl 0 rfl) ?_
              refine lv_lload_n hx hb dX7_rule_70 rfl (lv_at hl 1 rfl) ?_
              refine lv_iload hx hb dX7_rule_71 (lv_at hl 3 rfl) ?_
              refine lv_lload_n hx hb dX7_rule_73 rfl (lv_at hl 1 rfl) ?_
              refine lv_iload hx hb dX7_rule_74 (lv_at hl 3 rfl) ?_
              refine lv_aload_n hx hb dX7_rule_76 rfl (lv_at hl 0 rfl) ?_
              refine lv_lload_n hx hb dX7_rule_77 rfl (lv_at hl 1 rfl) ?_
              refine lv_iload hx hb dX7_rule_78 (lv_at hl 3 rfl) ?_
              refine pu_go (va_runV (As := [.long (lN z), .int (nI (msrc z t (n - 1)))]) (rest := [.int (nI (msrc z t (n - 1))), .long (lN z), .int (nI (msrc z t (n - 1))), .long (lN z), .ref (ad 0)]) ⟨hx, hb, hml, hown, hts⟩ (c_X7_height l dC dI (mW ad cI cJ cB 0 n t kp ma my ((nwr G GO 20).1) G F T M WG ((nwr G GO 20).2) Y V AT NX) [(cI, .int), (cJ, .long), (cB, .byte)] (ad 0) _ rfl t rfl ht0 z (msrc z t (n - 1)) (by first | omega | assumption) (by first | omega | assumption)) (cwV 2 hts gX7_rule_X7_height rfl rfl rfl (by decide +kernel) ⟨Nat.le_of_ble_eq_true rfl, Nat.le_of_ble_eq_true rfl⟩) ⟨fun a U g mk q => ⟨q.1, q.2.1, va_K.moved (u := U) (U := U.calling g mk a) (Vm.Alike.refl U.vm) q.2.2⟩, va_recv hK hP (ci := 6) (q0 := 0) rfl rfl, fun U hU hW => ⟨rfl, by rw [hU]; exact hP, va_K.moved hW.alike hK⟩⟩ rfl rfl hl.1 rfl (lv_room (Nat.le_of_ble_eq_true rfl)) dX7_rule_80 ⟨Nat.le_refl _, Nat.le_refl _⟩) ?_
              refine wk_if_le (tgt := 98) hx hb (by omega) dX7_rule_83 (by decide) (fun c_83 => ?_) (fun c_83 => ?_)
              · exact (by exfalso; omega)
              · refine lv_aload_n hx hb dX7_rule_86 rfl (lv_at hl 0 rfl) ?_
                refine lv_lload_n hx hb dX7_rule_87 rfl (lv_at hl 1 rfl) ?_
                refine lv_iload hx hb dX7_rule_88 (lv_at hl 3 rfl) ?_
                refine pu_go (va_runV (As := [.long (lN z), .int (nI (msrc z t (n - 1)))]) (rest := [.int (nI (msrc z t (n - 1))), .long (lN z), .int (nI (msrc z t (n - 1))), .long (lN z), .ref (ad 0)]) ⟨hx, hb, hml, hown, hts⟩ (c_X7_height l dC dI (mW ad cI cJ cB 0 n t kp ma my ((nwr G GO 20).1) G F T M WG ((nwr G GO 20).2) Y V AT NX) [(cI, .int), (cJ, .long), (cB, .byte)] (ad 0) _ rfl t rfl ht0 z (msrc z t (n - 1)) (by first | omega | assumption) (by first | omega | assumption)) (cwV 2 hts gX7_rule_X7_height rfl rfl rfl (by decide +kernel) ⟨Nat.le_of_ble_eq_true rfl, Nat.le_of_ble_eq_true rfl⟩) ⟨fun a U g mk q => ⟨q.1, q.2.1, va_K.moved (u := U) (U := U.calling g mk a) (Vm.Alike.refl U.vm) q.2.2⟩, va_recv hK hP (ci := 6) (q0 := 0) rfl rfl, fun U hU hW => ⟨rfl, by rw [hU]; exact hP, va_K.moved hW.alike hK⟩⟩ rfl rfl hl.1 rfl (lv_room (Nat.le_of_ble_eq_true rfl)) dX7_rule_90 ⟨Nat.le_refl _, Nat.le_refl _⟩) ?_
                refine lv_iconst (v := nI 1) hx hb dX7_rule_93 (by decide +kernel) ?_
                refine wk_isub hx hb (by omega) dX7_rule_94 ?_
                refine lv_goto (tgt := 99) hx hb dX7_rule_95 (by decide) ?_
                refine pu_go (va_runS (As := [.long (lN z), .int (nI (msrc z t (n - 1))), .int (nI ((mht z (msrc z t (n - 1)) t) - 1))]) (rest := [.int (nI (msrc z t (n - 1))), .long (lN z), .ref (ad 0)]) ⟨hx, hb, hml, hown, hts⟩ (c_X7_box l z (msrc z t (n - 1)) ((mht z (msrc z t (n - 1)) t) - 1) (by first | omega | assumption) (by first | omega | assumption)) (va_cwS 3 hts gX7_rule_X7_box rfl rfl rfl (by decide +kernel) ⟨Nat.le_of_ble_eq_true rfl, Nat.le_of_ble_eq_true rfl⟩) ⟨fun _ _ _ _ q => q, fun _ _ _ => ⟨rfl, trivial⟩⟩ rfl rfl hl.1 rfl (lv_room (Nat.le_of_ble_eq_true rfl)) dX7_rule_99 ⟨Nat.le_refl _, Nat.le_refl _⟩) ?_
                refine pu_go (va_runV (As := [.long (lN z), .int (nI (msrc z t (n - 1))), .int (nI (yr z (4 * (msrc z t (n - 1)) + ((mht z (msrc z t (n - 1)) t) - 1))))]) (rest := []) ⟨hx, hb, hml, hown, hts⟩ (c_X7_target l dC dI (mW ad cI cJ cB 0 n t kp ma my ((nwr G GO 20).1) G F T M WG ((nwr G GO 20).2) Y V AT NX) [(cI, .int), (cJ, .long), (cB, .byte)] (ad 0) _ rfl n rfl hn0 t rfl ht0 z (msrc z t (n - 1)) (yr z (4 * (msrc z t (n - 1)) + ((mht z (msrc z t (n - 1)) t) - 1))) (by first | omega | assumption) (by first | omega | assumption) (by first | omega | assumption)) (cwV 3 hts gX7_rule_X7_target rfl rfl rfl (by decide +kernel) ⟨Nat.le_of_ble_eq_true rfl, Nat.le_of_ble_eq_true rfl⟩) ⟨fun a U g mk q => ⟨q.1, q.2.1, va_K.moved (u := U) (U := U.calling g mk a) (Vm.Alike.refl U.vm) q.2.2⟩, va_recv hK hP (ci := 6) (q0 := 0) rfl rfl, fun U hU hW => ⟨rfl, by rw [hU]; exact hP, va_K.moved hW.alike hK⟩⟩ rfl rfl hl.1 rfl (lv_room (Nat.le_of_ble_eq_true rfl)) dX7_rule_102 ⟨Nat.le_refl _, Nat.le_refl _⟩) ?_
                refine lv_istore (lv' := [(5, .int (oN (mtgt z (msrc z t (n - 1)) (yr z (4 * (msrc z t (n - 1)) + ((mht z (msrc z t (n - 1)) t) - 1))) n t))), (0, .ref (ad 0)), (1, .long (lN z)), (3, .int (nI k)), (4, .int (nI (msrc z t (n - 1))))]) hx hb dX7_rule_105 hl (by decide) rfl (fun ls hl => ?_)
                refine lv_iload hx hb dX7_rule_107 (lv_at hl 0 rfl) ?_
                refine lv_if_ge (tgt := 114) hx hb dX7_rule_109 (by decide) (fun c_109 => ?_) (fun c_109 => ?_)
                · obtain ⟨q9, h9⟩ : ∃ q9, mtgt z (msrc z t (n - 1)) (yr z (4 * (msrc z t (n - 1)) + (mht z (msrc z t (n - 1)) t - 1))) n t = some q9 := by
                    cases h : mtgt z (msrc z t (n - 1)) (yr z (4 * (msrc z t (n - 1)) + (mht z (msrc z t (n - 1)) t - 1))) n t with
                    | none => rw [h] at c_109; exact absurd c_109 (by decide)
                    | some q9 => exact ⟨q9, rfl⟩
                  obtain ⟨hq9, hq8, hq7⟩ := mtgt_ok h9
                  have hmvl := mmv_lt (x := z) (a := msrc z t (n - 1)) (b := q9) (t := t) hz (by omega) (by omega) hq8
                  have hl : lv_has ls 6 [(5, .int (nI q9)), (0, .ref (ad 0)), (1, .long (lN z)), (3, .int (nI k)), (4, .int (nI (msrc z t (n - 1))))] := by rw [h9] at hl; exact hl
                  refine lv_aload_n hx hb dX7_rule_114 rfl (lv_at hl 1 rfl) ?_
                  refine lv_aload_n hx hb dX7_rule_115 rfl (lv_at hl 1 rfl) ?_
                  refine lv_lload_n hx hb dX7_rule_116 rfl (lv_at hl 2 rfl) ?_
                  refine lv_iload hx hb dX7_rule_117 (lv_at hl 4 rfl) ?_
                  refine lv_iload hx hb dX7_rule_119 (lv_at hl 0 rfl) ?_
                  refine pu_go (va_runV (As := [.long (lN z), .int (nI (msrc z t (n - 1))), .int (nI q9)]) (rest := [.ref (ad 0)]) ⟨hx, hb, hml, hown, hts⟩ (c_X7_moved l dC dI (mW ad cI cJ cB 0 n t kp ma my ((nwr G GO 20).1) G F T M WG ((nwr G GO 20).2) Y V AT NX) [(cI, .int), (cJ, .long), (cB, .byte)] (ad 0) _ rfl t rfl ht0 z (msrc z t (n - 1)) q9 (by first | omega | assumption) (by first | omega | assumption) (by first | omega | assumption) (by first | omega | assumption) (by first | omega | assumption)) (cwV 3 hts gX7_rule_X7_moved rfl rfl rfl (by decide +kernel) ⟨Nat.le_of_ble_eq_true rfl, Nat.le_of_ble_eq_true rfl⟩) ⟨fun a U g mk q => ⟨q.1, q.2.1, va_K.moved (u := U) (U := U.calling g mk a) (Vm.Alike.refl U.vm) q.2.2⟩, va_recv hK hP (ci := 6) (q0 := 0) rfl rfl, fun U hU hW => ⟨rfl, by rw [hU]; exact hP, va_K.moved hW.alike hK⟩⟩ rfl rfl hl.1 rfl (lv_room (Nat.le_of_ble_eq_true rfl)) dX7_rule_121 ⟨Nat.le_refl _, Nat.le_refl _⟩) ?_
                  refine pu_go (va_runV (As := [.long (lN (mmv z (msrc z t (n - 1)) q9 t))]) (rest := []) ⟨hx, hb, hml, hown, hts⟩ (c_X7_left l dC dI (mW ad cI cJ cB 0 n t kp ma my ((nwr G GO 20).1) G F T M WG ((nwr G GO 20).2) Y V AT NX) [(cI, .int), (cJ, .long), (cB, .byte)] (ad 0) _ rfl n rfl hn0 t rfl ht0 (mmv z (msrc z t (n - 1)) q9 t) (by first | omega | assumption)) (cwV 1 hts gX7_rule_X7_left rfl rfl rfl (by decide +kernel) ⟨Nat.le_of_ble_eq_true rfl, Nat.le_of_ble_eq_true rfl⟩) ⟨fun a U g mk q => ⟨q.1, q.2.1, va_K.moved (u := U) (U := U.calling g mk a) (Vm.Alike.refl U.vm) q.2.2⟩, va_recv hK hP (ci := 6) (q0 := 0) rfl rfl, fun U hU hW => ⟨rfl, by rw [hU]; exact hP, va_K.moved hW.alike hK⟩⟩ rfl rfl hl.1 rfl (lv_room (Nat.le_of_ble_eq_true rfl)) dX7_rule_124 ⟨Nat.le_refl _, Nat.le_refl _⟩) ?_
                  refine lv_lstore_n (lv' := [(1, .long (lN (mleft n t (mmv z (msrc z t (n - 1)) q9 t)))), (5, .int (nI q9)), (0, .ref (ad 0)), (3, .int (nI k)), (4, .int (nI (msrc z t (n - 1))))]) hx hb dX7_rule_127 rfl hl (by decide) rfl (fun ls hl => ?_)
                  refine lv_iinc (v := nI (k + 1)) (lv' := [(3, .int (nI (k + 1))), (1, .long (lN (mleft n t (mmv z (msrc z t (n - 1)) q9 t)))), (5, .int (nI q9)), (0, .ref (ad 0)), (4, .int (nI (msrc z t (n - 1))))]) hx hb dX7_rule_128 hl (k := 3) rfl (wk_inc _ 1 rfl) (by decide) rfl (fun ls hl => ?_)
                  refine lv_goto (tgt := 16) hx hb dX7_rule_131 (by decide) ?_
                  exact ih_16 (k + 1) (mleft n t (mmv z (msrc z t (n - 1)) q9 t)) _ _ ls _ _ (by omega) (by have := mleft_le n t _ (mmv z (msrc z t (n - 1)) q9 t) (Nat.lt_succ_self _); omega) (by rw [if_neg c_19, if_neg hne, h9] at he; exact he) (by omega) (rfl) (rfl) (lv_sub hl [3, 1, 0] rfl) (hP) (hD) hS
                · have h9 : mtgt z (msrc z t (n - 1)) (yr z (4 * (msrc z t (n - 1)) + (mht z (msrc z t (n - 1)) t - 1))) n t = none := by
                    cases h : mtgt z (msrc z t (n - 1)) (yr z (4 * (msrc z t (n - 1)) + (mht z (msrc z t (n - 1)) t - 1))) n t with
                    | none => rfl
                    | some q9 => rw [h] at c_109; exact absurd (nI_pos' (by have := (mtgt_ok h).1; omega)) c_109
                  refine lv_iconst (v := -1) hx hb dX7_rule_112 (by decide +kernel) ?_
                  exact W.iret hx hb hr (fun t9 ht hW => ⟨some (.int (-1)), (mW ad cI cJ cB 0 n t kp ma my ((nwr G GO 20).1) G F T M WG ((nwr G GO 20).2) Y V AT NX), rfl, ⟨by rw [if_neg c_19, if_neg hne, h9] at he; cases he; rfl, rfl⟩, by rw [ht]; exact hP, hD, hS.F ht⟩) hS.2.2 dX7_rule_113
            · have cut_61 : ∀ (v61_1 : Int64) (v61_3 : Int32) (v61_5 : Int32) (u61_0 : Int32) (ls : Array Slot) (H : Heap) (locs : List Loc) (_ : v61_1 = lN z) (_ : v61_3 = nI k) (_ : v61_5 = nI (j + 1)) (_ : u61_0 = nI (msrc z t (j + 1))) (_ : lv_has ls 6 [(0, .ref (ad 0)), (1, .long v61_1), (3, .int v61_3), (5, .int v61_5)]) (_ : va_P (dC, dI) vwCl (mW ad cI cJ cB 0 n t kp ma my ((nwr G GO 20).1) G F T M WG ((nwr G GO 20).2) Y V AT NX) H) (_ : va_D A (mW ad cI cJ cB 0 n t kp ma my ((nwr G GO 20).1) G F T M WG ((nwr G GO 20).2) Y V AT NX)) (_ : va_S A s.heap H locs), W p l e (headSpec wsX7_rule ({ frames := 3, cells := 0, slots := 0, locals := 76 })).room s m ([.ref (ad 0)] : List Value).toArray below meth c H locs 0 0 (MQ below (wr_Q (dC, dI) A (fun r W1 => r = some (.int (oN ans)) ∧ W1 = (mW ad cI cJ cB 0 n t kp ma my ((nwr G GO 20).1) G F T M WG ((nwr G GO 20).2) Y V AT NX))) ([.ref (ad 0)] : List Value).toArray s 0 0 A) (F0 m 61 ls [.int u61_0]) := by
                rintro v61_1 v61_3 v61_5 u61_0 ls H locs rfl rfl rfl rfl hl hP hD hS
                refine lv_istore (lv' := [(4, .int (nI (msrc z t (j + 1)))), (0, .ref (ad 0)), (1, .long (lN z)), (3, .int (nI k)), (5, .int (nI (j + 1)))]) hx hb dX7_rule_61 hl (by decide) rfl (fun ls hl => ?_)
                refine lv_iinc (v := nI ((j + 1) + 1)) (lv' := [(5, .int (nI ((j + 1) + 1))), (4, .int (nI (msrc z t (j + 1)))), (0, .ref (ad 0)), (1, .long (lN z)), (3, .int (nI k))]) hx hb dX7_rule_63 hl (k := 4) rfl (wk_inc _ 1 rfl) (by decide) rfl (fun ls hl => ?_)
                refine lv_goto (tgt := 28) hx hb dX7_rule_66 (by decide) ?_
                exact ih_28 (j + 1) _ _ _ _ ls _ _ (by omega) (by omega) (rfl) (rfl) (rfl) (rfl) (lv_sub hl [2, 3, 4, 1, 0] rfl) (hP) (hD) hS
              refine lv_aload_n hx hb dX7_rule_37 rfl (lv_at hl 0 rfl) ?_
              refine lv_lload_n hx hb dX7_rule_38 rfl (lv_at hl 1 rfl) ?_
              refine lv_iload hx hb dX7_rule_39 (lv_at hl 4 rfl) ?_
              refine pu_go (va_runV (As := [.long (lN z), .int (nI (j + 1))]) (rest := []) ⟨hx, hb, hml, hown, hts⟩ (c_X7_above l dC dI (mW ad cI cJ cB 0 n t kp ma my ((nwr G GO 20).1) G F T M WG ((nwr G GO 20).2) Y V AT NX) [(cI, .int), (cJ, .long), (cB, .byte)] (ad 0) _ rfl t rfl ht0 z (j + 1) (by first | omega | assumption) (by first | omega | assumption)) (cwV 2 hts gX7_rule_X7_above rfl rfl rfl (by decide +kernel) ⟨Nat.le_of_ble_eq_true rfl, Nat.le_of_ble_eq_true rfl⟩) ⟨fun a U g mk q => ⟨q.1, q.2.1, va_K.moved (u := U) (U := U.calling g mk a) (Vm.Alike.refl U.vm) q.2.2⟩, va_recv hK hP (ci := 6) (q0 := 0) rfl rfl, fun U hU hW => ⟨rfl, by rw [hU]; exact hP, va_K.moved hW.alike hK⟩⟩ rfl rfl hl.1 rfl (lv_room (Nat.le_of_ble_eq_true rfl)) dX7_rule_41 ⟨Nat.le_refl _, Nat.le_refl _⟩) ?_
              refine lv_aload_n hx hb dX7_rule_44 rfl (lv_at hl 0 rfl) ?_
              refine lv_lload_n hx hb dX7_rule_45 rfl (lv_at hl 1 rfl) ?_
              refine lv_iload hx hb dX7_rule_46 (lv_at hl 3 rfl) ?_
              refine pu_go (va_runV (As := [.long (lN z), .int (nI (msrc z t j))]) (rest := [.int (nI (mabv z (j + 1) t))]) ⟨hx, hb, hml, hown, hts⟩ (c_X7_above l dC dI (mW ad cI cJ cB 0 n t kp ma my ((nwr G GO 20).1) G F T M WG ((nwr G GO 20).2) Y V AT NX) [(cI, .int), (cJ, .long), (cB, .byte)] (ad 0) _ rfl t rfl ht0 z (msrc z t j) (by first | omega | assumption) (by first | omega | assumption)) (cwV 2 hts gX7_rule_X7_above rfl rfl rfl (by decide +kernel) ⟨Nat.le_of_ble_eq_true rfl, Nat.le_of_ble_eq_true rfl⟩) ⟨fun a U g mk q => ⟨q.1, q.2.1, va_K.moved (u := U) (U := U.calling g mk a) (Vm.Alike.refl U.vm) q.2.2⟩, va_recv hK hP (ci := 6) (q0 := 0) rfl rfl, fun U hU hW => ⟨rfl, by rw [hU]; exact hP, va_K.moved hW.alike hK⟩⟩ rfl rfl hl.1 rfl (lv_room (Nat.le_of_ble_eq_true rfl)) dX7_rule_48 ⟨Nat.le_refl _, Nat.le_refl _⟩) ?_
              refine wk_icmp_ge (tgt := 59) hx hb (by omega) (by omega) dX7_rule_51 (by decide) (fun c_51 => ?_) (fun c_51 => ?_)
              · refine lv_iload hx hb dX7_rule_59 (lv_at hl 3 rfl) ?_
                exact cut_61 _ _ _ _ ls _ _ (rfl) (rfl) (rfl) (by rw [msrc_s, if_neg (by omega)]) (lv_sub hl [0, 1, 2, 4] rfl) (hP) (hD) hS
              · refine lv_iload hx hb dX7_rule_54 (lv_at hl 4 rfl) ?_
                refine lv_goto (tgt := 61) hx hb dX7_rule_56 (by decide) ?_
                exact cut_61 _ _ _ _ ls _ _ (rfl) (rfl) (rfl) (by rw [msrc_s, if_pos c_51]) (lv_sub hl [0, 1, 2, 4] rfl) (hP) (hD) hS
        exact cut_28 ((n - 1) + 1) 0 _ _ _ _ ls _ _ (by omega) (by omega) (rfl) (rfl) (rfl) (rfl) (lv_sub hl [2, 3, 4, 1, 0] rfl) (hP) (hD) hS
  exact cut_16 (100 + 1) 0 (mleft n t (nwy G (nwr G GO 20).2 (nwr G GO 20).1 16)) _ _ ls _ _ (by omega) (by omega) (hans) (by omega) (rfl) (rfl) (lv_sub hl [2, 1, 0] rfl) (hP) (hD) hS
theorem ite_lt {c : Prop} [Decidable c] {a b m : Nat} (h1 : a < m) (h2 : b < m) : (if c then a else b) < m := by
  split
  · exact h1
  · exact h2
def mfp (ma n t : Nat) (F T : Nat → Nat) (y : Nat) : Nat → Nat
  | 0 => y
  | i + 1 => if ma = 2 then mmv (mfp ma n t F T y i) (F i) (T i) t else mleft n t (mmv (mfp ma n t F T y i) (F i) (T i) t)
def gfo (G GO : Nat → Nat) (y : Nat) : Nat → Nat → Nat
  | 0 => G
  | k + 1 => upN (gfo G GO y k) k (if 0 < yr y k then GO (yr y k) else 0)
theorem gfo_lt {G GO : Nat → Nat} {y : Nat} (h1 : ∀ j, G j < 2147483648) (h2 : ∀ j, GO j < 2147483648) : ∀ k j, gfo G GO y k j < 2147483648
  | 0, j => h1 j
  | k + 1, j => by
    have := gfo_lt (y := y) h1 h2 k j
    have := h2 (yr y k)
    show upN _ _ _ j < _
    unfold upN
    split
    · split <;> omega
    · assumption
def msame (kp : Nat) (G WG : Nat → Nat) (k : Nat) : Prop := kp ≠ 0 ∧ anb (fun j => decide (G j ≠ WG j)) k = false
set_option maxHeartbeats 4000000 in
set_option maxRecDepth 100000 in
theorem c_X7_follow (l : Launch) (dC : Nat → ClassId) (dI : Nat → Nat → Nat) (ad : Nat → Nat) (cI cJ cB : ClassId) (th n t kp ma my rk : Nat) (G F T M WG GO Y V AT NX : Nat → Nat) (hn0 : 2 ≤ n ∧ n ≤ 4) (ht0 : 2 ≤ t ∧ t ≤ 4) (hG : ∀ j, G j < 2147483648) (hGO : ∀ j, GO j < 2147483648) (hR : (nwr G GO 20).1 ≤ 6) (hWG : ∀ j, WG j < 2147483648) (hk0 : kp < 2) (hma : ma < 3) (hm0 : my ≤ 30) (hleg : kp ≠ 0 ∧ anb (fun j => decide (G j ≠ WG j)) 16 = false → ∀ i, i < my → F i < 4 ∧ T i < 4 ∧ mht (mfp ma n t F T (if ma = 2 then nwy G (nwr G GO 20).2 (nwr G GO 20).1 16 else mleft n t (nwy G (nwr G GO 20).2 (nwr G GO 20).1 16)) i) (F i) t ≠ 0 ∧ mht (mfp ma n t F T (if ma = 2 then nwy G (nwr G GO 20).2 (nwr G GO 20).1 16 else mleft n t (nwy G (nwr G GO 20).2 (nwr G GO 20).1 16)) i) (T i) t < t) (hle : kp ≠ 0 ∧ anb (fun j => decide (G j ≠ WG j)) 16 = false → bxs (gfo G (nwr G GO 20).2 (mfp ma n t F T (if ma = 2 then nwy G (nwr G GO 20).2 (nwr G GO 20).1 16 else mleft n t (nwy G (nwr G GO 20).2 (nwr G GO 20).1 16)) my) 16) 16 ≤ bxs G 16)  (sz : Nat) : Met l yX7_follow wsX7_follow ({ frames := 3, cells := 0, slots := 0, locals := 75 }) (va_Pc [.ref (ad 0)] (wr_P (dC, dI) [(cI, .int), (cJ, .long), (cB, .byte)] (mW ad cI cJ cB th n t kp ma my rk G F T M WG GO Y V AT NX) sz)) (wr_Q (dC, dI) (va_A (mW ad cI cJ cB th n t kp ma my rk G F T M WG GO Y V AT NX) sz) (fun r W1 => (¬ (kp ≠ 0 ∧ anb (fun j => decide (G j ≠ WG j)) 16 = false) ∧ r = some (.int (nI 0)) ∧ W1 = (mW ad cI cJ cB 1 n t kp ma my rk G F T M WG GO Y V AT NX)) ∨ ((kp ≠ 0 ∧ anb (fun j => decide (G j ≠ WG j)) 16 = false) ∧ r = some (.int (nI (bxs G 16 - bxs (gfo G (nwr G GO 20).2 (mfp ma n t F T (if ma = 2 then nwy G (nwr G GO 20).2 (nwr G GO 20).1 16 else mleft n t (nwy G (nwr G GO 20).2 (nwr G GO 20).1 16)) my) 16) 16))) ∧ W1 = (mW ad cI cJ cB 0 n t kp ma my ((nwr G GO 20).1) (gfo G (nwr G GO 20).2 (mfp ma n t F T (if ma = 2 then nwy G (nwr G GO 20).2 (nwr G GO 20).1 16 else mleft n t (nwy G (nwr G GO 20).2 (nwr G GO 20).1 16)) my) 16) F T M WG ((nwr G GO 20).2) Y V AT NX)))) 0 0 (va_A (mW ad cI cJ cB th n t kp ma my rk G F T M WG GO Y V AT NX) sz) := by
  refine Met.ofW (cc := cX7_follow) (maxL := 7) (ret := (some .int)) (by decide) rfl ?_
  intro p e s m args below meth c s₁ B hml hv
  obtain ⟨rfl, hsz, hP, hK, hD0⟩ := hv
  have hx := B.exec
  have hb := B.bytes
  have hr := B.returns
  have hts := atoms_spec (ws := wsX7_follow) B.pre
  have hown : s.vm.findClass RX7 = some m.cls := findClass_of_methodNamed B.named
  have hlocks := B.notSynchronized
  have hinX7 : ∀ w ∈ u_ws RX7 TX7 17, w ∈ wsX7_follow := by decide +kernel
  subst hsz
  have hD := hD0.self (sz := s.heap.size)
  generalize hAe : va_A (mW ad cI cJ cB th n t kp ma my rk G F T M WG GO Y V AT NX) s.heap.size = A at hD ⊢
  have hA : ∀ q : Nat, s.heap.size ≤ q → A q := fun q h => by rw [← hAe]; exact Or.inr h
  have hS : va_S A s.heap s.heap [] := va_S.rf
  have hl := lv_entry ([.ref (ad 0)]) (n := 7) (Nat.le_of_ble_eq_true rfl)
  rw [lg_entry_eq]
  generalize (lg_sl ([.ref (ad 0)]) ++ List.replicate (7 - (lg_sl ([.ref (ad 0)])).length) Slot.unset).toArray = ls at hl ⊢
  have hl : lv_has ls 7 [(0, .ref (ad 0))] := hl
  have hq0 := nwy_48 (G := G) (GO := (nwr G GO 20).2) hR
  have hq00 := mleft_le n t _ (nwy G (nwr G GO 20).2 (nwr G GO 20).1 16) (Nat.lt_succ_self _)
  have hgo := nwr_lt G GO hGO 20 (by omega)
  refine lv_aload_n hx hb dX7_follow_0 rfl (lv_at hl 0 rfl) ?_
  refine va_get (D := (dC, dI)) (ci := 6) (v := .int (nI kp)) (C := RX7) (T := TX7) (N := 17) hx hb hts hinX7 hown hK hP 0 rfl rfl 4 (by decide) (hts (.fieldLink RX7 128 "ReshuffleSearchModel" "isKept" "Z") (by decide +kernel)) (fun _ h9 => h9) rfl dX7_follow_1 ?_
  refine lv_istore_n (lv' := [(1, .int (nI kp)), (0, .ref (ad 0))]) hx hb dX7_follow_4 rfl hl (by decide) rfl (fun ls hl => ?_)
  refine lv_iconst (v := nI 0) hx hb dX7_follow_5 (by decide +kernel) ?_
  refine lv_istore_n (lv' := [(2, .int (nI 0)), (1, .int (nI kp)), (0, .ref (ad 0))]) hx hb dX7_follow_6 rfl hl (by decide) rfl (fun ls hl => ?_)
  have cut_7 : ∀ (n_7 : Nat) (k : Nat) (v7_1 : Int32) (v7_2 : Int32) (ls : Array Slot) (H : Heap) (locs : List Loc) (hk : k ≤ 16) (hn_7 : 16 - k < n_7) (_ : v7_1 = nI (bn (kp ≠ 0 ∧ anb (fun j => decide (G j ≠ WG j)) k = false))) (_ : v7_2 = nI k) (_ : lv_has ls 7 [(0, .ref (ad 0)), (1, .int v7_1), (2, .int v7_2)]) (_ : va_P (dC, dI) vwCl (mW ad cI cJ cB th n t kp ma my rk G F T M WG GO Y V AT NX) H) (_ : va_D A (mW ad cI cJ cB th n t kp ma my rk G F T M WG GO Y V AT NX)) (_ : va_S A s.heap H locs), W p l e (headSpec wsX7_follow ({ frames := 3, cells := 0, slots := 0, locals := 75 })).room s m ([.ref (ad 0)] : List Value).toArray below meth c H locs 0 0 (MQ below (wr_Q (dC, dI) A (fun r W1 => (¬ (kp ≠ 0 ∧ anb (fun j => decide (G j ≠ WG j)) 16 = false) ∧ r = some (.int (nI 0)) ∧ W1 = (mW ad cI cJ cB 1 n t kp ma my rk G F T M WG GO Y V AT NX)) ∨ ((kp ≠ 0 ∧ anb (fun j => decide (G j ≠ WG j)) 16 = false) ∧ r = some (.int (nI (bxs G 16 - bxs (gfo G (nwr G GO 20).2 (mfp ma n t F T (if ma = 2 then nwy G (nwr G GO 20).2 (nwr G GO 20).1 16 else mleft n t (nwy G (nwr G GO 20).2 (nwr G GO 20).1 16)) my) 16) 16))) ∧ W1 = (mW ad cI cJ cB 0 n t kp ma my ((nwr G GO 20).1) (gfo G (nwr G GO 20).2 (mfp ma n t F T (if ma = 2 then nwy G (nwr G GO 20).2 (nwr G GO 20).1 16 else mleft n t (nwy G (nwr G GO 20).2 (nwr G GO 20).1 16)) my) 16) F T M WG ((nwr G GO 20).2) Y V AT NX)))) ([.ref (ad 0)] : List Value).toArray s 0 0 A) (F0 m 7 ls []) := by
    intro n_7
    induction n_7 with
    | zero => intros; omega
    | succ n_7 ih_7 =>
      rintro k v7_1 v7_2 ls H locs hk hn_7 rfl rfl hl hP hD hS
      refine lv_iload_n hx hb dX7_follow_7 rfl (lv_at hl 2 rfl) ?_
      refine lv_bipush (v := nI 16) hx hb dX7_follow_8 (by decide +kernel) ?_
      refine wk_icmp_ge (tgt := 44) hx hb (by omega) (by omega) dX7_follow_10 (by decide) (fun c_10 => ?_) (fun c_10 => ?_)
      · have hk16 : k = 16 := by omega
        rw [hk16] at hl
        have hl : lv_has ls 7 [(0, .ref (ad 0)), (1, .int (nI (bn (kp ≠ 0 ∧ anb (fun j => decide (G j ≠ WG j)) 16 = false)))), (2, .int (nI 16))] := by exact hl
        have cut_54 : ∀ (v54_1 : Int32) (u54_0 : Int32) (ls : Array Slot) (H : Heap) (locs : List Loc) (_ : v54_1 = nI (bn (kp ≠ 0 ∧ anb (fun j => decide (G j ≠ WG j)) 16 = false))) (_ : u54_0 = nI (bn (¬ (kp ≠ 0 ∧ anb (fun j => decide (G j ≠ WG j)) 16 = false)))) (_ : lv_has ls 7 [(0, .ref (ad 0)), (1, .int v54_1)]) (_ : va_P (dC, dI) vwCl (mW ad cI cJ cB th n t kp ma my rk G F T M WG GO Y V AT NX) H) (_ : va_D A (mW ad cI cJ cB th n t kp ma my rk G F T M WG GO Y V AT NX)) (_ : va_S A s.heap H locs), W p l e (headSpec wsX7_follow ({ frames := 3, cells := 0, slots := 0, locals := 75 })).room s m ([.ref (ad 0)] : List Value).toArray below meth c H locs 0 0 (MQ below (wr_Q (dC, dI) A (fun r W1 => (¬ (kp ≠ 0 ∧ anb (fun j => decide (G j ≠ WG j)) 16 = false) ∧ r = some (.int (nI 0)) ∧ W1 = (mW ad cI cJ cB 1 n t kp ma my rk G F T M WG GO Y V AT NX)) ∨ ((kp ≠ 0 ∧ anb (fun j => decide (G j ≠ WG j)) 16 = false) ∧ r = some (.int (nI (bxs G 16 - bxs (gfo G (nwr G GO 20).2 (mfp ma n t F T (if ma = 2 then nwy G (nwr G GO 20).2 (nwr G GO 20).1 16 else mleft n t (nwy G (nwr G GO 20).2 (nwr G GO 20).1 16)) my) 16) 16))) ∧ W1 = (mW ad cI cJ cB 0 n t kp ma my ((nwr G GO 20).1) (gfo G (nwr G GO 20).2 (mfp ma n t F T (if ma = 2 then nwy G (nwr G GO 20).2 (nwr G GO 20).1 16 else mleft n t (nwy G (nwr G GO 20).2 (nwr G GO 20).1 16)) my) 16) F T M WG ((nwr G GO 20).2) Y V AT NX)))) ([.ref (ad 0)] : List Value).toArray s 0 0 A) (F0 m 54 ls [.int u54_0, .ref (ad 0)]) := by
          rintro v54_1 u54_0 ls H locs rfl rfl hl hP hD hS
          refine va_put (D := (dC, dI)) (ci := 6) (v := .int (nI (bn (¬ (kp ≠ 0 ∧ anb (fun j => decide (G j ≠ WG j)) 16 = false))))) (ty := .int) (C := RX7) (T := TX7) (N := 17) hx hb hts hinX7 tyX7 tyX7_ok nmX7 hown hK hP hD hS 0 rfl rfl 0 (by decide) (hts (.fieldLink RX7 50 "ReshuffleSearchModel" "thrown" "I") (by decide +kernel)) (fun _ h9 => h9) rfl (by decide +kernel) (rfl) (rfl) (Nat.le_of_ble_eq_true rfl) dX7_follow_54 (fun H locs hP hD hS => ?_)
          have hP : va_P (dC, dI) vwCl (mW ad cI cJ cB (bn (¬ (kp ≠ 0 ∧ anb (fun j => decide (G j ≠ WG j)) 16 = false))) n t kp ma my rk G F T M WG GO Y V AT NX) H := hP
          have hD : va_D A (mW ad cI cJ cB (bn (¬ (kp ≠ 0 ∧ anb (fun j => decide (G j ≠ WG j)) 16 = false))) n t kp ma my rk G F T M WG GO Y V AT NX) := hD
          refine lv_iload_n hx hb dX7_follow_57 rfl (lv_at hl 1 rfl) ?_
          refine wk_bn_ne (tgt := 63) hx hb dX7_follow_58 (by decide) (fun c_58 => ?_) (fun c_58 => ?_)
          · have hsm := c_58
            rw [bn_f (fun q => q c_58)] at hP hD
            have hl : lv_has ls 7 [(0, .ref (ad 0)), (1, .int (nI (bn (kp ≠ 0 ∧ anb (fun j => decide (G j ≠ WG j)) 16 = false))))] := by exact hl
            refine lv_aload_n hx hb dX7_follow_63 rfl (lv_at hl 0 rfl) ?_
            refine pu_go (va_runV (As := []) (rest := []) ⟨hx, hb, hml, hown, hts⟩ (c_X7_boxes l dC dI (mW ad cI cJ cB 0 n t kp ma my rk G F T M WG GO Y V AT NX) [(cI, .int), (cJ, .long), (cB, .byte)] (ad 0) _ rfl (ad 3) cI G rfl rfl rfl hG) (cwV 0 hts gX7_follow_X7_boxes rfl rfl rfl (by decide +kernel) ⟨Nat.le_of_ble_eq_true rfl, Nat.le_of_ble_eq_true rfl⟩) ⟨fun a U g mk q => ⟨q.1, q.2.1, va_K.moved (u := U) (U := U.calling g mk a) (Vm.Alike.refl U.vm) q.2.2⟩, va_recv hK hP (ci := 6) (q0 := 0) rfl rfl, fun U hU hW => ⟨rfl, by rw [hU]; exact hP, va_K.moved hW.alike hK⟩⟩ rfl rfl hl.1 rfl (lv_room (Nat.le_of_ble_eq_true rfl)) dX7_follow_64 ⟨Nat.le_refl _, Nat.le_refl _⟩) ?_
            refine lv_istore_n (lv' := [(2, .int (nI (bxs G 16))), (0, .ref (ad 0)), (1, .int (nI (bn (kp ≠ 0 ∧ anb (fun j => decide (G j ≠ WG j)) 16 = false))))]) hx hb dX7_follow_67 rfl hl (by decide) rfl (fun ls hl => ?_)
            refine lv_aload_n hx hb dX7_follow_68 rfl (lv_at hl 1 rfl) ?_
            have hFc := va_free (wc := (mW ad cI cJ cB 0 n t kp ma my rk G F T M WG GO Y V AT NX)) hD hS hA [0, 1, 2, 3, 4, 5, 6, 7, 8, 9, 10] rfl
            refine wr_go (va_runV (As := []) (rest := []) ⟨hx, hb, hml, hown, hts⟩ (c_X7_now l dC dI ad cI cJ cB 0 n t kp ma my rk G F T M WG GO Y V AT NX hG hGO hR H.size) (cwV 0 hts gX7_follow_X7_now rfl rfl rfl (by decide +kernel) ⟨Nat.le_of_ble_eq_true rfl, Nat.le_of_ble_eq_true rfl⟩) ⟨wr_blind, va_recv hK hP (ci := 6) (q0 := 0) rfl rfl, fun U hU hW => ⟨rfl, by rw [hU], by rw [hU]; exact hP, va_K.moved hW.alike hK, hD.weaken (fun _ _ _ _ => trivial)⟩⟩ rfl rfl hl.1 rfl (lv_room (Nat.le_of_ble_eq_true rfl)) dX7_follow_69 ⟨Nat.le_refl _, Nat.le_refl _⟩) hS hFc hFc (fun r9 W9 H locs hpost hP hD9 hz9 hk9 hS => ?_)
            have hD := hD9.weaken (fun _ _ _ h => hFc _ h)
            obtain ⟨rfl, rfl⟩ := hpost
            have hP : va_P (dC, dI) vwCl (mW ad cI cJ cB 0 n t kp ma my ((nwr G GO 20).1) G F T M WG ((nwr G GO 20).2) Y V AT NX) H := hP
            have hD : va_D A (mW ad cI cJ cB 0 n t kp ma my ((nwr G GO 20).1) G F T M WG ((nwr G GO 20).2) Y V AT NX) := hD
            refine W.eq (g2 := F0 m 72 ls [.long (lN (nwy G (nwr G GO 20).2 (nwr G GO 20).1 16))]) rfl ?_
            refine lv_lstore_n (lv' := [(3, .long (lN (nwy G (nwr G GO 20).2 (nwr G GO 20).1 16))), (2, .int (nI (bxs G 16))), (0, .ref (ad 0)), (1, .int (nI (bn (kp ≠ 0 ∧ anb (fun j => decide (G j ≠ WG j)) 16 = false))))]) hx hb dX7_follow_72 rfl hl (by decide) rfl (fun ls hl => ?_)
            have cut_90 : ∀ (v90_2 : Int32) (u90_0 : Int64) (ls : Array Slot) (H : Heap) (locs : List Loc) (_ : v90_2 = nI (bxs G 16)) (_ : u90_0 = lN (if ma = 2 then nwy G (nwr G GO 20).2 (nwr G GO 20).1 16 else mleft n t (nwy G (nwr G GO 20).2 (nwr G GO 20).1 16))) (_ : lv_has ls 7 [(0, .ref (ad 0)), (2, .int v90_2)]) (_ : va_P (dC, dI) vwCl (mW ad cI cJ cB 0 n t kp ma my ((nwr G GO 20).1) G F T M WG ((nwr G GO 20).2) Y V AT NX) H) (_ : va_D A (mW ad cI cJ cB 0 n t kp ma my ((nwr G GO 20).1) G F T M WG ((nwr G GO 20).2) Y V AT NX)) (_ : va_S A s.heap H locs), W p l e (headSpec wsX7_follow ({ frames := 3, cells := 0, slots := 0, locals := 75 })).room s m ([.ref (ad 0)] : List Value).toArray below meth c H locs 0 0 (MQ below (wr_Q (dC, dI) A (fun r W1 => (¬ (kp ≠ 0 ∧ anb (fun j => decide (G j ≠ WG j)) 16 = false) ∧ r = some (.int (nI 0)) ∧ W1 = (mW ad cI cJ cB 1 n t kp ma my rk G F T M WG GO Y V AT NX)) ∨ ((kp ≠ 0 ∧ anb (fun j => decide (G j ≠ WG j)) 16 = false) ∧ r = some (.int (nI (bxs G 16 - bxs (gfo G (nwr G GO 20).2 (mfp ma n t F T (if ma = 2 then nwy G (nwr G GO 20).2 (nwr G GO 20).1 16 else mleft n t (nwy G (nwr G GO 20).2 (nwr G GO 20).1 16)) my) 16) 16))) ∧ W1 = (mW ad cI cJ cB 0 n t kp ma my ((nwr G GO 20).1) (gfo G (nwr G GO 20).2 (mfp ma n t F T (if ma = 2 then nwy G (nwr G GO 20).2 (nwr G GO 20).1 16 else mleft n t (nwy G (nwr G GO 20).2 (nwr G GO 20).1 16)) my) 16) F T M WG ((nwr G GO 20).2) Y V AT NX)))) ([.ref (ad 0)] : List Value).toArray s 0 0 A) (F0 m 90 ls [.long u90_0]) := by
              rintro v90_2 u90_0 ls H locs rfl rfl hl hP hD hS
              refine lv_lstore_n (lv' := [(3, .long (lN (if ma = 2 then nwy G (nwr G GO 20).2 (nwr G GO 20).1 16 else mleft n t (nwy G (nwr G GO 20).2 (nwr G GO 20).1 16)))), (0, .ref (ad 0)), (2, .int (nI (bxs G 16)))]) hx hb dX7_follow_90 rfl hl (by decide) rfl (fun ls hl => ?_)
              refine lv_iconst (v := nI 0) hx hb dX7_follow_91 (by decide +kernel) ?_
              refine lv_istore (lv' := [(5, .int (nI 0)), (3, .long (lN (if ma = 2 then nwy G (nwr G GO 20).2 (nwr G GO 20).1 16 else mleft n t (nwy G (nwr G GO 20).2 (nwr G GO 20).1 16)))), (0, .ref (ad 0)), (2, .int (nI (bxs G 16)))]) hx hb dX7_follow_92 hl (by decide) rfl (fun ls hl => ?_)
              have cut_94 : ∀ (n_94 : Nat) (i : Nat) (v94_2 : Int32) (v94_3 : Int64) (v94_5 : Int32) (ls : Array Slot) (H : Heap) (locs : List Loc) (hi : i ≤ my) (hz : mfp ma n t F T (if ma = 2 then nwy G (nwr G GO 20).2 (nwr G GO 20).1 16 else mleft n t (nwy G (nwr G GO 20).2 (nwr G GO 20).1 16)) i < 2 ^ 48) (hn_94 : my - i < n_94) (_ : v94_2 = nI (bxs G 16)) (_ : v94_3 = lN (mfp ma n t F T (if ma = 2 then nwy G (nwr G GO 20).2 (nwr G GO 20).1 16 else mleft n t (nwy G (nwr G GO 20).2 (nwr G GO 20).1 16)) i)) (_ : v94_5 = nI i) (_ : lv_has ls 7 [(0, .ref (ad 0)), (2, .int v94_2), (3, .long v94_3), (5, .int v94_5)]) (_ : va_P (dC, dI) vwCl (mW ad cI cJ cB 0 n t kp ma my ((nwr G GO 20).1) G F T M WG ((nwr G GO 20).2) Y V AT NX) H) (_ : va_D A (mW ad cI cJ cB 0 n t kp ma my ((nwr G GO 20).1) G F T M WG ((nwr G GO 20).2) Y V AT NX)) (_ : va_S A s.heap H locs), W p l e (headSpec wsX7_follow ({ frames := 3, cells := 0, slots := 0, locals := 75 })).room s m ([.ref (ad 0)] : List Value).toArray below meth c H locs 0 0 (MQ below (wr_Q (dC, dI) A (fun r W1 => (¬ (kp ≠ 0 ∧ anb (fun j => decide (G j ≠ WG j)) 16 = false) ∧ r = some (.int (nI 0)) ∧ W1 = (mW ad cI cJ cB 1 n t kp ma my rk G F T M WG GO Y V AT NX)) ∨ ((kp ≠ 0 ∧ anb (fun j => decide (G j ≠ WG j)) 16 = false) ∧ r = some (.int (nI (bxs G 16 - bxs (gfo G (nwr G GO 20).2 (mfp ma n t F T (if ma = 2 then nwy G (nwr G GO 20).2 (nwr G GO 20).1 16 else mleft n t (nwy G (nwr G GO 20).2 (nwr G GO 20).1 16)) my) 16) 16))) ∧ W1 = (mW ad cI cJ cB 0 n t kp ma my ((nwr G GO 20).1) (gfo G (nwr G GO 20).2 (mfp ma n t F T (if ma = 2 then nwy G (nwr G GO 20).2 (nwr G GO 20).1 16 else mleft n t (nwy G (nwr G GO 20).2 (nwr G GO 20).1 16)) my) 16) F T M WG ((nwr G GO 20).2) Y V AT NX)))) ([.ref (ad 0)] : List Value).toArray s 0 0 A) (F0 m 94 ls []) := by
                intro n_94
                induction n_94 with
                | zero => intros; omega
                | succ n_94 ih_94 =>
                  rintro i v94_2 v94_3 v94_5 ls H locs hi hz hn_94 rfl rfl rfl hl hP hD hS
                  refine lv_iload hx hb dX7_follow_94 (lv_at hl 3 rfl) ?_
                  refine lv_aload_n hx hb dX7_follow_96 rfl (lv_at hl 0 rfl) ?_
                  refine va_get (D := (dC, dI)) (ci := 6) (v := .int (nI my)) (C := RX7) (T := TX7) (N := 17) hx hb hts hinX7 hown hK hP 0 rfl rfl 6 (by decide) (hts (.fieldLink RX7 108 "ReshuffleSearchModel" "many" "I") (by decide +kernel)) (fun _ h9 => h9) rfl dX7_follow_97 ?_
                  refine wk_icmp_ge (tgt := 147) hx hb (by omega) (by omega) dX7_follow_100 (by decide) (fun c_100 => ?_) (fun c_100 => ?_)
                  · have him : i = my := by omega
                    rw [him] at hl hz
                    have hl : lv_has ls 7 [(0, .ref (ad 0)), (2, .int (nI (bxs G 16))), (3, .long (lN (mfp ma n t F T (if ma = 2 then nwy G (nwr G GO 20).2 (nwr G GO 20).1 16 else mleft n t (nwy G (nwr G GO 20).2 (nwr G GO 20).1 16)) my))), (5, .int (nI my))] := by exact hl
                    refine lv_iconst (v := nI 0) hx hb dX7_follow_147 (by decide +kernel) ?_
                    refine lv_istore (lv' := [(5, .int (nI 0)), (0, .ref (ad 0)), (2, .int (nI (bxs G 16))), (3, .long (lN (mfp ma n t F T (if ma = 2 then nwy G (nwr G GO 20).2 (nwr G GO 20).1 16 else mleft n t (nwy G (nwr G GO 20).2 (nwr G GO 20).1 16)) my)))]) hx hb dX7_follow_148 hl (by decide) rfl (fun ls hl => ?_)
                    have cut_150 : ∀ (n_150 : Nat) (k : Nat) (v150_2 : Int32) (v150_3 : Int64) (v150_5 : Int32) (ls : Array Slot) (H : Heap) (locs : List Loc) (hk : k ≤ 16) (hn_150 : 16 - k < n_150) (_ : v150_2 = nI (bxs G 16)) (_ : v150_3 = lN (mfp ma n t F T (if ma = 2 then nwy G (nwr G GO 20).2 (nwr G GO 20).1 16 else mleft n t (nwy G (nwr G GO 20).2 (nwr G GO 20).1 16)) my)) (_ : v150_5 = nI k) (_ : lv_has ls 7 [(0, .ref (ad 0)), (2, .int v150_2), (3, .long v150_3), (5, .int v150_5)]) (_ : va_P (dC, dI) vwCl (mW ad cI cJ cB 0 n t kp ma my ((nwr G GO 20).1) (gfo G (nwr G GO 20).2 (mfp ma n t F T (if ma = 2 then nwy G (nwr G GO 20).2 (nwr G GO 20).1 16 else mleft n t (nwy G (nwr G GO 20).2 (nwr G GO 20).1 16)) my) k) F T M WG ((nwr G GO 20).2) Y V AT NX) H) (_ : va_D A (mW ad cI cJ cB 0 n t kp ma my ((nwr G GO 20).1) (gfo G (nwr G GO 20).2 (mfp ma n t F T (if ma = 2 then nwy G (nwr G GO 20).2 (nwr G GO 20).1 16 else mleft n t (nwy G (nwr G GO 20).2 (nwr G GO 20).1 16)) my) k) F T M WG ((nwr G GO 20).2) Y V AT NX)) (_ : va_S A s.heap H locs), W p l e (headSpec wsX7_follow ({ frames := 3, cells := 0, slots := 0, locals := 75 })).room s m ([.ref (ad 0)] : List Value).toArray below meth c H locs 0 0 (MQ below (wr_Q (dC, dI) A (fun r W1 => (¬ (kp ≠ 0 ∧ anb (fun j => decide (G j ≠ WG j)) 16 = false) ∧ r = some (.int (nI 0)) ∧ W1 = (mW ad cI cJ cB 1 n t kp ma my rk G F T M WG GO Y V AT NX)) ∨ ((kp ≠ 0 ∧ anb (fun j => decide (G j ≠ WG j)) 16 = false) ∧ r = some (.int (nI (bxs G 16 - bxs (gfo G (nwr G GO 20).2 (mfp ma n t F T (if ma = 2 then nwy G (nwr G GO 20).2 (nwr G GO 20).1 16 else mleft n t (nwy G (nwr G GO 20).2 (nwr G GO 20).1 16)) my) 16) 16))) ∧ W1 = (mW ad cI cJ cB 0 n t kp ma my ((nwr G GO 20).1) (gfo G (nwr G GO 20).2 (mfp ma n t F T (if ma = 2 then nwy G (nwr G GO 20).2 (nwr G GO 20).1 16 else mleft n t (nwy G (nwr G GO 20).2 (nwr G GO 20).1 16)) my) 16) F T M WG ((nwr G GO 20).2) Y V AT NX)))) ([.ref (ad 0)] : List Value).toArray s 0 0 A) (F0 m 150 ls []) := by
                      intro n_150
                      induction n_150 with
                      | zero => intros; omega
                      | succ n_150 ih_150 =>
                        rintro k v150_2 v150_3 v150_5 ls H locs hk hn_150 rfl rfl rfl hl hP hD hS
                        have hq8 := yr_lt (mfp ma n t F T (if ma = 2 then nwy G (nwr G GO 20).2 (nwr G GO 20).1 16 else mleft n t (nwy G (nwr G GO 20).2 (nwr G GO 20).1 16)) my) k
                        refine lv_iload hx hb dX7_follow_150 (lv_at hl 3 rfl) ?_
                        refine lv_bipush (v := nI 16) hx hb dX7_follow_152 (by decide +kernel) ?_
                        refine wk_icmp_ge (tgt := 199) hx hb (by omega) (by omega) dX7_follow_154 (by decide) (fun c_154 => ?_) (fun c_154 => ?_)
                        · have hk16 : k = 16 := by omega
                          rw [hk16] at hP hD
                          have hl : lv_has ls 7 [(0, .ref (ad 0)), (2, .int (nI (bxs G 16))), (3, .long (lN (mfp ma n t F T (if ma = 2 then nwy G (nwr G GO 20).2 (nwr G GO 20).1 16 else mleft n t (nwy G (nwr G GO 20).2 (nwr G GO 20).1 16)) my))), (5, .int (nI k))] := by exact hl
                          refine lv_iload_n hx hb dX7_follow_199 rfl (lv_at hl 1 rfl) ?_
                          refine lv_aload_n hx hb dX7_follow_200 rfl (lv_at hl 0 rfl) ?_
                          refine pu_go (va_runV (As := []) (rest := [.int (nI (bxs G 16))]) ⟨hx, hb, hml, hown, hts⟩ (c_X7_boxes l dC dI (mW ad cI cJ cB 0 n t kp ma my ((nwr G GO 20).1) (gfo G (nwr G GO 20).2 (mfp ma n t F T (if ma = 2 then nwy G (nwr G GO 20).2 (nwr G GO 20).1 16 else mleft n t (nwy G (nwr G GO 20).2 (nwr G GO 20).1 16)) my) 16) F T M WG ((nwr G GO 20).2) Y V AT NX) [(cI, .int), (cJ, .long), (cB, .byte)] (ad 0) _ rfl (ad 3) cI (gfo G (nwr G GO 20).2 (mfp ma n t F T (if ma = 2 then nwy G (nwr G GO 20).2 (nwr G GO 20).1 16 else mleft n t (nwy G (nwr G GO 20).2 (nwr G GO 20).1 16)) my) 16) rfl rfl rfl (gfo_lt hG hgo 16)) (cwV 0 hts gX7_follow_X7_boxes rfl rfl rfl (by decide +kernel) ⟨Nat.le_of_ble_eq_true rfl, Nat.le_of_ble_eq_true rfl⟩) ⟨fun a U g mk q => ⟨q.1, q.2.1, va_K.moved (u := U) (U := U.calling g mk a) (Vm.Alike.refl U.vm) q.2.2⟩, va_recv hK hP (ci := 6) (q0 := 0) rfl rfl, fun U hU hW => ⟨rfl, by rw [hU]; exact hP, va_K.moved hW.alike hK⟩⟩ rfl rfl hl.1 rfl (lv_room (Nat.le_of_ble_eq_true rfl)) dX7_follow_201 ⟨Nat.le_refl _, Nat.le_refl _⟩) ?_
                          refine wk_isub hx hb (hle hsm) dX7_follow_204 ?_
                          exact W.iret hx hb hr (fun t9 ht hW => ⟨some (.int (nI ((bxs G 16) - (bxs (gfo G (nwr G GO 20).2 (mfp ma n t F T (if ma = 2 then nwy G (nwr G GO 20).2 (nwr G GO 20).1 16 else mleft n t (nwy G (nwr G GO 20).2 (nwr G GO 20).1 16)) my) 16) 16)))), (mW ad cI cJ cB 0 n t kp ma my ((nwr G GO 20).1) (gfo G (nwr G GO 20).2 (mfp ma n t F T (if ma = 2 then nwy G (nwr G GO 20).2 (nwr G GO 20).1 16 else mleft n t (nwy G (nwr G GO 20).2 (nwr G GO 20).1 16)) my) 16) F T M WG ((nwr G GO 20).2) Y V AT NX), rfl, Or.inr ⟨hsm, rfl, rfl⟩, by rw [ht]; exact hP, hD, hS.F ht⟩) hS.2.2 dX7_follow_205
                        · refine lv_lload_n hx hb dX7_follow_157 rfl (lv_at hl 2 rfl) ?_
                          refine lv_iconst (v := nI 3) hx hb dX7_follow_158 (by decide +kernel) ?_
                          refine lv_iload hx hb dX7_follow_159 (lv_at hl 3 rfl) ?_
                          refine wk_imul hx hb dX7_follow_161 ?_
                          refine wk_lshr hx hb (by omega) (by omega) dX7_follow_162 ?_
                          refine lv_ldc2 (v := 7) hx hb hown (hts (.constantLong RX7 65 (7)) (by decide +kernel)) dX7_follow_163 ?_
                          refine wk_tl (v' := lN 7) (by decide +kernel) ?_
                          refine lv_land hx hb dX7_follow_166 ?_
                          refine wk_tl (v' := lN ((mfp ma n t F T (if ma = 2 then nwy G (nwr G GO 20).2 (nwr G GO 20).1 16 else mleft n t (nwy G (nwr G GO 20).2 (nwr G GO 20).1 16)) my) / 2 ^ (3 * k) % 8)) (wb_mask (k := 3) (by have := Nat.div_le_self (mfp ma n t F T (if ma = 2 then nwy G (nwr G GO 20).2 (nwr G GO 20).1 16 else mleft n t (nwy G (nwr G GO 20).2 (nwr G GO 20).1 16)) my) (2 ^ (3 * k)); omega) (by decide)) ?_
                          refine wk_l2i hx hb dX7_follow_167 ?_
                          refine wk_ti (v' := nI (yr (mfp ma n t F T (if ma = 2 then nwy G (nwr G GO 20).2 (nwr G GO 20).1 16 else mleft n t (nwy G (nwr G GO 20).2 (nwr G GO 20).1 16)) my) k)) (by unfold yr; rw [Nat.mul_comm 3]) ?_
                          refine lv_istore (lv' := [(6, .int (nI (yr (mfp ma n t F T (if ma = 2 then nwy G (nwr G GO 20).2 (nwr G GO 20).1 16 else mleft n t (nwy G (nwr G GO 20).2 (nwr G GO 20).1 16)) my) k))), (0, .ref (ad 0)), (2, .int (nI (bxs G 16))), (3, .long (lN (mfp ma n t F T (if ma = 2 then nwy G (nwr G GO 20).2 (nwr G GO 20).1 16 else mleft n t (nwy G (nwr G GO 20).2 (nwr G GO 20).1 16)) my))), (5, .int (nI k))]) hx hb dX7_follow_168 hl (by decide) rfl (fun ls hl => ?_)
                          have cut_192 : ∀ (v192_2 : Int32) (v192_3 : Int64) (v192_5 : Int32) (u192_0 : Int32) (u192_1 : Int32) (ls : Array Slot) (H : Heap) (locs : List Loc) (_ : v192_2 = nI (bxs G 16)) (_ : v192_3 = lN (mfp ma n t F T (if ma = 2 then nwy G (nwr G GO 20).2 (nwr G GO 20).1 16 else mleft n t (nwy G (nwr G GO 20).2 (nwr G GO 20).1 16)) my)) (_ : v192_5 = nI k) (_ : u192_0 = nI (if 0 < yr (mfp ma n t F T (if ma = 2 then nwy G (nwr G GO 20).2 (nwr G GO 20).1 16 else mleft n t (nwy G (nwr G GO 20).2 (nwr G GO 20).1 16)) my) k then (nwr G GO 20).2 (yr (mfp ma n t F T (if ma = 2 then nwy G (nwr G GO 20).2 (nwr G GO 20).1 16 else mleft n t (nwy G (nwr G GO 20).2 (nwr G GO 20).1 16)) my) k) else 0)) (_ : u192_1 = nI k) (_ : lv_has ls 7 [(0, .ref (ad 0)), (2, .int v192_2), (3, .long v192_3), (5, .int v192_5)]) (_ : va_P (dC, dI) vwCl (mW ad cI cJ cB 0 n t kp ma my ((nwr G GO 20).1) (gfo G (nwr G GO 20).2 (mfp ma n t F T (if ma = 2 then nwy G (nwr G GO 20).2 (nwr G GO 20).1 16 else mleft n t (nwy G (nwr G GO 20).2 (nwr G GO 20).1 16)) my) k) F T M WG ((nwr G GO 20).2) Y V AT NX) H) (_ : va_D A (mW ad cI cJ cB 0 n t kp ma my ((nwr G GO 20).1) (gfo G (nwr G GO 20).2 (mfp ma n t F T (if ma = 2 then nwy G (nwr G GO 20).2 (nwr G GO 20).1 16 else mleft n t (nwy G (nwr G GO 20).2 (nwr G GO 20).1 16)) my) k) F T M WG ((nwr G GO 20).2) Y V AT NX)) (_ : va_S A s.heap H locs), W p l e (headSpec wsX7_follow ({ frames := 3, cells := 0, slots := 0, locals := 75 })).room s m ([.ref (ad 0)] : List Value).toArray below meth c H locs 0 0 (MQ below (wr_Q (dC, dI) A (fun r W1 => (¬ (kp ≠ 0 ∧ anb (fun j => decide (G j ≠ WG j)) 16 = false) ∧ r = some (.int (nI 0)) ∧ W1 = (mW ad cI cJ cB 1 n t kp ma my rk G F T M WG GO Y V AT NX)) ∨ ((kp ≠ 0 ∧ anb (fun j => decide (G j ≠ WG j)) 16 = false) ∧ r = some (.int (nI (bxs G 16 - bxs (gfo G (nwr G GO 20).2 (mfp ma n t F T (if ma = 2 then nwy G (nwr G GO 20).2 (nwr G GO 20).1 16 else mleft n t (nwy G (nwr G GO 20).2 (nwr G GO 20).1 16)) my) 16) 16))) ∧ W1 = (mW ad cI cJ cB 0 n t kp ma my ((nwr G GO 20).1) (gfo G (nwr G GO 20).2 (mfp ma n t F T (if ma = 2 then nwy G (nwr G GO 20).2 (nwr G GO 20).1 16 else mleft n t (nwy G (nwr G GO 20).2 (nwr G GO 20).1 16)) my) 16) F T M WG ((nwr G GO 20).2) Y V AT NX)))) ([.ref (ad 0)] : List Value).toArray s 0 0 A) (F0 m 192 ls [.int u192_0, .int u192_1, .ref (ad 3)]) := by
                            rintro v192_2 v192_3 v192_5 u192_0 u192_1 ls H locs rfl rfl rfl rfl rfl hl hP hD hS
                            refine wk_iast hx hb hK hP hD hS 1 0 rfl rfl (by omega) dX7_follow_192 (fun H locs hP hD hS => ?_)
                            have hP : va_P (dC, dI) vwCl (mW ad cI cJ cB 0 n t kp ma my ((nwr G GO 20).1) (upN (gfo G (nwr G GO 20).2 (mfp ma n t F T (if ma = 2 then nwy G (nwr G GO 20).2 (nwr G GO 20).1 16 else mleft n t (nwy G (nwr G GO 20).2 (nwr G GO 20).1 16)) my) k) k (if 0 < yr (mfp ma n t F T (if ma = 2 then nwy G (nwr G GO 20).2 (nwr G GO 20).1 16 else mleft n t (nwy G (nwr G GO 20).2 (nwr G GO 20).1 16)) my) k then (nwr G GO 20).2 (yr (mfp ma n t F T (if ma = 2 then nwy G (nwr G GO 20).2 (nwr G GO 20).1 16 else mleft n t (nwy G (nwr G GO 20).2 (nwr G GO 20).1 16)) my) k) else 0)) F T M WG ((nwr G GO 20).2) Y V AT NX) H := hP
                            have hD : va_D A (mW ad cI cJ cB 0 n t kp ma my ((nwr G GO 20).1) (upN (gfo G (nwr G GO 20).2 (mfp ma n t F T (if ma = 2 then nwy G (nwr G GO 20).2 (nwr G GO 20).1 16 else mleft n t (nwy G (nwr G GO 20).2 (nwr G GO 20).1 16)) my) k) k (if 0 < yr (mfp ma n t F T (if ma = 2 then nwy G (nwr G GO 20).2 (nwr G GO 20).1 16 else mleft n t (nwy G (nwr G GO 20).2 (nwr G GO 20).1 16)) my) k then (nwr G GO 20).2 (yr (mfp ma n t F T (if ma = 2 then nwy G (nwr G GO 20).2 (nwr G GO 20).1 16 else mleft n t (nwy G (nwr G GO 20).2 (nwr G GO 20).1 16)) my) k) else 0)) F T M WG ((nwr G GO 20).2) Y V AT NX) := hD
                            refine lv_iinc (v := nI (k + 1)) (lv' := [(5, .int (nI (k + 1))), (0, .ref (ad 0)), (2, .int (nI (bxs G 16))), (3, .long (lN (mfp ma n t F T (if ma = 2 then nwy G (nwr G GO 20).2 (nwr G GO 20).1 16 else mleft n t (nwy G (nwr G GO 20).2 (nwr G GO 20).1 16)) my)))]) hx hb dX7_follow_193 hl (k := 3) rfl (wk_inc _ 1 rfl) (by decide) rfl (fun ls hl => ?_)
                            refine lv_goto (tgt := 150) hx hb dX7_follow_196 (by decide) ?_
                            exact ih_150 (k + 1) _ _ _ ls _ _ (by omega) (by omega) (rfl) (rfl) (rfl) (lv_sub hl [1, 2, 3, 0] rfl) (hP) (hD) hS
                          refine lv_aload_n hx hb dX7_follow_170 rfl (lv_at hl 1 rfl) ?_
                          refine va_get (D := (dC, dI)) (ci := 6) (v := .ref (ad 3)) (C := RX7) (T := TX7) (N := 17) hx hb hts hinX7 hown hK hP 0 rfl rfl 3 (by decide) (hts (.fieldLink RX7 7 "ReshuffleSearchModel" "group" "[I") (by decide +kernel)) (fun _ h9 => h9) rfl dX7_follow_171 ?_
                          refine lv_iload hx hb dX7_follow_174 (lv_at hl 4 rfl) ?_
                          refine lv_iload hx hb dX7_follow_176 (lv_at hl 0 rfl) ?_
                          refine wk_if_le (tgt := 191) hx hb (by omega) dX7_follow_178 (by decide) (fun c_178 => ?_) (fun c_178 => ?_)
                          · refine lv_iconst (v := nI 0) hx hb dX7_follow_191 (by decide +kernel) ?_
                            exact cut_192 _ _ _ _ _ ls _ _ (rfl) (rfl) (rfl) (by rw [if_neg (by omega)]) (rfl) (lv_sub hl [1, 2, 3, 4] rfl) (hP) (hD) hS
                          · refine lv_aload_n hx hb dX7_follow_181 rfl (lv_at hl 1 rfl) ?_
                            refine va_get (D := (dC, dI)) (ci := 6) (v := .ref (ad 12)) (C := RX7) (T := TX7) (N := 17) hx hb hts hinX7 hown hK hP 0 rfl rfl 12 (by decide) (hts (.fieldLink RX7 25 "ReshuffleSearchModel" "groupOf" "[I") (by decide +kernel)) (fun _ h9 => h9) rfl dX7_follow_182 ?_
                            refine lv_iload hx hb dX7_follow_185 (lv_at hl 0 rfl) ?_
                            refine wk_iald hx hb hK hP 6 0 rfl rfl (by omega) dX7_follow_187 ?_
                            refine lv_goto (tgt := 192) hx hb dX7_follow_188 (by decide) ?_
                            exact cut_192 _ _ _ _ _ ls _ _ (rfl) (rfl) (rfl) (by rw [if_pos c_178]) (rfl) (lv_sub hl [1, 2, 3, 4] rfl) (hP) (hD) hS
                    exact cut_150 (16 + 1) 0 _ _ _ ls _ _ (by omega) (by omega) (rfl) (rfl) (rfl) (lv_sub hl [1, 2, 3, 0] rfl) (hP) (hD) hS
                  · obtain ⟨hl1, hl2, hl3, hl4⟩ := hleg hsm i c_100
                    have hla := mht_le (mfp ma n t F T (if ma = 2 then nwy G (nwr G GO 20).2 (nwr G GO 20).1 16 else mleft n t (nwy G (nwr G GO 20).2 (nwr G GO 20).1 16)) i) (F i) t
                    have hlb := mht_le (mfp ma n t F T (if ma = 2 then nwy G (nwr G GO 20).2 (nwr G GO 20).1 16 else mleft n t (nwy G (nwr G GO 20).2 (nwr G GO 20).1 16)) i) (T i) t
                    have hlc := mmv_lt (x := mfp ma n t F T (if ma = 2 then nwy G (nwr G GO 20).2 (nwr G GO 20).1 16 else mleft n t (nwy G (nwr G GO 20).2 (nwr G GO 20).1 16)) i) (a := F i) (b := T i) (t := t) hz (by omega) (by omega) hl4
                    have hld := mleft_le n t _ (mmv (mfp ma n t F T (if ma = 2 then nwy G (nwr G GO 20).2 (nwr G GO 20).1 16 else mleft n t (nwy G (nwr G GO 20).2 (nwr G GO 20).1 16)) i) (F i) (T i) t) (Nat.lt_succ_self _)
                    refine lv_aload_n hx hb dX7_follow_103 rfl (lv_at hl 0 rfl) ?_
                    refine lv_lload_n hx hb dX7_follow_104 rfl (lv_at hl 2 rfl) ?_
                    refine lv_aload_n hx hb dX7_follow_105 rfl (lv_at hl 0 rfl) ?_
                    refine va_get (D := (dC, dI)) (ci := 6) (v := .ref (ad 7)) (C := RX7) (T := TX7) (N := 17) hx hb hts hinX7 hown hK hP 0 rfl rfl 7 (by decide) (hts (.fieldLink RX7 13 "ReshuffleSearchModel" "from" "[I") (by decide +kernel)) (fun _ h9 => h9) rfl dX7_follow_106 ?_
                    refine lv_iload hx hb dX7_follow_109 (lv_at hl 3 rfl) ?_
                    refine wk_iald hx hb hK hP 2 0 rfl rfl (by omega) dX7_follow_111 ?_
                    refine lv_aload_n hx hb dX7_follow_112 rfl (lv_at hl 0 rfl) ?_
                    refine va_get (D := (dC, dI)) (ci := 6) (v := .ref (ad 8)) (C := RX7) (T := TX7) (N := 17) hx hb hts hinX7 hown hK hP 0 rfl rfl 8 (by decide) (hts (.fieldLink RX7 16 "ReshuffleSearchModel" "to" "[I") (by decide +kernel)) (fun _ h9 => h9) rfl dX7_follow_113 ?_
                    refine lv_iload hx hb dX7_follow_116 (lv_at hl 3 rfl) ?_
                    refine wk_iald hx hb hK hP 3 0 rfl rfl (by omega) dX7_follow_118 ?_
                    refine pu_go (va_runV (As := [.long (lN (mfp ma n t F T (if ma = 2 then nwy G (nwr G GO 20).2 (nwr G GO 20).1 16 else mleft n t (nwy G (nwr G GO 20).2 (nwr G GO 20).1 16)) i)), .int (nI (F i)), .int (nI (T i))]) (rest := []) ⟨hx, hb, hml, hown, hts⟩ (c_X7_moved l dC dI (mW ad cI cJ cB 0 n t kp ma my ((nwr G GO 20).1) G F T M WG ((nwr G GO 20).2) Y V AT NX) [(cI, .int), (cJ, .long), (cB, .byte)] (ad 0) _ rfl t rfl ht0 (mfp ma n t F T (if ma = 2 then nwy G (nwr G GO 20).2 (nwr G GO 20).1 16 else mleft n t (nwy G (nwr G GO 20).2 (nwr G GO 20).1 16)) i) (F i) (T i) (by first | omega | assumption) (by first | omega | assumption) (by first | omega | assumption) (by first | omega | assumption) (by first | omega | assumption)) (cwV 3 hts gX7_follow_X7_moved rfl rfl rfl (by decide +kernel) ⟨Nat.le_of_ble_eq_true rfl, Nat.le_of_ble_eq_true rfl⟩) ⟨fun a U g mk q => ⟨q.1, q.2.1, va_K.moved (u := U) (U := U.calling g mk a) (Vm.Alike.refl U.vm) q.2.2⟩, va_recv hK hP (ci := 6) (q0 := 0) rfl rfl, fun U hU hW => ⟨rfl, by rw [hU]; exact hP, va_K.moved hW.alike hK⟩⟩ rfl rfl hl.1 rfl (lv_room (Nat.le_of_ble_eq_true rfl)) dX7_follow_119 ⟨Nat.le_refl _, Nat.le_refl _⟩) ?_
                    refine lv_lstore_n (lv' := [(3, .long (lN (mmv (mfp ma n t F T (if ma = 2 then nwy G (nwr G GO 20).2 (nwr G GO 20).1 16 else mleft n t (nwy G (nwr G GO 20).2 (nwr G GO 20).1 16)) i) (F i) (T i) t))), (0, .ref (ad 0)), (2, .int (nI (bxs G 16))), (5, .int (nI i))]) hx hb dX7_follow_122 rfl hl (by decide) rfl (fun ls hl => ?_)
                    have cut_140 : ∀ (v140_2 : Int32) (v140_5 : Int32) (u140_0 : Int64) (ls : Array Slot) (H : Heap) (locs : List Loc) (_ : v140_2 = nI (bxs G 16)) (_ : v140_5 = nI i) (_ : u140_0 = lN (mfp ma n t F T (if ma = 2 then nwy G (nwr G GO 20).2 (nwr G GO 20).1 16 else mleft n t (nwy G (nwr G GO 20).2 (nwr G GO 20).1 16)) (i + 1))) (_ : lv_has ls 7 [(0, .ref (ad 0)), (2, .int v140_2), (5, .int v140_5)]) (_ : va_P (dC, dI) vwCl (mW ad cI cJ cB 0 n t kp ma my ((nwr G GO 20).1) G F T M WG ((nwr G GO 20).2) Y V AT NX) H) (_ : va_D A (mW ad cI cJ cB 0 n t kp ma my ((nwr G GO 20).1) G F T M WG ((nwr G GO 20).2) Y V AT NX)) (_ : va_S A s.heap H locs), W p l e (headSpec wsX7_follow ({ frames := 3, cells := 0, slots := 0, locals := 75 })).room s m ([.ref (ad 0)] : List Value).toArray below meth c H locs 0 0 (MQ below (wr_Q (dC, dI) A (fun r W1 => (¬ (kp ≠ 0 ∧ anb (fun j => decide (G j ≠ WG j)) 16 = false) ∧ r = some (.int (nI 0)) ∧ W1 = (mW ad cI cJ cB 1 n t kp ma my rk G F T M WG GO Y V AT NX)) ∨ ((kp ≠ 0 ∧ anb (fun j => decide (G j ≠ WG j)) 16 = false) ∧ r = some (.int (nI (bxs G 16 - bxs (gfo G (nwr G GO 20).2 (mfp ma n t F T (if ma = 2 then nwy G (nwr G GO 20).2 (nwr G GO 20).1 16 else mleft n t (nwy G (nwr G GO 20).2 (nwr G GO 20).1 16)) my) 16) 16))) ∧ W1 = (mW ad cI cJ cB 0 n t kp ma my ((nwr G GO 20).1) (gfo G (nwr G GO 20).2 (mfp ma n t F T (if ma = 2 then nwy G (nwr G GO 20).2 (nwr G GO 20).1 16 else mleft n t (nwy G (nwr G GO 20).2 (nwr G GO 20).1 16)) my) 16) F T M WG ((nwr G GO 20).2) Y V AT NX)))) ([.ref (ad 0)] : List Value).toArray s 0 0 A) (F0 m 140 ls [.long u140_0]) := by
                      rintro v140_2 v140_5 u140_0 ls H locs rfl rfl rfl hl hP hD hS
                      refine lv_lstore_n (lv' := [(3, .long (lN (mfp ma n t F T (if ma = 2 then nwy G (nwr G GO 20).2 (nwr G GO 20).1 16 else mleft n t (nwy G (nwr G GO 20).2 (nwr G GO 20).1 16)) (i + 1)))), (0, .ref (ad 0)), (2, .int (nI (bxs G 16))), (5, .int (nI i))]) hx hb dX7_follow_140 rfl hl (by decide) rfl (fun ls hl => ?_)
                      refine lv_iinc (v := nI (i + 1)) (lv' := [(5, .int (nI (i + 1))), (3, .long (lN (mfp ma n t F T (if ma = 2 then nwy G (nwr G GO 20).2 (nwr G GO 20).1 16 else mleft n t (nwy G (nwr G GO 20).2 (nwr G GO 20).1 16)) (i + 1)))), (0, .ref (ad 0)), (2, .int (nI (bxs G 16)))]) hx hb dX7_follow_141 hl (k := 3) rfl (wk_inc _ 1 rfl) (by decide) rfl (fun ls hl => ?_)
                      refine lv_goto (tgt := 94) hx hb dX7_follow_144 (by decide) ?_
                      exact ih_94 (i + 1) _ _ _ ls _ _ (by omega) (ite_lt hlc (by omega)) (by omega) (rfl) (rfl) (rfl) (lv_sub hl [2, 3, 1, 0] rfl) (hP) (hD) hS
                    refine lv_aload_n hx hb dX7_follow_123 rfl (lv_at hl 1 rfl) ?_
                    refine va_get (D := (dC, dI)) (ci := 6) (v := .int (nI ma)) (C := RX7) (T := TX7) (N := 17) hx hb hts hinX7 hown hK hP 0 rfl rfl 5 (by decide) (hts (.fieldLink RX7 136 "ReshuffleSearchModel" "manner" "I") (by decide +kernel)) (fun _ h9 => h9) rfl dX7_follow_124 ?_
                    refine lv_iconst (v := nI 2) hx hb dX7_follow_127 (by decide +kernel) ?_
                    refine wk_icmp_ne (tgt := 135) hx hb (by omega) (by omega) dX7_follow_128 (by decide) (fun c_128 => ?_) (fun c_128 => ?_)
                    · refine lv_aload_n hx hb dX7_follow_135 rfl (lv_at hl 1 rfl) ?_
                      refine lv_lload_n hx hb dX7_follow_136 rfl (lv_at hl 0 rfl) ?_
                      refine pu_go (va_runV (As := [.long (lN (mmv (mfp ma n t F T (if ma = 2 then nwy G (nwr G GO 20).2 (nwr G GO 20).1 16 else mleft n t (nwy G (nwr G GO 20).2 (nwr G GO 20).1 16)) i) (F i) (T i) t))]) (rest := []) ⟨hx, hb, hml, hown, hts⟩ (c_X7_left l dC dI (mW ad cI cJ cB 0 n t kp ma my ((nwr G GO 20).1) G F T M WG ((nwr G GO 20).2) Y V AT NX) [(cI, .int), (cJ, .long), (cB, .byte)] (ad 0) _ rfl n rfl hn0 t rfl ht0 (mmv (mfp ma n t F T (if ma = 2 then nwy G (nwr G GO 20).2 (nwr G GO 20).1 16 else mleft n t (nwy G (nwr G GO 20).2 (nwr G GO 20).1 16)) i) (F i) (T i) t) (by first | omega | assumption)) (cwV 1 hts gX7_follow_X7_left rfl rfl rfl (by decide +kernel) ⟨Nat.le_of_ble_eq_true rfl, Nat.le_of_ble_eq_true rfl⟩) ⟨fun a U g mk q => ⟨q.1, q.2.1, va_K.moved (u := U) (U := U.calling g mk a) (Vm.Alike.refl U.vm) q.2.2⟩, va_recv hK hP (ci := 6) (q0 := 0) rfl rfl, fun U hU hW => ⟨rfl, by rw [hU]; exact hP, va_K.moved hW.alike hK⟩⟩ rfl rfl hl.1 rfl (lv_room (Nat.le_of_ble_eq_true rfl)) dX7_follow_137 ⟨Nat.le_refl _, Nat.le_refl _⟩) ?_
                      exact cut_140 _ _ _ ls _ _ (rfl) (rfl) (congrArg lN (if_neg c_128).symm) (lv_sub hl [1, 2, 3] rfl) (hP) (hD) hS
                    · refine lv_lload_n hx hb dX7_follow_131 rfl (lv_at hl 0 rfl) ?_
                      refine lv_goto (tgt := 140) hx hb dX7_follow_132 (by decide) ?_
                      exact cut_140 _ _ _ ls _ _ (rfl) (rfl) (congrArg lN (if_pos c_128).symm) (lv_sub hl [1, 2, 3] rfl) (hP) (hD) hS
              exact cut_94 (my + 1) 0 _ _ _ ls _ _ (by omega) (ite_lt (by omega) (by omega)) (by omega) (rfl) (rfl) (rfl) (lv_sub hl [2, 3, 1, 0] rfl) (hP) (hD) hS
            refine lv_aload_n hx hb dX7_follow_73 rfl (lv_at hl 2 rfl) ?_
            refine va_get (D := (dC, dI)) (ci := 6) (v := .int (nI ma)) (C := RX7) (T := TX7) (N := 17) hx hb hts hinX7 hown hK hP 0 rfl rfl 5 (by decide) (hts (.fieldLink RX7 136 "ReshuffleSearchModel" "manner" "I") (by decide +kernel)) (fun _ h9 => h9) rfl dX7_follow_74 ?_
            refine lv_iconst (v := nI 2) hx hb dX7_follow_77 (by decide +kernel) ?_
            refine wk_icmp_ne (tgt := 85) hx hb (by omega) (by omega) dX7_follow_78 (by decide) (fun c_78 => ?_) (fun c_78 => ?_)
            · refine lv_aload_n hx hb dX7_follow_85 rfl (lv_at hl 2 rfl) ?_
              refine lv_lload_n hx hb dX7_follow_86 rfl (lv_at hl 0 rfl) ?_
              refine pu_go (va_runV (As := [.long (lN (nwy G (nwr G GO 20).2 (nwr G GO 20).1 16))]) (rest := []) ⟨hx, hb, hml, hown, hts⟩ (c_X7_left l dC dI (mW ad cI cJ cB 0 n t kp ma my ((nwr G GO 20).1) G F T M WG ((nwr G GO 20).2) Y V AT NX) [(cI, .int), (cJ, .long), (cB, .byte)] (ad 0) _ rfl n rfl hn0 t rfl ht0 (nwy G (nwr G GO 20).2 (nwr G GO 20).1 16) (by first | omega | assumption)) (cwV 1 hts gX7_follow_X7_left rfl rfl rfl (by decide +kernel) ⟨Nat.le_of_ble_eq_true rfl, Nat.le_of_ble_eq_true rfl⟩) ⟨fun a U g mk q => ⟨q.1, q.2.1, va_K.moved (u := U) (U := U.calling g mk a) (Vm.Alike.refl U.vm) q.2.2⟩, va_recv hK hP (ci := 6) (q0 := 0) rfl rfl, fun U hU hW => ⟨rfl, by rw [hU]; exact hP, va_K.moved hW.alike hK⟩⟩ rfl rfl hl.1 rfl (lv_room (Nat.le_of_ble_eq_true rfl)) dX7_follow_87 ⟨Nat.le_refl _, Nat.le_refl _⟩) ?_
              exact cut_90 _ _ ls _ _ (rfl) (by rw [if_neg c_78]) (lv_sub hl [2, 1] rfl) (hP) (hD) hS
            · refine lv_lload_n hx hb dX7_follow_81 rfl (lv_at hl 0 rfl) ?_
              refine lv_goto (tgt := 90) hx hb dX7_follow_82 (by decide) ?_
              exact cut_90 _ _ ls _ _ (rfl) (by rw [if_pos c_78]) (lv_sub hl [2, 1] rfl) (hP) (hD) hS
          · refine lv_iconst (v := nI 0) hx hb dX7_follow_61 (by decide +kernel) ?_
            exact W.iret hx hb hr (fun t9 ht hW => ⟨some (.int (nI 0)), (mW ad cI cJ cB (bn (¬ (kp ≠ 0 ∧ anb (fun j => decide (G j ≠ WG j)) 16 = false))) n t kp ma my rk G F T M WG GO Y V AT NX), rfl, Or.inl ⟨c_58, rfl, by rw [bn_t c_58]⟩, by rw [ht]; exact hP, hD, hS.F ht⟩) hS.2.2 dX7_follow_62
        refine lv_aload_n hx hb dX7_follow_44 rfl (lv_at hl 0 rfl) ?_
        refine lv_iload_n hx hb dX7_follow_45 rfl (lv_at hl 1 rfl) ?_
        refine wk_bn_eq (tgt := 53) hx hb dX7_follow_46 (by decide) (fun c_46 => ?_) (fun c_46 => ?_)
        · refine lv_iconst (v := nI 1) hx hb dX7_follow_53 (by decide +kernel) ?_
          exact cut_54 _ _ ls _ _ (rfl) (by rw [bn_t c_46]) (lv_sub hl [0, 1] rfl) (hP) (hD) hS
        · refine lv_iconst (v := nI 0) hx hb dX7_follow_49 (by decide +kernel) ?_
          refine lv_goto (tgt := 54) hx hb dX7_follow_50 (by decide) ?_
          exact cut_54 _ _ ls _ _ (rfl) (by rw [bn_f (fun q => q c_46)]) (lv_sub hl [0, 1] rfl) (hP) (hD) hS
      · have cut_37 : ∀ (v37_2 : Int32) (u37_0 : Int32) (ls : Array Slot) (H : Heap) (locs : List Loc) (_ : v37_2 = nI k) (_ : u37_0 = nI (bn (kp ≠ 0 ∧ anb (fun j => decide (G j ≠ WG j)) (k + 1) = false))) (_ : lv_has ls 7 [(0, .ref (ad 0)), (2, .int v37_2)]) (_ : va_P (dC, dI) vwCl (mW ad cI cJ cB th n t kp ma my rk G F T M WG GO Y V AT NX) H) (_ : va_D A (mW ad cI cJ cB th n t kp ma my rk G F T M WG GO Y V AT NX)) (_ : va_S A s.heap H locs), W p l e (headSpec wsX7_follow ({ frames := 3, cells := 0, slots := 0, locals := 75 })).room s m ([.ref (ad 0)] : List Value).toArray below meth c H locs 0 0 (MQ below (wr_Q (dC, dI) A (fun r W1 => (¬ (kp ≠ 0 ∧ anb (fun j => decide (G j ≠ WG j)) 16 = false) ∧ r = some (.int (nI 0)) ∧ W1 = (mW ad cI cJ cB 1 n t kp ma my rk G F T M WG GO Y V AT NX)) ∨ ((kp ≠ 0 ∧ anb (fun j => decide (G j ≠ WG j)) 16 = false) ∧ r = some (.int (nI (bxs G 16 - bxs (gfo G (nwr G GO 20).2 (mfp ma n t F T (if ma = 2 then nwy G (nwr G GO 20).2 (nwr G GO 20).1 16 else mleft n t (nwy G (nwr G GO 20).2 (nwr G GO 20).1 16)) my) 16) 16))) ∧ W1 = (mW ad cI cJ cB 0 n t kp ma my ((nwr G GO 20).1) (gfo G (nwr G GO 20).2 (mfp ma n t F T (if ma = 2 then nwy G (nwr G GO 20).2 (nwr G GO 20).1 16 else mleft n t (nwy G (nwr G GO 20).2 (nwr G GO 20).1 16)) my) 16) F T M WG ((nwr G GO 20).2) Y V AT NX)))) ([.ref (ad 0)] : List Value).toArray s 0 0 A) (F0 m 37 ls [.int u37_0]) := by
          rintro v37_2 u37_0 ls H locs rfl rfl hl hP hD hS
          refine lv_istore_n (lv' := [(1, .int (nI (bn (kp ≠ 0 ∧ anb (fun j => decide (G j ≠ WG j)) (k + 1) = false)))), (0, .ref (ad 0)), (2, .int (nI k))]) hx hb dX7_follow_37 rfl hl (by decide) rfl (fun ls hl => ?_)
          refine lv_iinc (v := nI (k + 1)) (lv' := [(2, .int (nI (k + 1))), (1, .int (nI (bn (kp ≠ 0 ∧ anb (fun j => decide (G j ≠ WG j)) (k + 1) = false)))), (0, .ref (ad 0))]) hx hb dX7_follow_38 hl (k := 2) rfl (wk_inc _ 1 rfl) (by decide) rfl (fun ls hl => ?_)
          refine lv_goto (tgt := 7) hx hb dX7_follow_41 (by decide) ?_
          exact ih_7 (k + 1) _ _ ls _ _ (by omega) (by omega) (rfl) (rfl) (lv_sub hl [2, 1, 0] rfl) (hP) (hD) hS
        refine lv_iload_n hx hb dX7_follow_13 rfl (lv_at hl 1 rfl) ?_
        refine wk_bn_eq (tgt := 36) hx hb dX7_follow_14 (by decide) (fun c_14 => ?_) (fun c_14 => ?_)
        · refine lv_iconst (v := nI 0) hx hb dX7_follow_36 (by decide +kernel) ?_
          exact cut_37 _ _ ls _ _ (rfl) (by rw [bn_f (fun q => by exact c_14 ⟨q.1, by have := q.2; rw [anb_s, Bool.or_eq_false_iff] at this; exact this.1⟩)]) (lv_sub hl [0, 2] rfl) (hP) (hD) hS
        · refine lv_aload_n hx hb dX7_follow_17 rfl (lv_at hl 0 rfl) ?_
          refine va_get (D := (dC, dI)) (ci := 6) (v := .ref (ad 3)) (C := RX7) (T := TX7) (N := 17) hx hb hts hinX7 hown hK hP 0 rfl rfl 3 (by decide) (hts (.fieldLink RX7 7 "ReshuffleSearchModel" "group" "[I") (by decide +kernel)) (fun _ h9 => h9) rfl dX7_follow_18 ?_
          refine lv_iload_n hx hb dX7_follow_21 rfl (lv_at hl 2 rfl) ?_
          refine wk_iald hx hb hK hP 1 0 rfl rfl (by omega) dX7_follow_22 ?_
          refine lv_aload_n hx hb dX7_follow_23 rfl (lv_at hl 0 rfl) ?_
          refine va_get (D := (dC, dI)) (ci := 6) (v := .ref (ad 10)) (C := RX7) (T := TX7) (N := 17) hx hb hts hinX7 hown hK hP 0 rfl rfl 10 (by decide) (hts (.fieldLink RX7 22 "ReshuffleSearchModel" "wasGroup" "[I") (by decide +kernel)) (fun _ h9 => h9) rfl dX7_follow_24 ?_
          refine lv_iload_n hx hb dX7_follow_27 rfl (lv_at hl 2 rfl) ?_
          refine wk_iald hx hb hK hP 5 0 rfl rfl (by omega) dX7_follow_28 ?_
          refine wk_icmp_ne (tgt := 36) hx hb (hG _) (hWG _) dX7_follow_29 (by decide) (fun c_29 => ?_) (fun c_29 => ?_)
          · refine lv_iconst (v := nI 0) hx hb dX7_follow_36 (by decide +kernel) ?_
            exact cut_37 _ _ ls _ _ (rfl) (by rw [bn_f (fun q => by have := q.2; rw [anb_s, Bool.or_eq_false_iff] at this; exact of_decide_eq_false this.2 c_29)]) (lv_sub hl [0, 2] rfl) (hP) (hD) hS
          · refine lv_iconst (v := nI 1) hx hb dX7_follow_32 (by decide +kernel) ?_
            refine lv_goto (tgt := 37) hx hb dX7_follow_33 (by decide) ?_
            exact cut_37 _ _ ls _ _ (rfl) (by rw [bn_t ⟨c_14.1, by rw [anb_s, c_14.2, Bool.false_or]; exact decide_eq_false (fun q => q c_29)⟩]) (lv_sub hl [0, 2] rfl) (hP) (hD) hS
  exact cut_7 (16 + 1) 0 _ _ ls _ _ (by omega) (by omega) (by rcases (show kp = 0 ∨ kp = 1 by omega) with h | h; rw [bn_f (fun q => q.1 h), h]; rw [bn_t ⟨by omega, rfl⟩, h]) (rfl) (lv_sub hl [2, 1, 0] rfl) (hP) (hD) hS
