def ksv (i j : Int32) : Nat := if i < 0 ∨ nI 2 < i ∨ j < 0 ∨ nI 30 < j then 1 else 0
theorem ksv_le {i j : Int32} : ksv i j ≤ 1 := by unfold ksv; split <;> omega
theorem up_nat {j : Int32} {k : Nat} (hk : k < 1000000) (h1 : ¬ j < 0) (h2 : ¬ nI k < j) : ∃ a, a ≤ k ∧ j = nI a := by
  obtain ⟨a, ha, rfl⟩ := nI_of h1
  exact ⟨a, Nat.le_of_not_lt (fun q => h2 (nI_lt q ha)), rfl⟩
theorem ksv0 {i j : Int32} (h : ksv i j = 0) : ∃ m0 mo, m0 < 3 ∧ mo ≤ 30 ∧ i = nI m0 ∧ j = nI mo := by
  unfold ksv at h
  split at h
  · exact absurd h (by decide)
  · next q =>
    obtain ⟨a, h1, e1⟩ := up_nat (k := 2) (by decide) (fun z => q (Or.inl z)) (fun z => q (Or.inr (Or.inl z)))
    obtain ⟨b, h2, e2⟩ := up_nat (k := 30) (by decide) (fun z => q (Or.inr (Or.inr (Or.inl z)))) (fun z => q (Or.inr (Or.inr (Or.inr z))))
    exact ⟨a, b, by omega, h2, e1, e2⟩
theorem bn_ne {P : Prop} [Decidable P] (h : bn P ≠ 0) : P := Classical.byContradiction (fun q => h (bn_f q))
theorem bn_eq {P : Prop} [Decidable P] (h : bn P = 0) : ¬ P := fun q => by rw [bn_t q] at h; exact absurd h (by decide)
theorem nar2 {k : Nat} (h : k < 2) : narrow .boolean (.int (nI k)) = .int (nI k) := by
  rcases (show k = 0 ∨ k = 1 by omega) with rfl | rfl <;> decide +kernel
theorem fit2 {k : Nat} (h : k < 2) : fits .boolean (.int (nI k)) = true := by
  rcases (show k = 0 ∨ k = 1 by omega) with rfl | rfl <;> decide +kernel
theorem none_off {α : Type} {o : Option α} (h : ¬ o.isSome = true) : o = none := by
  cases o with
  | none => rfl
  | some a => exact absurd rfl h
/-- how a search of the reference ends -/
def sres (m0 mo n t : Nat) (GO F T M : Nat → Nat) (Rt : Nat → List Nat) (r : Option Value) (kp my ma : Nat) (WG G WG0 : Nat → Nat) : Prop :=
  (r = some (.int (-2)) ∧ kp = 0 ∧ ∀ j, j ≤ 30 → way m0 n t j Rt = none) ∨ ∃ k, least m0 n t Rt k ∧ ((mo < k ∧ r = some (.int (-1)) ∧ kp = 0) ∨ (k ≤ mo ∧ r = some (.int (nI k)) ∧ kp = 1 ∧ my = k ∧ ma = m0 ∧ WG = cpy WG0 G 16 ∧ ∃ w, way m0 n t k Rt = some w ∧ wsg m0 n t GO F T M 0 w Rt))
set_option maxHeartbeats 16000000 in
set_option maxRecDepth 100000 in
theorem c_X7_solve (l : Launch) (dC : Nat → ClassId) (dI : Nat → Nat → Nat) (ad : Nat → Nat) (cI cJ cB : ClassId) (th n t kp ma my rk : Nat) (G F T M WG GO Y V AT NX : Nat → Nat) (hn0 : 2 ≤ n ∧ n ≤ 4) (ht0 : 2 ≤ t ∧ t ≤ 4) (hG : ∀ j, G j < 2147483648) (hGO : ∀ j, GO j < 2147483648) (hR : (nwr G GO 20).1 ≤ 6) (hV0 : ∀ j, V j < 128) (hY0 : ∀ j, Y j < 2 ^ 63) (hFT : ∀ j, F j < 4 ∧ T j < 4) (hmy : my ≤ 30) (hkp : kp < 2) (hma : ma < 3) (Yd : Nat → List Nat) (hYd : okY n t Yd) (hbx : bxY Yd ≤ 6) (hnw : nwy G (nwr G GO 20).2 (nwr G GO 20).1 16 = mE Yd) (i j : Int32)  (sz : Nat) : Met l yX7_solve wsX7_solve ({ frames := 5, cells := 0, slots := 0, locals := 126 }) (va_Pc [.ref (ad 0), .int i, .int j] (wr_P (dC, dI) [(cI, .int), (cJ, .long), (cB, .byte)] (mW ad cI cJ cB th n t kp ma my rk G F T M WG GO Y V AT NX) sz)) (wr_Q (dC, dI) (va_A (mW ad cI cJ cB th n t kp ma my rk G F T M WG GO Y V AT NX) sz) (fun r W1 => (ksv i j = 1 ∧ r = some (.int (nI 0)) ∧ W1 = (mW ad cI cJ cB 1 n t kp ma my rk G F T M WG GO Y V AT NX)) ∨ (ksv i j = 0 ∧ ∃ m0 mo, m0 < 3 ∧ mo ≤ 30 ∧ i = nI m0 ∧ j = nI mo ∧ ∃ F1 T1 M1 Y1 V1 AT1 NX1 WG1 my1 kp1 ma1, W1 = (mW ad cI cJ cB 0 n t kp1 ma1 my1 ((nwr G GO 20).1) G F1 T1 M1 WG1 ((nwr G GO 20).2) Y1 V1 AT1 NX1) ∧ (∀ j, F1 j < 4 ∧ T1 j < 4) ∧ (∀ j, V1 j < 128) ∧ (∀ j, Y1 j < 2 ^ 63) ∧ my1 ≤ 30 ∧ kp1 < 2 ∧ ma1 < 3 ∧ (WG1 = WG ∨ WG1 = cpy WG G 16) ∧ sres m0 mo n t (nwr G GO 20).2 F1 T1 M1 (stl m0 Yd) r kp1 my1 ma1 WG1 G WG))) 0 0 (va_A (mW ad cI cJ cB th n t kp ma my rk G F T M WG GO Y V AT NX) sz) := by
  refine Met.ofW (cc := cX7_solve) (maxL := 7) (ret := (some .int)) (by decide) rfl ?_
  intro p e s m args below meth c s₁ B hml hv
  obtain ⟨rfl, hsz, hP, hK, hD0⟩ := hv
  have hx := B.exec
  have hb := B.bytes
  have hr := B.returns
  have hts := atoms_spec (ws := wsX7_solve) B.pre
  have hown : s.vm.findClass RX7 = some m.cls := findClass_of_methodNamed B.named
  have hlocks := B.notSynchronized
  have hinX7 : ∀ w ∈ u_ws RX7 TX7 17, w ∈ wsX7_solve := by decide +kernel
  subst hsz
  have hD := hD0.self (sz := s.heap.size)
  generalize hAe : va_A (mW ad cI cJ cB th n t kp ma my rk G F T M WG GO Y V AT NX) s.heap.size = A at hD ⊢
  have hA : ∀ q : Nat, s.heap.size ≤ q → A q := fun q h => by rw [← hAe]; exact Or.inr h
  have hS : va_S A s.heap s.heap [] := va_S.rf
  have hl := lv_entry ([.ref (ad 0), .int i, .int j]) (n := 7) (Nat.le_of_ble_eq_true rfl)
  rw [lg_entry_eq]
  generalize (lg_sl ([.ref (ad 0), .int i, .int j]) ++ List.replicate (7 - (lg_sl ([.ref (ad 0), .int i, .int j])).length) Slot.unset).toArray = ls at hl ⊢
  have hl : lv_has ls 7 [(0, .ref (ad 0)), (1, .int i), (2, .int j)] := hl
  have hq0 := nwy_48 (G := G) (GO := (nwr G GO 20).2) hR
  have cut_25 : ∀ (v25_1 : Int32) (v25_2 : Int32) (u25_0 : Int32) (ls : Array Slot) (H : Heap) (locs : List Loc) (_ : i = v25_1) (_ : j = v25_2) (_ : u25_0 = nI (ksv i j)) (_ : lv_has ls 7 [(0, .ref (ad 0)), (1, .int v25_1), (2, .int v25_2)]) (_ : va_P (dC, dI) vwCl (mW ad cI cJ cB th n t kp ma my rk G F T M WG GO Y V AT NX) H) (_ : va_D A (mW ad cI cJ cB th n t kp ma my rk G F T M WG GO Y V AT NX)) (_ : va_S A s.heap H locs), W p l e (headSpec wsX7_solve ({ frames := 5, cells := 0, slots := 0, locals := 126 })).room s m ([.ref (ad 0), .int i, .int j] : List Value).toArray below meth c H locs 0 0 (MQ below (wr_Q (dC, dI) A (fun r W1 => (ksv i j = 1 ∧ r = some (.int (nI 0)) ∧ W1 = (mW ad cI cJ cB 1 n t kp ma my rk G F T M WG GO Y V AT NX)) ∨ (ksv i j = 0 ∧ ∃ m0 mo, m0 < 3 ∧ mo ≤ 30 ∧ i = nI m0 ∧ j = nI mo ∧ ∃ F1 T1 M1 Y1 V1 AT1 NX1 WG1 my1 kp1 ma1, W1 = (mW ad cI cJ cB 0 n t kp1 ma1 my1 ((nwr G GO 20).1) G F1 T1 M1 WG1 ((nwr G GO 20).2) Y1 V1 AT1 NX1) ∧ (∀ j, F1 j < 4 ∧ T1 j < 4) ∧ (∀ j, V1 j < 128) ∧ (∀ j, Y1 j < 2 ^ 63) ∧ my1 ≤ 30 ∧ kp1 < 2 ∧ ma1 < 3 ∧ (WG1 = WG ∨ WG1 = cpy WG G 16) ∧ sres m0 mo n t (nwr G GO 20).2 F1 T1 M1 (stl m0 Yd) r kp1 my1 ma1 WG1 G WG))) ([.ref (ad 0), .int i, .int j] : List Value).toArray s 0 0 A) (F0 m 25 ls [.int u25_0, .ref (ad 0)]) := by
    rintro v25_1 v25_2 u25_0 ls H locs rfl rfl rfl hl hP hD hS
    refine va_put (D := (dC, dI)) (ci := 6) (v := .int (nI (ksv i j))) (ty := .int) (C := RX7) (T := TX7) (N := 17) hx hb hts hinX7 tyX7 tyX7_ok nmX7 hown hK hP hD hS 0 rfl rfl 0 (by decide) (hts (.fieldLink RX7 50 "ReshuffleSearchModel" "thrown" "I") (by decide +kernel)) (fun _ h9 => h9) rfl (by decide +kernel) (rfl) (rfl) (Nat.le_of_ble_eq_true rfl) dX7_solve_25 (fun H locs hP hD hS => ?_)
    have hP : va_P (dC, dI) vwCl (mW ad cI cJ cB (ksv i j) n t kp ma my rk G F T M WG GO Y V AT NX) H := hP
    have hD : va_D A (mW ad cI cJ cB (ksv i j) n t kp ma my rk G F T M WG GO Y V AT NX) := hD
    refine lv_aload_n hx hb dX7_solve_28 rfl (lv_at hl 0 rfl) ?_
    refine va_get (D := (dC, dI)) (ci := 6) (v := .int (nI (ksv i j))) (C := RX7) (T := TX7) (N := 17) hx hb hts hinX7 hown hK hP 0 rfl rfl 0 (by decide) (hts (.fieldLink RX7 50 "ReshuffleSearchModel" "thrown" "I") (by decide +kernel)) (fun _ h9 => h9) rfl dX7_solve_29 ?_
    refine wk_if_le (tgt := 37) hx hb (by have := ksv_le (i := i) (j := j); omega) dX7_solve_32 (by decide) (fun c_32 => ?_) (fun c_32 => ?_)
    · obtain ⟨m0, mo, hm0, hmo, hi, hj⟩ := ksv0 c_32
      have hst := stl_ok (man := m0) hYd hbx
      have hsm : (if m0 = 2 then nwy G (nwr G GO 20).2 (nwr G GO 20).1 16 else mleft n t (nwy G (nwr G GO 20).2 (nwr G GO 20).1 16)) = mE (stl m0 Yd) := by rw [hnw]; exact stl_mE ht0.2 hn0.2 hYd
      obtain ⟨bs, hp9, hbs⟩ := ex_sort (bxl Yd)
      have hbl : bs.length ≤ 6 := by rw [hp9.length_eq, bxl_len]; exact hbx
      have hcb : cb bs (stl m0 Yd) := cb_stl hbs hbl ⟨0, by omega, by rw [List.drop_zero]; exact hp9.symm⟩
      have hl : lv_has ls 7 [(0, .ref (ad 0)), (1, .int (nI m0)), (2, .int (nI mo))] := by rw [hi, hj] at hl; exact hl
      refine lv_iconst (v := nI 0) hx hb dX7_solve_37 (by decide +kernel) ?_
      refine lv_istore_n (lv' := [(3, .int (nI 0)), (0, .ref (ad 0)), (1, .int (nI m0)), (2, .int (nI mo))]) hx hb dX7_solve_38 rfl hl (by decide) rfl (fun ls hl => ?_)
      have cut_39 : ∀ (n_39 : Nat) (k : Nat) (v39_1 : Int32) (v39_2 : Int32) (v39_3 : Int32) (ls : Array Slot) (H : Heap) (locs : List Loc) (hk : k ≤ 131072) (hn_39 : 131072 - k < n_39) (_ : v39_1 = nI m0) (_ : v39_2 = nI mo) (_ : v39_3 = nI k) (_ : lv_has ls 7 [(0, .ref (ad 0)), (1, .int v39_1), (2, .int v39_2), (3, .int v39_3)]) (_ : va_P (dC, dI) vwCl (mW ad cI cJ cB (ksv i j) n t kp ma my rk G F T M WG GO Y (zr k 0 V) AT NX) H) (_ : va_D A (mW ad cI cJ cB (ksv i j) n t kp ma my rk G F T M WG GO Y (zr k 0 V) AT NX)) (_ : va_S A s.heap H locs), W p l e (headSpec wsX7_solve ({ frames := 5, cells := 0, slots := 0, locals := 126 })).room s m ([.ref (ad 0), .int i, .int j] : List Value).toArray below meth c H locs 0 0 (MQ below (wr_Q (dC, dI) A (fun r W1 => (ksv i j = 1 ∧ r = some (.int (nI 0)) ∧ W1 = (mW ad cI cJ cB 1 n t kp ma my rk G F T M WG GO Y V AT NX)) ∨ (ksv i j = 0 ∧ ∃ m0 mo, m0 < 3 ∧ mo ≤ 30 ∧ i = nI m0 ∧ j = nI mo ∧ ∃ F1 T1 M1 Y1 V1 AT1 NX1 WG1 my1 kp1 ma1, W1 = (mW ad cI cJ cB 0 n t kp1 ma1 my1 ((nwr G GO 20).1) G F1 T1 M1 WG1 ((nwr G GO 20).2) Y1 V1 AT1 NX1) ∧ (∀ j, F1 j < 4 ∧ T1 j < 4) ∧ (∀ j, V1 j < 128) ∧ (∀ j, Y1 j < 2 ^ 63) ∧ my1 ≤ 30 ∧ kp1 < 2 ∧ ma1 < 3 ∧ (WG1 = WG ∨ WG1 = cpy WG G 16) ∧ sres m0 mo n t (nwr G GO 20).2 F1 T1 M1 (stl m0 Yd) r kp1 my1 ma1 WG1 G WG))) ([.ref (ad 0), .int i, .int j] : List Value).toArray s 0 0 A) (F0 m 39 ls []) := by
        intro n_39
        induction n_39 with
        | zero => intros; omega
        | succ n_39 ih_39 =>
          rintro k v39_1 v39_2 v39_3 ls H locs hk hn_39 rfl rfl rfl hl hP hD hS
          refine lv_iload_n hx hb dX7_solve_39 rfl (lv_at hl 3 rfl) ?_
          refine lv_ldc (v := 131072) hx hb hown (hts (.constant RX7 28 (131072)) (by decide +kernel)) dX7_solve_40 ?_
          refine wk_ti (v' := nI 131072) (by decide +kernel) ?_
          refine wk_icmp_ge (tgt := 58) hx hb (by omega) (by omega) dX7_solve_42 (by decide) (fun c_42 => ?_) (fun c_42 => ?_)
          · have hk13 : k = 131072 := by omega
            rw [hk13] at hP hD
            have hl : lv_has ls 7 [(0, .ref (ad 0)), (1, .int (nI m0)), (2, .int (nI mo)), (3, .int (nI k))] := by exact hl
            refine lv_aload_n hx hb dX7_solve_58 rfl (lv_at hl 0 rfl) ?_
            have hFc := va_free (wc := (mW ad cI cJ cB (ksv i j) n t kp ma my rk G F T M WG GO Y (zr 131072 0 V) AT NX)) hD hS hA [0, 1, 2, 3, 4, 5, 6, 7, 8, 9, 10] rfl
            refine wr_go (va_runV (As := []) (rest := []) ⟨hx, hb, hml, hown, hts⟩ (c_X7_now l dC dI ad cI cJ cB (ksv i j) n t kp ma my rk G F T M WG GO Y (zr 131072 0 V) AT NX hG hGO hR H.size) (cwV 0 hts gX7_solve_X7_now rfl rfl rfl (by decide +kernel) ⟨Nat.le_of_ble_eq_true rfl, Nat.le_of_ble_eq_true rfl⟩) ⟨wr_blind, va_recv hK hP (ci := 6) (q0 := 0) rfl rfl, fun U hU hW => ⟨rfl, by rw [hU], by rw [hU]; exact hP, va_K.moved hW.alike hK, hD.weaken (fun _ _ _ _ => trivial)⟩⟩ rfl rfl hl.1 rfl (lv_room (Nat.le_of_ble_eq_true rfl)) dX7_solve_59 ⟨Nat.le_refl _, Nat.le_refl _⟩) hS hFc hFc (fun r9 W9 H locs hpost hP hD9 hz9 hk9 hS => ?_)
            have hD := hD9.weaken (fun _ _ _ h => hFc _ h)
            obtain ⟨rfl, rfl⟩ := hpost
            have hP : va_P (dC, dI) vwCl (mW ad cI cJ cB (ksv i j) n t kp ma my ((nwr G GO 20).1) G F T M WG ((nwr G GO 20).2) Y (zr 131072 0 V) AT NX) H := hP
            have hD : va_D A (mW ad cI cJ cB (ksv i j) n t kp ma my ((nwr G GO 20).1) G F T M WG ((nwr G GO 20).2) Y (zr 131072 0 V) AT NX) := hD
            refine W.eq (g2 := F0 m 62 ls [.long (lN (nwy G (nwr G GO 20).2 (nwr G GO 20).1 16))]) rfl ?_
            refine lv_lstore_n (lv' := [(3, .long (lN (nwy G (nwr G GO 20).2 (nwr G GO 20).1 16))), (0, .ref (ad 0)), (1, .int (nI m0)), (2, .int (nI mo))]) hx hb dX7_solve_62 rfl hl (by decide) rfl (fun ls hl => ?_)
            have cut_82 : ∀ (v82_1 : Int32) (v82_2 : Int32) (u82_0 : Int64) (u82_1 : Int32) (ls : Array Slot) (H : Heap) (locs : List Loc) (_ : v82_1 = nI m0) (_ : v82_2 = nI mo) (_ : u82_0 = lN (mE (stl m0 Yd))) (_ : u82_1 = nI 0) (_ : lv_has ls 7 [(0, .ref (ad 0)), (1, .int v82_1), (2, .int v82_2)]) (_ : va_P (dC, dI) vwCl (mW ad cI cJ cB (ksv i j) n t kp ma my ((nwr G GO 20).1) G F T M WG ((nwr G GO 20).2) Y (zr 131072 0 V) AT NX) H) (_ : va_D A (mW ad cI cJ cB (ksv i j) n t kp ma my ((nwr G GO 20).1) G F T M WG ((nwr G GO 20).2) Y (zr 131072 0 V) AT NX)) (_ : va_S A s.heap H locs), W p l e (headSpec wsX7_solve ({ frames := 5, cells := 0, slots := 0, locals := 126 })).room s m ([.ref (ad 0), .int i, .int j] : List Value).toArray below meth c H locs 0 0 (MQ below (wr_Q (dC, dI) A (fun r W1 => (ksv i j = 1 ∧ r = some (.int (nI 0)) ∧ W1 = (mW ad cI cJ cB 1 n t kp ma my rk G F T M WG GO Y V AT NX)) ∨ (ksv i j = 0 ∧ ∃ m0 mo, m0 < 3 ∧ mo ≤ 30 ∧ i = nI m0 ∧ j = nI mo ∧ ∃ F1 T1 M1 Y1 V1 AT1 NX1 WG1 my1 kp1 ma1, W1 = (mW ad cI cJ cB 0 n t kp1 ma1 my1 ((nwr G GO 20).1) G F1 T1 M1 WG1 ((nwr G GO 20).2) Y1 V1 AT1 NX1) ∧ (∀ j, F1 j < 4 ∧ T1 j < 4) ∧ (∀ j, V1 j < 128) ∧ (∀ j, Y1 j < 2 ^ 63) ∧ my1 ≤ 30 ∧ kp1 < 2 ∧ ma1 < 3 ∧ (WG1 = WG ∨ WG1 = cpy WG G 16) ∧ sres m0 mo n t (nwr G GO 20).2 F1 T1 M1 (stl m0 Yd) r kp1 my1 ma1 WG1 G WG))) ([.ref (ad 0), .int i, .int j] : List Value).toArray s 0 0 A) (F0 m 82 ls [.long u82_0, .int u82_1, .ref (ad 15)]) := by
              rintro v82_1 v82_2 u82_0 u82_1 ls H locs rfl rfl rfl rfl hl hP hD hS
              refine wk_last hx hb hK hP hD hS 9 1 rfl rfl (by omega) dX7_solve_82 (fun H locs hP hD hS => ?_)
              have hP : va_P (dC, dI) vwCl (mW ad cI cJ cB (ksv i j) n t kp ma my ((nwr G GO 20).1) G F T M WG ((nwr G GO 20).2) Y (zr 131072 0 V) (upN AT 0 (mE (stl m0 Yd))) NX) H := hP
              have hD : va_D A (mW ad cI cJ cB (ksv i j) n t kp ma my ((nwr G GO 20).1) G F T M WG ((nwr G GO 20).2) Y (zr 131072 0 V) (upN AT 0 (mE (stl m0 Yd))) NX) := hD
              refine lv_aload_n hx hb dX7_solve_83 rfl (lv_at hl 0 rfl) ?_
              refine lv_iconst (v := nI 0) hx hb dX7_solve_84 (by decide +kernel) ?_
              refine va_put (D := (dC, dI)) (ci := 6) (v := .int (nI 0)) (ty := .boolean) (C := RX7) (T := TX7) (N := 17) hx hb hts hinX7 tyX7 tyX7_ok nmX7 hown hK hP hD hS 0 rfl rfl 4 (by decide) (hts (.fieldLink RX7 128 "ReshuffleSearchModel" "isKept" "Z") (by decide +kernel)) (fun _ h9 => h9) rfl (by decide +kernel) (by decide +kernel) (by decide +kernel) (Nat.le_of_ble_eq_true rfl) dX7_solve_85 (fun H locs hP hD hS => ?_)
              have hP : va_P (dC, dI) vwCl (mW ad cI cJ cB (ksv i j) n t 0 ma my ((nwr G GO 20).1) G F T M WG ((nwr G GO 20).2) Y (zr 131072 0 V) (upN AT 0 (mE (stl m0 Yd))) NX) H := hP
              have hD : va_D A (mW ad cI cJ cB (ksv i j) n t 0 ma my ((nwr G GO 20).1) G F T M WG ((nwr G GO 20).2) Y (zr 131072 0 V) (upN AT 0 (mE (stl m0 Yd))) NX) := hD
              have cut_122 : ∀ (kp9 : Nat) (my9 : Nat) (AT1 : Nat → Nat) (NX1 : Nat → Nat) (F1 : Nat → Nat) (T1 : Nat → Nat) (M1 : Nat → Nat) (Y1 : Nat → Nat) (V1 : Nat → Nat) (v122_1 : Int32) (v122_2 : Int32) (ls : Array Slot) (H : Heap) (locs : List Loc) (hk9 : kp9 < 2) (hm9 : my9 ≤ 30) (hTI1 : tI m0 n t bs V1 Y1) (hFT1 : ∀ j, F1 j < 4 ∧ T1 j < 4) (hf9 : kp9 ≠ 0 → ∃ w, least m0 n t (stl m0 Yd) my9 ∧ way m0 n t my9 (stl m0 Yd) = some w ∧ wsg m0 n t (nwr G GO 20).2 F1 T1 M1 0 w (stl m0 Yd)) (hzz : kp9 = 0 → ∀ j, j ≤ 30 → way m0 n t j (stl m0 Yd) = none) (_ : v122_1 = nI m0) (_ : v122_2 = nI mo) (_ : lv_has ls 7 [(0, .ref (ad 0)), (1, .int v122_1), (2, .int v122_2)]) (_ : va_P (dC, dI) vwCl (mW ad cI cJ cB (ksv i j) n t kp9 ma my9 ((nwr G GO 20).1) G F1 T1 M1 WG ((nwr G GO 20).2) Y1 V1 AT1 NX1) H) (_ : va_D A (mW ad cI cJ cB (ksv i j) n t kp9 ma my9 ((nwr G GO 20).1) G F1 T1 M1 WG ((nwr G GO 20).2) Y1 V1 AT1 NX1)) (_ : va_S A s.heap H locs), W p l e (headSpec wsX7_solve ({ frames := 5, cells := 0, slots := 0, locals := 126 })).room s m ([.ref (ad 0), .int i, .int j] : List Value).toArray below meth c H locs 0 0 (MQ below (wr_Q (dC, dI) A (fun r W1 => (ksv i j = 1 ∧ r = some (.int (nI 0)) ∧ W1 = (mW ad cI cJ cB 1 n t kp ma my rk G F T M WG GO Y V AT NX)) ∨ (ksv i j = 0 ∧ ∃ m0 mo, m0 < 3 ∧ mo ≤ 30 ∧ i = nI m0 ∧ j = nI mo ∧ ∃ F1 T1 M1 Y1 V1 AT1 NX1 WG1 my1 kp1 ma1, W1 = (mW ad cI cJ cB 0 n t kp1 ma1 my1 ((nwr G GO 20).1) G F1 T1 M1 WG1 ((nwr G GO 20).2) Y1 V1 AT1 NX1) ∧ (∀ j, F1 j < 4 ∧ T1 j < 4) ∧ (∀ j, V1 j < 128) ∧ (∀ j, Y1 j < 2 ^ 63) ∧ my1 ≤ 30 ∧ kp1 < 2 ∧ ma1 < 3 ∧ (WG1 = WG ∨ WG1 = cpy WG G 16) ∧ sres m0 mo n t (nwr G GO 20).2 F1 T1 M1 (stl m0 Yd) r kp1 my1 ma1 WG1 G WG))) ([.ref (ad 0), .int i, .int j] : List Value).toArray s 0 0 A) (F0 m 122 ls []) := by
                rintro kp9 my9 AT1 NX1 F1 T1 M1 Y1 V1 v122_1 v122_2 ls H locs hk9 hm9 hTI1 hFT1 hf9 hzz rfl rfl hl hP hD hS
                refine lv_aload_n hx hb dX7_solve_122 rfl (lv_at hl 0 rfl) ?_
                refine va_get (D := (dC, dI)) (ci := 6) (v := .int (nI kp9)) (C := RX7) (T := TX7) (N := 17) hx hb hts hinX7 hown hK hP 0 rfl rfl 4 (by decide) (hts (.fieldLink RX7 128 "ReshuffleSearchModel" "isKept" "Z") (by decide +kernel)) (fun _ h9 => h9) rfl dX7_solve_123 ?_
                refine wk_if_ne (tgt := 132) hx hb (by omega) dX7_solve_126 (by decide) (fun c_126 => ?_) (fun c_126 => ?_)
                · obtain ⟨w9, hle, hw9, hws⟩ := hf9 c_126
                  have cut_146 : ∀ (kq : Nat) (v146_1 : Int32) (v146_2 : Int32) (u146_0 : Int32) (ls : Array Slot) (H : Heap) (locs : List Loc) (hq1 : kq < 2) (hq2 : kq = 0 → mo < my9) (hq3 : kq ≠ 0 → my9 ≤ mo) (_ : v146_1 = nI m0) (_ : v146_2 = nI mo) (_ : u146_0 = nI kq) (_ : lv_has ls 7 [(0, .ref (ad 0)), (1, .int v146_1), (2, .int v146_2)]) (_ : va_P (dC, dI) vwCl (mW ad cI cJ cB (ksv i j) n t kp9 ma my9 ((nwr G GO 20).1) G F1 T1 M1 WG ((nwr G GO 20).2) Y1 V1 AT1 NX1) H) (_ : va_D A (mW ad cI cJ cB (ksv i j) n t kp9 ma my9 ((nwr G GO 20).1) G F1 T1 M1 WG ((nwr G GO 20).2) Y1 V1 AT1 NX1)) (_ : va_S A s.heap H locs), W p l e (headSpec wsX7_solve ({ frames := 5, cells := 0, slots := 0, locals := 126 })).room s m ([.ref (ad 0), .int i, .int j] : List Value).toArray below meth c H locs 0 0 (MQ below (wr_Q (dC, dI) A (fun r W1 => (ksv i j = 1 ∧ r = some (.int (nI 0)) ∧ W1 = (mW ad cI cJ cB 1 n t kp ma my rk G F T M WG GO Y V AT NX)) ∨ (ksv i j = 0 ∧ ∃ m0 mo, m0 < 3 ∧ mo ≤ 30 ∧ i = nI m0 ∧ j = nI mo ∧ ∃ F1 T1 M1 Y1 V1 AT1 NX1 WG1 my1 kp1 ma1, W1 = (mW ad cI cJ cB 0 n t kp1 ma1 my1 ((nwr G GO 20).1) G F1 T1 M1 WG1 ((nwr G GO 20).2) Y1 V1 AT1 NX1) ∧ (∀ j, F1 j < 4 ∧ T1 j < 4) ∧ (∀ j, V1 j < 128) ∧ (∀ j, Y1 j < 2 ^ 63) ∧ my1 ≤ 30 ∧ kp1 < 2 ∧ ma1 < 3 ∧ (WG1 = WG ∨ WG1 = cpy WG G 16) ∧ sres m0 mo n t (nwr G GO 20).2 F1 T1 M1 (stl m0 Yd) r kp1 my1 ma1 WG1 G WG))) ([.ref (ad 0), .int i, .int j] : List Value).toArray s 0 0 A) (F0 m 146 ls [.int u146_0, .ref (ad 0)]) := by
                    rintro kq v146_1 v146_2 u146_0 ls H locs hq1 hq2 hq3 rfl rfl rfl hl hP hD hS
                    refine va_put (D := (dC, dI)) (ci := 6) (v := .int (nI kq)) (ty := .boolean) (C := RX7) (T := TX7) (N := 17) hx hb hts hinX7 tyX7 tyX7_ok nmX7 hown hK hP hD hS 0 rfl rfl 4 (by decide) (hts (.fieldLink RX7 128 "ReshuffleSearchModel" "isKept" "Z") (by decide +kernel)) (fun _ h9 => h9) rfl (by decide +kernel) (nar2 hq1) (fit2 hq1) (Nat.le_of_ble_eq_true rfl) dX7_solve_146 (fun H locs hP hD hS => ?_)
                    have hP : va_P (dC, dI) vwCl (mW ad cI cJ cB (ksv i j) n t kq ma my9 ((nwr G GO 20).1) G F1 T1 M1 WG ((nwr G GO 20).2) Y1 V1 AT1 NX1) H := hP
                    have hD : va_D A (mW ad cI cJ cB (ksv i j) n t kq ma my9 ((nwr G GO 20).1) G F1 T1 M1 WG ((nwr G GO 20).2) Y1 V1 AT1 NX1) := hD
                    refine lv_aload_n hx hb dX7_solve_149 rfl (lv_at hl 0 rfl) ?_
                    refine va_get (D := (dC, dI)) (ci := 6) (v := .int (nI kq)) (C := RX7) (T := TX7) (N := 17) hx hb hts hinX7 hown hK hP 0 rfl rfl 4 (by decide) (hts (.fieldLink RX7 128 "ReshuffleSearchModel" "isKept" "Z") (by decide +kernel)) (fun _ h9 => h9) rfl dX7_solve_150 ?_
                    refine wk_if_ne (tgt := 158) hx hb (by omega) dX7_solve_153 (by decide) (fun c_153 => ?_) (fun c_153 => ?_)
                    · refine lv_aload_n hx hb dX7_solve_158 rfl (lv_at hl 0 rfl) ?_
                      refine lv_iload_n hx hb dX7_solve_159 rfl (lv_at hl 1 rfl) ?_
                      refine va_put (D := (dC, dI)) (ci := 6) (v := .int (nI m0)) (ty := .int) (C := RX7) (T := TX7) (N := 17) hx hb hts hinX7 tyX7 tyX7_ok nmX7 hown hK hP hD hS 0 rfl rfl 5 (by decide) (hts (.fieldLink RX7 136 "ReshuffleSearchModel" "manner" "I") (by decide +kernel)) (fun _ h9 => h9) rfl (by decide +kernel) (rfl) (rfl) (Nat.le_of_ble_eq_true rfl) dX7_solve_160 (fun H locs hP hD hS => ?_)
                      have hP : va_P (dC, dI) vwCl (mW ad cI cJ cB (ksv i j) n t kq m0 my9 ((nwr G GO 20).1) G F1 T1 M1 WG ((nwr G GO 20).2) Y1 V1 AT1 NX1) H := hP
                      have hD : va_D A (mW ad cI cJ cB (ksv i j) n t kq m0 my9 ((nwr G GO 20).1) G F1 T1 M1 WG ((nwr G GO 20).2) Y1 V1 AT1 NX1) := hD
                      refine lv_iconst (v := nI 0) hx hb dX7_solve_163 (by decide +kernel) ?_
                      refine lv_istore (lv' := [(6, .int (nI 0)), (0, .ref (ad 0)), (1, .int (nI m0)), (2, .int (nI mo))]) hx hb dX7_solve_164 hl (by decide) rfl (fun ls hl => ?_)
                      have cut_166 : ∀ (n_166 : Nat) (k : Nat) (v166_1 : Int32) (v166_2 : Int32) (v166_6 : Int32) (ls : Array Slot) (H : Heap) (locs : List Loc) (hk : k ≤ 16) (hn_166 : 16 - k < n_166) (_ : v166_1 = nI m0) (_ : v166_2 = nI mo) (_ : v166_6 = nI k) (_ : lv_has ls 7 [(0, .ref (ad 0)), (1, .int v166_1), (2, .int v166_2), (6, .int v166_6)]) (_ : va_P (dC, dI) vwCl (mW ad cI cJ cB (ksv i j) n t kq m0 my9 ((nwr G GO 20).1) G F1 T1 M1 (cpy WG G k) ((nwr G GO 20).2) Y1 V1 AT1 NX1) H) (_ : va_D A (mW ad cI cJ cB (ksv i j) n t kq m0 my9 ((nwr G GO 20).1) G F1 T1 M1 (cpy WG G k) ((nwr G GO 20).2) Y1 V1 AT1 NX1)) (_ : va_S A s.heap H locs), W p l e (headSpec wsX7_solve ({ frames := 5, cells := 0, slots := 0, locals := 126 })).room s m ([.ref (ad 0), .int i, .int j] : List Value).toArray below meth c H locs 0 0 (MQ below (wr_Q (dC, dI) A (fun r W1 => (ksv i j = 1 ∧ r = some (.int (nI 0)) ∧ W1 = (mW ad cI cJ cB 1 n t kp ma my rk G F T M WG GO Y V AT NX)) ∨ (ksv i j = 0 ∧ ∃ m0 mo, m0 < 3 ∧ mo ≤ 30 ∧ i = nI m0 ∧ j = nI mo ∧ ∃ F1 T1 M1 Y1 V1 AT1 NX1 WG1 my1 kp1 ma1, W1 = (mW ad cI cJ cB 0 n t kp1 ma1 my1 ((nwr G GO 20).1) G F1 T1 M1 WG1 ((nwr G GO 20).2) Y1 V1 AT1 NX1) ∧ (∀ j, F1 j < 4 ∧ T1 j < 4) ∧ (∀ j, V1 j < 128) ∧ (∀ j, Y1 j < 2 ^ 63) ∧ my1 ≤ 30 ∧ kp1 < 2 ∧ ma1 < 3 ∧ (WG1 = WG ∨ WG1 = cpy WG G 16) ∧ sres m0 mo n t (nwr G GO 20).2 F1 T1 M1 (stl m0 Yd) r kp1 my1 ma1 WG1 G WG))) ([.ref (ad 0), .int i, .int j] : List Value).toArray s 0 0 A) (F0 m 166 ls []) := by
                        intro n_166
                        induction n_166 with
                        | zero => intros; omega
                        | succ n_166 ih_166 =>
                          rintro k v166_1 v166_2 v166_6 ls H locs hk hn_166 rfl rfl rfl hl hP hD hS
                          refine lv_iload hx hb dX7_solve_166 (lv_at hl 3 rfl) ?_
                          refine lv_bipush (v := nI 16) hx hb dX7_solve_168 (by decide +kernel) ?_
                          refine wk_icmp_ge (tgt := 193) hx hb (by omega) (by omega) dX7_solve_170 (by decide) (fun c_170 => ?_) (fun c_170 => ?_)
                          · have hk16 : k = 16 := by omega
                            rw [hk16] at hP hD
                            have hl : lv_has ls 7 [(0, .ref (ad 0)), (1, .int (nI m0)), (2, .int (nI mo)), (6, .int (nI k))] := by exact hl
                            refine lv_aload_n hx hb dX7_solve_193 rfl (lv_at hl 0 rfl) ?_
                            refine va_get (D := (dC, dI)) (ci := 6) (v := .int (nI my9)) (C := RX7) (T := TX7) (N := 17) hx hb hts hinX7 hown hK hP 0 rfl rfl 6 (by decide) (hts (.fieldLink RX7 108 "ReshuffleSearchModel" "many" "I") (by decide +kernel)) (fun _ h9 => h9) rfl dX7_solve_194 ?_
                            exact W.iret hx hb hr (fun t9 ht hW => ⟨some (.int (nI my9)), (mW ad cI cJ cB (ksv i j) n t kq m0 my9 ((nwr G GO 20).1) G F1 T1 M1 (cpy WG G 16) ((nwr G GO 20).2) Y1 V1 AT1 NX1), rfl, Or.inr ⟨c_32, m0, mo, hm0, hmo, hi, hj, F1, T1, M1, Y1, V1, AT1, NX1, cpy WG G 16, my9, kq, m0, by rw [c_32], hFT1, hTI1.1, hTI1.2.1, hm9, hq1, hm0, Or.inr rfl, Or.inr ⟨my9, hle, Or.inr ⟨hq3 c_153, rfl, by omega, rfl, rfl, rfl, w9, hw9, hws⟩⟩⟩, by rw [ht]; exact hP, hD, hS.F ht⟩) hS.2.2 dX7_solve_197
                          · refine lv_aload_n hx hb dX7_solve_173 rfl (lv_at hl 0 rfl) ?_
                            refine va_get (D := (dC, dI)) (ci := 6) (v := .ref (ad 10)) (C := RX7) (T := TX7) (N := 17) hx hb hts hinX7 hown hK hP 0 rfl rfl 10 (by decide) (hts (.fieldLink RX7 22 "ReshuffleSearchModel" "wasGroup" "[I") (by decide +kernel)) (fun _ h9 => h9) rfl dX7_solve_174 ?_
                            refine lv_iload hx hb dX7_solve_177 (lv_at hl 3 rfl) ?_
                            refine lv_aload_n hx hb dX7_solve_179 rfl (lv_at hl 0 rfl) ?_
                            refine va_get (D := (dC, dI)) (ci := 6) (v := .ref (ad 3)) (C := RX7) (T := TX7) (N := 17) hx hb hts hinX7 hown hK hP 0 rfl rfl 3 (by decide) (hts (.fieldLink RX7 7 "ReshuffleSearchModel" "group" "[I") (by decide +kernel)) (fun _ h9 => h9) rfl dX7_solve_180 ?_
                            refine lv_iload hx hb dX7_solve_183 (lv_at hl 3 rfl) ?_
                            refine wk_iald hx hb hK hP 1 0 rfl rfl (by omega) dX7_solve_185 ?_
                            refine wk_iast hx hb hK hP hD hS 5 0 rfl rfl (by omega) dX7_solve_186 (fun H locs hP hD hS => ?_)
                            have hP : va_P (dC, dI) vwCl (mW ad cI cJ cB (ksv i j) n t kq m0 my9 ((nwr G GO 20).1) G F1 T1 M1 (upN (cpy WG G k) k (G k)) ((nwr G GO 20).2) Y1 V1 AT1 NX1) H := hP
                            have hD : va_D A (mW ad cI cJ cB (ksv i j) n t kq m0 my9 ((nwr G GO 20).1) G F1 T1 M1 (upN (cpy WG G k) k (G k)) ((nwr G GO 20).2) Y1 V1 AT1 NX1) := hD
                            refine lv_iinc (v := nI (k + 1)) (lv' := [(6, .int (nI (k + 1))), (0, .ref (ad 0)), (1, .int (nI m0)), (2, .int (nI mo))]) hx hb dX7_solve_187 hl (k := 3) rfl (wk_inc _ 1 rfl) (by decide) rfl (fun ls hl => ?_)
                            refine lv_goto (tgt := 166) hx hb dX7_solve_190 (by decide) ?_
                            exact ih_166 (k + 1) _ _ _ ls _ _ (by omega) (by omega) (rfl) (rfl) (rfl) (lv_sub hl [1, 2, 3, 0] rfl) (hP) (hD) hS
                      exact cut_166 (16 + 1) 0 _ _ _ ls _ _ (by omega) (by omega) (rfl) (rfl) (rfl) (lv_sub hl [1, 2, 3, 0] rfl) (hP) (hD) hS
                    · refine lv_iconst (v := -1) hx hb dX7_solve_156 (by decide +kernel) ?_
                      exact W.iret hx hb hr (fun t9 ht hW => ⟨some (.int (-1)), (mW ad cI cJ cB (ksv i j) n t kq ma my9 ((nwr G GO 20).1) G F1 T1 M1 WG ((nwr G GO 20).2) Y1 V1 AT1 NX1), rfl, Or.inr ⟨c_32, m0, mo, hm0, hmo, hi, hj, F1, T1, M1, Y1, V1, AT1, NX1, WG, my9, kq, ma, by rw [c_32], hFT1, hTI1.1, hTI1.2.1, hm9, hq1, hma, Or.inl rfl, Or.inr ⟨my9, hle, Or.inl ⟨hq2 c_153, rfl, c_153⟩⟩⟩, by rw [ht]; exact hP, hD, hS.F ht⟩) hS.2.2 dX7_solve_157
                  refine lv_aload_n hx hb dX7_solve_132 rfl (lv_at hl 0 rfl) ?_
                  refine lv_aload_n hx hb dX7_solve_133 rfl (lv_at hl 0 rfl) ?_
                  refine va_get (D := (dC, dI)) (ci := 6) (v := .int (nI my9)) (C := RX7) (T := TX7) (N := 17) hx hb hts hinX7 hown hK hP 0 rfl rfl 6 (by decide) (hts (.fieldLink RX7 108 "ReshuffleSearchModel" "many" "I") (by decide +kernel)) (fun _ h9 => h9) rfl dX7_solve_134 ?_
                  refine lv_iload_n hx hb dX7_solve_137 rfl (lv_at hl 2 rfl) ?_
                  refine wk_icmp_gt (tgt := 145) hx hb (by omega) (by omega) dX7_solve_138 (by decide) (fun c_138 => ?_) (fun c_138 => ?_)
                  · refine lv_iconst (v := nI 0) hx hb dX7_solve_145 (by decide +kernel) ?_
                    exact cut_146 0 _ _ _ ls _ _ (by omega) (fun _ => by omega) (fun q => absurd rfl q) (rfl) (rfl) (rfl) (lv_sub hl [0, 1, 2] rfl) (hP) (hD) hS
                  · refine lv_iconst (v := nI 1) hx hb dX7_solve_141 (by decide +kernel) ?_
                    refine lv_goto (tgt := 146) hx hb dX7_solve_142 (by decide) ?_
                    exact cut_146 1 _ _ _ ls _ _ (by omega) (fun q => absurd q (by decide)) (fun _ => by omega) (rfl) (rfl) (rfl) (lv_sub hl [0, 1, 2] rfl) (hP) (hD) hS
                · refine lv_bipush (v := -2) hx hb dX7_solve_129 (by decide +kernel) ?_
                  exact W.iret hx hb hr (fun t9 ht hW => ⟨some (.int (-2)), (mW ad cI cJ cB (ksv i j) n t kp9 ma my9 ((nwr G GO 20).1) G F1 T1 M1 WG ((nwr G GO 20).2) Y1 V1 AT1 NX1), rfl, Or.inr ⟨c_32, m0, mo, hm0, hmo, hi, hj, F1, T1, M1, Y1, V1, AT1, NX1, WG, my9, kp9, ma, by rw [c_32], hFT1, hTI1.1, hTI1.2.1, hm9, hk9, hma, Or.inl rfl, Or.inl ⟨rfl, c_126, hzz c_126⟩⟩, by rw [ht]; exact hP, hD, hS.F ht⟩) hS.2.2 dX7_solve_131
              refine lv_iconst (v := nI 0) hx hb dX7_solve_88 (by decide +kernel) ?_
              refine lv_istore (lv' := [(5, .int (nI 0)), (0, .ref (ad 0)), (1, .int (nI m0)), (2, .int (nI mo))]) hx hb dX7_solve_89 hl (by decide) rfl (fun ls hl => ?_)
              have cut_91 : ∀ (n_91 : Nat) (lm : Nat) (kp9 : Nat) (my9 : Nat) (AT1 : Nat → Nat) (NX1 : Nat → Nat) (F1 : Nat → Nat) (T1 : Nat → Nat) (M1 : Nat → Nat) (Y1 : Nat → Nat) (V1 : Nat → Nat) (v91_1 : Int32) (v91_2 : Int32) (v91_5 : Int32) (ls : Array Slot) (H : Heap) (locs : List Loc) (hlm : lm ≤ 31) (hk9 : kp9 < 2) (hm9 : my9 ≤ 30) (hTI1 : tI m0 n t bs V1 Y1) (hFT1 : ∀ j, F1 j < 4 ∧ T1 j < 4) (hf9 : kp9 ≠ 0 → ∃ w, least m0 n t (stl m0 Yd) my9 ∧ way m0 n t my9 (stl m0 Yd) = some w ∧ wsg m0 n t (nwr G GO 20).2 F1 T1 M1 0 w (stl m0 Yd)) (hA0 : AT1 0 = mE (stl m0 Yd)) (hzz : kp9 = 0 → ∀ j, j < lm → way m0 n t j (stl m0 Yd) = none) (hn_91 : 31 - lm < n_91) (_ : v91_1 = nI m0) (_ : v91_2 = nI mo) (_ : v91_5 = nI lm) (_ : lv_has ls 7 [(0, .ref (ad 0)), (1, .int v91_1), (2, .int v91_2), (5, .int v91_5)]) (_ : va_P (dC, dI) vwCl (mW ad cI cJ cB (ksv i j) n t kp9 ma my9 ((nwr G GO 20).1) G F1 T1 M1 WG ((nwr G GO 20).2) Y1 V1 AT1 NX1) H) (_ : va_D A (mW ad cI cJ cB (ksv i j) n t kp9 ma my9 ((nwr G GO 20).1) G F1 T1 M1 WG ((nwr G GO 20).2) Y1 V1 AT1 NX1)) (_ : va_S A s.heap H locs), W p l e (headSpec wsX7_solve ({ frames := 5, cells := 0, slots := 0, locals := 126 })).room s m ([.ref (ad 0), .int i, .int j] : List Value).toArray below meth c H locs 0 0 (MQ below (wr_Q (dC, dI) A (fun r W1 => (ksv i j = 1 ∧ r = some (.int (nI 0)) ∧ W1 = (mW ad cI cJ cB 1 n t kp ma my rk G F T M WG GO Y V AT NX)) ∨ (ksv i j = 0 ∧ ∃ m0 mo, m0 < 3 ∧ mo ≤ 30 ∧ i = nI m0 ∧ j = nI mo ∧ ∃ F1 T1 M1 Y1 V1 AT1 NX1 WG1 my1 kp1 ma1, W1 = (mW ad cI cJ cB 0 n t kp1 ma1 my1 ((nwr G GO 20).1) G F1 T1 M1 WG1 ((nwr G GO 20).2) Y1 V1 AT1 NX1) ∧ (∀ j, F1 j < 4 ∧ T1 j < 4) ∧ (∀ j, V1 j < 128) ∧ (∀ j, Y1 j < 2 ^ 63) ∧ my1 ≤ 30 ∧ kp1 < 2 ∧ ma1 < 3 ∧ (WG1 = WG ∨ WG1 = cpy WG G 16) ∧ sres m0 mo n t (nwr G GO 20).2 F1 T1 M1 (stl m0 Yd) r kp1 my1 ma1 WG1 G WG))) ([.ref (ad 0), .int i, .int j] : List Value).toArray s 0 0 A) (F0 m 91 ls []) := by
                intro n_91
                induction n_91 with
                | zero => intros; omega
                | succ n_91 ih_91 =>
                  rintro lm kp9 my9 AT1 NX1 F1 T1 M1 Y1 V1 v91_1 v91_2 v91_5 ls H locs hlm hk9 hm9 hTI1 hFT1 hf9 hA0 hzz hn_91 rfl rfl rfl hl hP hD hS
                  refine lv_iload hx hb dX7_solve_91 (lv_at hl 3 rfl) ?_
                  refine lv_bipush (v := nI 30) hx hb dX7_solve_93 (by decide +kernel) ?_
                  refine wk_icmp_gt (tgt := 122) hx hb (by omega) (by omega) dX7_solve_95 (by decide) (fun c_95 => ?_) (fun c_95 => ?_)
                  · exact cut_122 kp9 my9 AT1 NX1 F1 T1 M1 Y1 V1 _ _ ls _ _ (hk9) (hm9) (hTI1) (hFT1) (hf9) (fun q j hj => hzz q j (by omega)) (rfl) (rfl) (lv_sub hl [0, 1, 2] rfl) (hP) (hD) hS
                  · refine lv_aload_n hx hb dX7_solve_98 rfl (lv_at hl 0 rfl) ?_
                    refine va_get (D := (dC, dI)) (ci := 6) (v := .int (nI kp9)) (C := RX7) (T := TX7) (N := 17) hx hb hts hinX7 hown hK hP 0 rfl rfl 4 (by decide) (hts (.fieldLink RX7 128 "ReshuffleSearchModel" "isKept" "Z") (by decide +kernel)) (fun _ h9 => h9) rfl dX7_solve_99 ?_
                    refine wk_if_ne (tgt := 122) hx hb (by omega) dX7_solve_102 (by decide) (fun c_102 => ?_) (fun c_102 => ?_)
                    · exact cut_122 kp9 my9 AT1 NX1 F1 T1 M1 Y1 V1 _ _ ls _ _ (hk9) (hm9) (hTI1) (hFT1) (hf9) (fun q => absurd q c_102) (rfl) (rfl) (lv_sub hl [0, 1, 2] rfl) (hP) (hD) hS
                    · refine lv_aload_n hx hb dX7_solve_105 rfl (lv_at hl 0 rfl) ?_
                      refine lv_aload_n hx hb dX7_solve_106 rfl (lv_at hl 0 rfl) ?_
                      refine lv_iload_n hx hb dX7_solve_107 rfl (lv_at hl 1 rfl) ?_
                      refine lv_iload hx hb dX7_solve_108 (lv_at hl 3 rfl) ?_
                      have hFc := va_free (wc := (mW ad cI cJ cB (ksv i j) n t kp9 ma my9 ((nwr G GO 20).1) G F1 T1 M1 WG ((nwr G GO 20).2) Y1 V1 AT1 NX1)) hD hS hA [0, 1, 2, 3, 4, 5, 6, 7, 8, 9, 10] rfl
                      refine wr_go (va_runV (As := [.int (nI m0), .int (nI lm)]) (rest := [.ref (ad 0)]) ⟨hx, hb, hml, hown, hts⟩ (c_X7_search l dC dI ad cI cJ cB (ksv i j) n t kp9 ma my9 ((nwr G GO 20).1) G F1 T1 M1 WG ((nwr G GO 20).2) Y1 V1 AT1 NX1 hn0 ht0 m0 lm hm0 (by omega) bs hbs hbl (stl m0 Yd) hst.1 hcb (hst.2.2) hA0 hTI1 hFT1 H.size) (cwV 2 hts gX7_solve_X7_search rfl rfl rfl (by decide +kernel) ⟨Nat.le_of_ble_eq_true rfl, Nat.le_of_ble_eq_true rfl⟩) ⟨wr_blind, va_recv hK hP (ci := 6) (q0 := 0) rfl rfl, fun U hU hW => ⟨rfl, by rw [hU], by rw [hU]; exact hP, va_K.moved hW.alike hK, hD.weaken (fun _ _ _ _ => trivial)⟩⟩ rfl rfl hl.1 rfl (lv_room (Nat.le_of_ble_eq_true rfl)) dX7_solve_110 ⟨Nat.le_refl _, Nat.le_refl _⟩) hS hFc hFc (fun r9 W9 H locs hpost hP hD9 hz9 hk9 hS => ?_)
                      have hD := hD9.weaken (fun _ _ _ h => hFc _ h)
                      obtain ⟨F2, T2, M2, Y2, V2, AT2, NX2, my2, rfl, hTI2, hA2, hFT2, hres⟩ := hpost
                      have hmy2 : my2 ≤ 30 ∧ ((way m0 n t lm (stl m0 Yd)).isSome = true → ∃ w, way m0 n t lm (stl m0 Yd) = some w ∧ my2 = w.length ∧ wsg m0 n t (nwr G GO 20).2 F2 T2 M2 0 w (stl m0 Yd)) := by
                        rcases hres with ⟨-, b, e⟩ | ⟨-, w, b, e, f⟩
                        · exact ⟨by omega, fun q => by rw [b] at q; exact absurd q (by decide)⟩
                        · have := (way_len _ _ _ b).1
                          exact ⟨by omega, fun _ => ⟨w, b, e, f⟩⟩
                      obtain rfl : r9 = some (.int (nI (bn ((way m0 n t lm (stl m0 Yd)).isSome = true)))) := by
                        rcases hres with ⟨a, b, -⟩ | ⟨a, w, b, -⟩
                        · rw [a, bn_f (by rw [b]; decide)]
                        · rw [a, bn_t (by rw [b]; rfl)]
                      have hP : va_P (dC, dI) vwCl (mW ad cI cJ cB (ksv i j) n t kp9 ma my2 ((nwr G GO 20).1) G F2 T2 M2 WG ((nwr G GO 20).2) Y2 V2 AT2 NX2) H := hP
                      have hD : va_D A (mW ad cI cJ cB (ksv i j) n t kp9 ma my2 ((nwr G GO 20).1) G F2 T2 M2 WG ((nwr G GO 20).2) Y2 V2 AT2 NX2) := hD
                      refine W.eq (g2 := F0 m 113 ls [.int (nI (bn ((way m0 n t lm (stl m0 Yd)).isSome = true))), .ref (ad 0)]) rfl ?_
                      refine va_put (D := (dC, dI)) (ci := 6) (v := .int (nI (bn ((way m0 n t lm (stl m0 Yd)).isSome = true)))) (ty := .boolean) (C := RX7) (T := TX7) (N := 17) hx hb hts hinX7 tyX7 tyX7_ok nmX7 hown hK hP hD hS 0 rfl rfl 4 (by decide) (hts (.fieldLink RX7 128 "ReshuffleSearchModel" "isKept" "Z") (by decide +kernel)) (fun _ h9 => h9) rfl (by decide +kernel) (bn_nar _) (bn_fits _) (Nat.le_of_ble_eq_true rfl) dX7_solve_113 (fun H locs hP hD hS => ?_)
                      have hP : va_P (dC, dI) vwCl (mW ad cI cJ cB (ksv i j) n t (bn ((way m0 n t lm (stl m0 Yd)).isSome = true)) ma my2 ((nwr G GO 20).1) G F2 T2 M2 WG ((nwr G GO 20).2) Y2 V2 AT2 NX2) H := hP
                      have hD : va_D A (mW ad cI cJ cB (ksv i j) n t (bn ((way m0 n t lm (stl m0 Yd)).isSome = true)) ma my2 ((nwr G GO 20).1) G F2 T2 M2 WG ((nwr G GO 20).2) Y2 V2 AT2 NX2) := hD
                      refine lv_iinc (v := nI (lm + 1)) (lv' := [(5, .int (nI (lm + 1))), (0, .ref (ad 0)), (1, .int (nI m0)), (2, .int (nI mo))]) hx hb dX7_solve_116 hl (k := 3) rfl (wk_inc _ 1 rfl) (by decide) rfl (fun ls hl => ?_)
                      refine lv_goto (tgt := 91) hx hb dX7_solve_119 (by decide) ?_
                      exact ih_91 (lm + 1) (bn ((way m0 n t lm (stl m0 Yd)).isSome = true)) my2 AT2 NX2 F2 T2 M2 Y2 V2 _ _ _ ls _ _ (by omega) (bn_lt _) (hmy2.1) (hTI2) (hFT2) (fun q => by obtain ⟨w, a, b, f⟩ := hmy2.2 (bn_ne q); have e := way_exact a (hzz c_102); rw [b, e]; exact ⟨w, ⟨by omega, by rw [a]; rfl, hzz c_102⟩, a, f⟩) (hA2) (fun q j hj => by rcases Nat.lt_or_ge j lm with z | z; exact hzz c_102 j z; rw [show j = lm by omega]; exact none_off (bn_eq q)) (by omega) (rfl) (rfl) (rfl) (lv_sub hl [1, 2, 3, 0] rfl) (hP) (hD) hS
              exact cut_91 (31 + 1) 0 0 my (upN AT 0 (mE (stl m0 Yd))) NX F T M Y (zr 131072 0 V) _ _ _ ls _ _ (by omega) (by omega) (hmy) (tI_0 hV0 hY0) (hFT) (fun q => absurd rfl q) (upN_s _ _ _) (fun _ j hj => absurd hj (Nat.not_lt_zero j)) (by omega) (rfl) (rfl) (rfl) (lv_sub hl [1, 2, 3, 0] rfl) (hP) (hD) hS
            refine lv_aload_n hx hb dX7_solve_63 rfl (lv_at hl 1 rfl) ?_
            refine va_get (D := (dC, dI)) (ci := 6) (v := .ref (ad 15)) (C := RX7) (T := TX7) (N := 17) hx hb hts hinX7 hown hK hP 0 rfl rfl 15 (by decide) (hts (.fieldLink RX7 37 "ReshuffleSearchModel" "at" "[J") (by decide +kernel)) (fun _ h9 => h9) rfl dX7_solve_64 ?_
            refine lv_iconst (v := nI 0) hx hb dX7_solve_67 (by decide +kernel) ?_
            refine lv_iload_n hx hb dX7_solve_68 rfl (lv_at hl 2 rfl) ?_
            refine lv_iconst (v := nI 2) hx hb dX7_solve_69 (by decide +kernel) ?_
            refine wk_icmp_ne (tgt := 77) hx hb (by omega) (by omega) dX7_solve_70 (by decide) (fun c_70 => ?_) (fun c_70 => ?_)
            · refine lv_aload_n hx hb dX7_solve_77 rfl (lv_at hl 1 rfl) ?_
              refine lv_lload_n hx hb dX7_solve_78 rfl (lv_at hl 0 rfl) ?_
              refine pu_go (va_runV (As := [.long (lN (nwy G (nwr G GO 20).2 (nwr G GO 20).1 16))]) (rest := [.int (nI 0), .ref (ad 15)]) ⟨hx, hb, hml, hown, hts⟩ (c_X7_left l dC dI (mW ad cI cJ cB (ksv i j) n t kp ma my ((nwr G GO 20).1) G F T M WG ((nwr G GO 20).2) Y (zr 131072 0 V) AT NX) [(cI, .int), (cJ, .long), (cB, .byte)] (ad 0) _ rfl n rfl hn0 t rfl ht0 (nwy G (nwr G GO 20).2 (nwr G GO 20).1 16) (by first | omega | assumption)) (cwV 1 hts gX7_solve_X7_left rfl rfl rfl (by decide +kernel) ⟨Nat.le_of_ble_eq_true rfl, Nat.le_of_ble_eq_true rfl⟩) ⟨fun a U g mk q => ⟨q.1, q.2.1, va_K.moved (u := U) (U := U.calling g mk a) (Vm.Alike.refl U.vm) q.2.2⟩, va_recv hK hP (ci := 6) (q0 := 0) rfl rfl, fun U hU hW => ⟨rfl, by rw [hU]; exact hP, va_K.moved hW.alike hK⟩⟩ rfl rfl hl.1 rfl (lv_room (Nat.le_of_ble_eq_true rfl)) dX7_solve_79 ⟨Nat.le_refl _, Nat.le_refl _⟩) ?_
              exact cut_82 _ _ _ _ ls _ _ (rfl) (rfl) (congrArg lN (ite_f c_70 hsm)) (rfl) (lv_sub hl [1, 2, 3] rfl) (hP) (hD) hS
            · refine lv_lload_n hx hb dX7_solve_73 rfl (lv_at hl 0 rfl) ?_
              refine lv_goto (tgt := 82) hx hb dX7_solve_74 (by decide) ?_
              exact cut_82 _ _ _ _ ls _ _ (rfl) (rfl) (congrArg lN (ite_t c_70 hsm)) (rfl) (lv_sub hl [1, 2, 3] rfl) (hP) (hD) hS
          · refine lv_aload_n hx hb dX7_solve_45 rfl (lv_at hl 0 rfl) ?_
            refine va_get (D := (dC, dI)) (ci := 6) (v := .ref (ad 14)) (C := RX7) (T := TX7) (N := 17) hx hb hts hinX7 hown hK hP 0 rfl rfl 14 (by decide) (hts (.fieldLink RX7 33 "ReshuffleSearchModel" "vain" "[B") (by decide +kernel)) (fun _ h9 => h9) rfl dX7_solve_46 ?_
            refine lv_iload_n hx hb dX7_solve_49 rfl (lv_at hl 3 rfl) ?_
            refine lv_iconst (v := nI 0) hx hb dX7_solve_50 (by decide +kernel) ?_
            refine wk_bast hx hb hK hP hD hS 8 2 rfl rfl (by omega) (by omega) dX7_solve_51 (fun H locs hP hD hS => ?_)
            have hP : va_P (dC, dI) vwCl (mW ad cI cJ cB (ksv i j) n t kp ma my rk G F T M WG GO Y (upN (zr k 0 V) k 0) AT NX) H := hP
            have hD : va_D A (mW ad cI cJ cB (ksv i j) n t kp ma my rk G F T M WG GO Y (upN (zr k 0 V) k 0) AT NX) := hD
            refine lv_iinc (v := nI (k + 1)) (lv' := [(3, .int (nI (k + 1))), (0, .ref (ad 0)), (1, .int (nI m0)), (2, .int (nI mo))]) hx hb dX7_solve_52 hl (k := 3) rfl (wk_inc _ 1 rfl) (by decide) rfl (fun ls hl => ?_)
            refine lv_goto (tgt := 39) hx hb dX7_solve_55 (by decide) ?_
            exact ih_39 (k + 1) _ _ _ ls _ _ (by omega) (by omega) (rfl) (rfl) (rfl) (lv_sub hl [1, 2, 3, 0] rfl) (by rw [← zr_s]; exact hP) (by rw [← zr_s]; exact hD) hS
      exact cut_39 (131072 + 1) 0 _ _ _ ls _ _ (by omega) (by omega) (rfl) (rfl) (rfl) (lv_sub hl [1, 2, 3, 0] rfl) (by rw [zr_0]; exact hP) (by rw [zr_0]; exact hD) hS
    · refine lv_iconst (v := nI 0) hx hb dX7_solve_35 (by decide +kernel) ?_
      exact W.iret hx hb hr (fun t9 ht hW => ⟨some (.int (nI 0)), (mW ad cI cJ cB (ksv i j) n t kp ma my rk G F T M WG GO Y V AT NX), rfl, Or.inl ⟨by have := ksv_le (i := i) (j := j); omega, rfl, by rw [show ksv i j = 1 by have := ksv_le (i := i) (j := j); omega]⟩, by rw [ht]; exact hP, hD, hS.F ht⟩) hS.2.2 dX7_solve_36
  refine lv_aload_n hx hb dX7_solve_0 rfl (lv_at hl 0 rfl) ?_
  refine lv_iload_n hx hb dX7_solve_1 rfl (lv_at hl 1 rfl) ?_
  refine lv_if_lt (tgt := 20) hx hb dX7_solve_2 (by decide) (fun c_2 => ?_) (fun c_2 => ?_)
  · refine lv_iconst (v := nI 1) hx hb dX7_solve_20 (by decide +kernel) ?_
    refine lv_goto (tgt := 25) hx hb dX7_solve_21 (by decide) ?_
    exact cut_25 _ _ _ ls _ _ (rfl) (rfl) (by unfold ksv; rw [if_pos (Or.inl c_2)]) (lv_sub hl [0, 1, 2] rfl) (hP) (hD) hS
  · refine lv_iload_n hx hb dX7_solve_5 rfl (lv_at hl 1 rfl) ?_
    refine lv_iconst (v := nI 2) hx hb dX7_solve_6 (by decide +kernel) ?_
    refine lv_icmp_gt (tgt := 20) hx hb dX7_solve_7 (by decide) (fun c_7 => ?_) (fun c_7 => ?_)
    · refine lv_iconst (v := nI 1) hx hb dX7_solve_20 (by decide +kernel) ?_
      refine lv_goto (tgt := 25) hx hb dX7_solve_21 (by decide) ?_
      exact cut_25 _ _ _ ls _ _ (rfl) (rfl) (by unfold ksv; rw [if_pos (Or.inr (Or.inl c_7))]) (lv_sub hl [0, 1, 2] rfl) (hP) (hD) hS
    · refine lv_iload_n hx hb dX7_solve_10 rfl (lv_at hl 2 rfl) ?_
      refine lv_if_lt (tgt := 20) hx hb dX7_solve_11 (by decide) (fun c_11 => ?_) (fun c_11 => ?_)
      · refine lv_iconst (v := nI 1) hx hb dX7_solve_20 (by decide +kernel) ?_
        refine lv_goto (tgt := 25) hx hb dX7_solve_21 (by decide) ?_
        exact cut_25 _ _ _ ls _ _ (rfl) (rfl) (by unfold ksv; rw [if_pos (Or.inr (Or.inr (Or.inl c_11)))]) (lv_sub hl [0, 1, 2] rfl) (hP) (hD) hS
      · refine lv_iload_n hx hb dX7_solve_14 rfl (lv_at hl 2 rfl) ?_
        refine lv_bipush (v := nI 30) hx hb dX7_solve_15 (by decide +kernel) ?_
        refine lv_icmp_le (tgt := 24) hx hb dX7_solve_17 (by decide) (fun c_17 => ?_) (fun c_17 => ?_)
        · refine lv_iconst (v := nI 0) hx hb dX7_solve_24 (by decide +kernel) ?_
          exact cut_25 _ _ _ ls _ _ (rfl) (rfl) (by unfold ksv; rw [if_neg (by rintro (q | q | q | q); exact c_2 q; exact c_7 q; exact c_11 q; exact Int32.not_le.mpr q c_17)]) (lv_sub hl [0, 1, 2] rfl) (hP) (hD) hS
        · refine lv_iconst (v := nI 1) hx hb dX7_solve_20 (by decide +kernel) ?_
          refine lv_goto (tgt := 25) hx hb dX7_solve_21 (by decide) ?_
          exact cut_25 _ _ _ ls _ _ (rfl) (rfl) (by unfold ksv; rw [if_pos (Or.inr (Or.inr (Or.inr (Int32.not_le.mp c_17))))]) (lv_sub hl [0, 1, 2] rfl) (hP) (hD) hS
