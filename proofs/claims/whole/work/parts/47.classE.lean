/-! how the class's methods end: 0, or which exception -/
theorem i_le {j : Int32} {k : Nat} (hk : k < 1000) (h : j ≤ nI k) : j < nI (k + 1) := by
  rw [Int32.le_iff_toInt_le, nI_toInt (by omega)] at h
  rw [Int32.lt_iff_toInt_lt, nI_toInt (by omega)]
  omega
theorem grp_nat {g : Int32} (h1 : ¬ g < nI 1) (h2 : g ≤ nI 20) : ∃ g0, 1 ≤ g0 ∧ g0 ≤ 20 ∧ g = nI g0 := by
  have h0 : ¬ g < 0 := fun q => h1 (by
    rw [Int32.lt_iff_toInt_lt] at q ⊢
    have a1 : (nI 1).toInt = 1 := by decide
    have a2 : (0 : Int32).toInt = 0 := by decide
    omega)
  obtain ⟨g0, hg0, hg⟩ := stk_nat (n := 21) (by decide) ⟨h0, i_le (by decide) h2⟩
  refine ⟨g0, Nat.pos_of_ne_zero (fun q => h1 ?_), by omega, hg⟩
  rw [hg, q]
  decide
theorem hsum_le {HT : Nat → Nat} {b : Nat} (h : ∀ j, HT j ≤ b) : ∀ n, hsum HT n ≤ n * b
  | 0 => Nat.zero_le _
  | n + 1 => by
    have := hsum_le h n
    have := h n
    show hsum HT n + HT n ≤ _
    rw [Nat.succ_mul]
    omega
def qput (n t : Nat) (HT : Nat → Nat) (i g : Int32) : Nat :=
  if ¬ (¬ i < 0 ∧ i < nI n) then 1 else if g < nI 1 ∨ nI 20 < g then 2 else if t ≤ HT i.toNatClampNeg ∨ 6 ≤ hsum HT n then 3 else 0
def qoff (n : Nat) (HT : Nat → Nat) (i : Int32) : Nat :=
  if ¬ (¬ i < 0 ∧ i < nI n) then 1 else if HT i.toNatClampNeg = 0 then 2 else 0
def qmv (ln i j : Int32) : Nat := if (¬ i < 0 ∧ i < ln ∧ i < nI 30) ∧ ¬ j < 0 ∧ j ≤ nI 2 then 0 else 1
def qfl (ln : Int32) (ST P : Nat → Nat) : Nat := if ln ≠ -1 ∧ anb (fun j => decide (ST j ≠ P j)) 16 = false then 0 else 1
def qct (n t : Nat) (ln mn : Int32) (bx tr : Nat) (w : Int32) : Int32 :=
  if w = nI 0 then nI bx else if w = nI 1 then nI n else if w = nI 2 then nI t else if w = nI 3 then ln else if w = nI 4 then (if ln = -1 then -1 else nI tr) else if w = nI 5 then (if ln = -1 then -1 else mn) else -1
/-- the way of yards that the class follows -/
def cst (man x : Nat) : Nat := if man = 2 then x else yaf 6 x
def cfo (man : Nat) (F T : Nat → Nat) (x : Nat) : Nat → Nat
  | 0 => cst man x
  | k + 1 => cst man (yshift (cfo man F T x k) (F k) (T k))
theorem cst_lt {man x : Nat} (h : x < 2 ^ 48) : cst man x < 2 ^ 48 := by
  unfold cst
  split
  · exact h
  · exact yaf_lt 6 h
theorem cfo_lt {man : Nat} {F T : Nat → Nat} {x : Nat} (hx : x < 2 ^ 48) : ∀ k, (∀ j, j < k → F j < 4 ∧ T j < 4) → cfo man F T x k < 2 ^ 48
  | 0, _ => cst_lt hx
  | k + 1, h => cst_lt (yshift_lt (cfo_lt hx k (fun j hj => h j (by omega))) (h k (by omega)).1 (h k (by omega)).2)
theorem nI_m2 {k : Nat} (hk : k ≤ 30) : nI k ≠ -2 := by
  intro q
  have h := congrArg Int32.toInt q
  have h9 : (-2 : Int32).toInt = -2 := by decide
  rw [nI_toInt (by omega), h9] at h
  omega
def qsv (i j : Int32) : Nat := if i < 0 ∨ nI 2 < i ∨ j < 0 ∨ nI 30 < j then 1 else 0
/-- a way that is kept -/
def kpt (ln mn : Int32) (F T : Nat → Nat) : Prop := ln = -1 ∨ ∃ L0 m0, L0 ≤ 30 ∧ m0 < 3 ∧ ln = nI L0 ∧ mn = nI m0 ∧ ∀ j, j < L0 → F j < 4 ∧ T j < 4
theorem okl_hd {t : Nat} {l : List Nat} (h : okl t l) : l.headD 0 < 8 := by
  cases l with
  | nil => decide
  | cons a r =>
    have := h.2 a List.mem_cons_self
    show a < 8
    omega
theorem way_bd {man n t : Nat} (hn : n ≤ 4) {F T M : Nat → Nat} : ∀ (k d : Nat) (Y : Nat → List Nat) (w : List Nat), okY n t Y → way man n t k Y = some w → wst man n t F T M d w Y → ∀ j, j < w.length → F (d + j) < 4 ∧ T (d + j) < 4 ∧ M (d + j) < 8
  | 0, d, Y, w, hY, h, hw, j, hj => by
    rw [way_0] at h
    split at h
    · cases h; exact absurd hj (Nat.not_lt_zero j)
    · cases h
  | k + 1, d, Y, w, hY, h, hw, j, hj => by
    by_cases hb : blk Y = 0
    · rw [way_done hb] at h
      cases h; exact absurd hj (Nat.not_lt_zero j)
    · rw [way_s, if_neg hb] at h
      obtain ⟨q, -, hq, hf, -⟩ := ffo_get 16 0 h
      obtain ⟨hm, v, hv, rfl⟩ := wfn_some hf
      obtain ⟨⟨h1, h2, h3⟩, h4⟩ := hw
      cases j with
      | zero =>
        refine ⟨by rw [Nat.add_zero, h1]; omega, by rw [Nat.add_zero, h2]; omega, ?_⟩
        rw [Nat.add_zero, h3]
        exact okl_hd (hY.1 (q / 4))
      | succ i =>
        have hok := (chd_ok hn hY hm).1
        rw [show 4 * (q / 4) + q % 4 = q by omega] at hok
        have := way_bd hn k (d + 1) _ v hok hv h4 i (by rw [List.length_cons] at hj; omega)
        rw [show d + (i + 1) = d + 1 + i by omega]
        exact this
def wsX6_off9 : List Cond := .code yX6_off cX6_off 4 (some .int) :: ([.classLink RX6 73 "java/util/NoSuchElementException", .initialized "java/util/NoSuchElementException", .classLink RX6 52 RJx00060, .instantiable RJx00060 6, .initialized RJx00060, .fieldLink RX6 24 "ReshuffleSearch" "height" "[I", .fieldLink RX6 17 "ReshuffleSearch" "tiers" "I", .fieldLink RX6 20 "ReshuffleSearch" "place" "[I", .methodLink RX6 48 yX6_isStack, .instanceMethod yX6_isStack, .selects RX6 yX6_isStack yX6_isStack, .initialized RX6, .code yX6_isStack cX6_isStack 2 (some .boolean), .fieldLink RX6 13 "ReshuffleSearch" "stacks" "I"] ++ wsJx000600 ++ wsX60)
set_option maxRecDepth 20000 in
theorem ggX6_off9_X6_isStack : GoodIn wsX6_off9 wsX6_isStack := goodIn_r _ [13, 14, 21, 22, 23, 24, 25, 26, 27] (by decide +kernel) (by decide +kernel)
set_option maxRecDepth 20000 in
theorem gX6_off9_X6_isStack : GoodIn wsX6_off9 (wsV RX6 48 RX6 yX6_isStack wsX6_isStack) := goodIn_app (goodIn_of _ (by decide +kernel)) ggX6_off9_X6_isStack
set_option maxHeartbeats 4000000 in
set_option maxRecDepth 100000 in
theorem c_X6_put (l : Launch) (hlt : l.stackTraces = false) (dC : Nat → ClassId) (dI : Nat → Nat → Nat) (ad : Nat → Nat) (cI cJ : ClassId) (n t : Nat) (P HT RK GP : Nat → Nat) (sm : Int32) (F T M ST : Nat → Nat) (ln mn : Int32) (E : Nat → Nat) (hn0 : 2 ≤ n ∧ n ≤ 4) (ht0 : 2 ≤ t ∧ t ≤ 4) (hB0 : ∀ j, HT j ≤ 4) (i g : Int32)  (sz : Nat) : vx_Met l yX6_put wsX6_put ({ frames := 8, cells := 1, slots := 6, locals := 200 }) (va_Pc [.ref (ad 0), .int i, .int g] (th_P (dC, dI) [(cI, .int), (cJ, .long)] (cW ad cI cJ n t P HT RK GP sm F T M ST ln mn E) sz)) (wr_Q (dC, dI) (va_A (cW ad cI cJ n t P HT RK GP sm F T M ST ln mn E) sz) (fun r W1 => qput n t HT i g = 0 ∧ r = some (.int (nI (HT i.toNatClampNeg + 1))) ∧ W1 = (cW ad cI cJ n t (upN P (i.toNatClampNeg * t + HT i.toNatClampNeg) g.toNatClampNeg) (upN HT i.toNatClampNeg (HT i.toNatClampNeg + 1)) RK GP sm F T M ST ln mn E))) (th_X (dC, dI) (va_A (cW ad cI cJ n t P HT RK GP sm F T M ST ln mn E) sz) (cW ad cI cJ n t P HT RK GP sm F T M ST ln mn E) (fun E => (qput n t HT i g = 1 ∧ E = RJx00060) ∨ (qput n t HT i g = 2 ∧ E = "java/lang/IllegalArgumentException") ∨ (qput n t HT i g = 3 ∧ E = "java/lang/IllegalStateException"))) 1 6 (va_A (cW ad cI cJ n t P HT RK GP sm F T M ST ln mn E) sz) := by
  refine vx_ofW (cc := cX6_put) (maxL := 3) (ret := (some .int)) (by decide) rfl ?_
  intro p e s m args below meth c s₁ B hml hnx hv
  obtain ⟨rfl, ⟨⟨hsz, hP, hK, hD0⟩, hN⟩, hTw, hZ⟩ := hv
  have hx := B.exec
  have hb := B.bytes
  have hr := B.returns
  have hts := atoms_spec (ws := wsX6_put) B.pre
  have hown : s.vm.findClass RX6 = some m.cls := findClass_of_methodNamed B.named
  have hlocks := B.notSynchronized
  have hinX6 : ∀ w ∈ u_ws RX6 TX6 7, w ∈ wsX6_put := by decide +kernel
  subst hsz
  have hD := hD0.self (sz := s.heap.size)
  generalize hAe : va_A (cW ad cI cJ n t P HT RK GP sm F T M ST ln mn E) s.heap.size = A at hD hZ ⊢
  have hA : ∀ q : Nat, s.heap.size ≤ q → A q := fun q h => by rw [← hAe]; exact Or.inr h
  have hS : va_S A s.heap s.heap [] := va_S.rf
  have hl := lv_entry ([.ref (ad 0), .int i, .int g]) (n := 3) (Nat.le_of_ble_eq_true rfl)
  rw [lg_entry_eq]
  generalize (lg_sl ([.ref (ad 0), .int i, .int g]) ++ List.replicate (3 - (lg_sl ([.ref (ad 0), .int i, .int g])).length) Slot.unset).toArray = ls at hl ⊢
  have hl : lv_has ls 3 [(0, .ref (ad 0)), (1, .int i), (2, .int g)] := hl
  have hsm := hsum_le hB0 n
  refine lv_aload_n hx hb dX6_put_0 rfl (lv_at hl 0 rfl) ?_
  refine lv_iload_n hx hb dX6_put_1 rfl (lv_at hl 1 rfl) ?_
  refine pu_go (va_runV (As := [.int i]) (rest := []) ⟨hx, hb, hml, hown, hts⟩ (c_X6_isStack l dC dI ad cI cJ n t P HT RK GP sm F T M ST ln mn E i) (cwV 1 hts gX6_put_X6_isStack rfl rfl rfl (by decide +kernel) ⟨Nat.le_of_ble_eq_true rfl, Nat.le_of_ble_eq_true rfl⟩) ⟨rc_blind, va_recv hK hP (ci := 5) (q0 := 0) rfl rfl, fun U hU hW => ⟨rfl, by rw [hU]; exact hP, va_K.moved hW.alike hK, nst_warm hW hN⟩⟩ rfl rfl hl.1 rfl (lv_room (Nat.le_of_ble_eq_true rfl)) dX6_put_2 ⟨Nat.le_of_ble_eq_true rfl, Nat.le_of_ble_eq_true rfl⟩) ?_
  refine wk_bn_ne (tgt := 18) hx hb dX6_put_5 (by decide) (fun c_5 => ?_) (fun c_5 => ?_)
  · obtain ⟨s0, hs0, hi⟩ := stk_nat (by omega) c_5
    have hq1 := hB0 s0
    have hl : lv_has ls 3 [(0, .ref (ad 0)), (1, .int (nI s0)), (2, .int g)] := by simpa only [hi] using hl
    refine lv_iload_n hx hb dX6_put_18 rfl (lv_at hl 2 rfl) ?_
    refine lv_iconst (v := nI 1) hx hb dX6_put_19 (by decide +kernel) ?_
    refine lv_icmp_lt (tgt := 29) hx hb dX6_put_20 (by decide) (fun c_20 => ?_) (fun c_20 => ?_)
    · exact th_go (cls := "java/lang/IllegalArgumentException") (names := thF) (text := "no such group") (ik := 59) (is := 61) (ic := 63) hx hb hlt hown hnx hTw hZ hP (by decide +kernel) (by decide +kernel) (th_l _ (by decide +kernel)) (th_l _ (by decide +kernel)) th_2 (by decide +kernel) (by rw [hml]; exact hl.1) dX6_put_29 dX6_put_32 dX6_put_33 dX6_put_35 dX6_put_38 (Nat.le_of_ble_eq_true rfl) (Nat.le_of_ble_eq_true rfl) (Nat.le_of_ble_eq_true rfl) (Nat.le_of_ble_eq_true rfl) hlocks (Or.inr (Or.inl ⟨by unfold qput; rw [if_neg (fun q => q c_5), if_pos (Or.inl c_20)], rfl⟩)) (Nat.le_refl _) (Nat.le_refl _)
    · refine lv_iload_n hx hb dX6_put_23 rfl (lv_at hl 2 rfl) ?_
      refine lv_bipush (v := nI 20) hx hb dX6_put_24 (by decide +kernel) ?_
      refine lv_icmp_le (tgt := 39) hx hb dX6_put_26 (by decide) (fun c_26 => ?_) (fun c_26 => ?_)
      · obtain ⟨g0, hg1, hg2, hg⟩ := grp_nat c_20 c_26
        have hl : lv_has ls 3 [(0, .ref (ad 0)), (1, .int (nI s0)), (2, .int (nI g0))] := by simpa only [hg] using hl
        refine lv_aload_n hx hb dX6_put_39 rfl (lv_at hl 0 rfl) ?_
        refine va_get (D := (dC, dI)) (ci := 5) (v := .ref (ad 2)) (C := RX6) (T := TX6) (N := 7) hx hb hts hinX6 hown hK hP 0 rfl rfl 3 (by decide) (hts (.fieldLink RX6 24 "ReshuffleSearch" "height" "[I") (by decide +kernel)) (fun _ h9 => h9) rfl dX6_put_40 ?_
        refine lv_iload_n hx hb dX6_put_43 rfl (lv_at hl 1 rfl) ?_
        refine wk_iald hx hb hK hP 2 0 rfl rfl (by omega) dX6_put_44 ?_
        refine lv_aload_n hx hb dX6_put_45 rfl (lv_at hl 0 rfl) ?_
        refine va_get (D := (dC, dI)) (ci := 5) (v := .int (nI t)) (C := RX6) (T := TX6) (N := 7) hx hb hts hinX6 hown hK hP 0 rfl rfl 1 (by decide) (hts (.fieldLink RX6 17 "ReshuffleSearch" "tiers" "I") (by decide +kernel)) (fun _ h9 => h9) rfl dX6_put_46 ?_
        refine wk_icmp_ge (tgt := 61) hx hb (by omega) (by omega) dX6_put_49 (by decide) (fun c_49 => ?_) (fun c_49 => ?_)
        · exact th_go (cls := "java/lang/IllegalStateException") (names := thF) (text := "no room for a box") (ik := 68) (is := 70) (ic := 72) hx hb hlt hown hnx hTw hZ hP (by decide +kernel) (by decide +kernel) (th_l _ (by decide +kernel)) (th_l _ (by decide +kernel)) th_3 (by decide +kernel) (by rw [hml]; exact hl.1) dX6_put_61 dX6_put_64 dX6_put_65 dX6_put_67 dX6_put_70 (Nat.le_of_ble_eq_true rfl) (Nat.le_of_ble_eq_true rfl) (Nat.le_of_ble_eq_true rfl) (Nat.le_of_ble_eq_true rfl) hlocks (Or.inr (Or.inr ⟨by unfold qput; rw [if_neg (fun q => q c_5), if_neg (by rintro (q | q); exact c_20 q; exact Int32.not_le.mpr q c_26), if_pos (by rw [hi, tn (by omega)]; left; omega)], rfl⟩)) (Nat.le_refl _) (Nat.le_refl _)
        · refine lv_aload_n hx hb dX6_put_52 rfl (lv_at hl 0 rfl) ?_
          refine pu_go (va_runV (As := []) (rest := []) ⟨hx, hb, hml, hown, hts⟩ (c_X6_boxes l dC dI ad cI cJ n t P HT RK GP sm F T M ST ln mn E hn0) (cwV 0 hts gX6_put_X6_boxes rfl rfl rfl (by decide +kernel) ⟨Nat.le_of_ble_eq_true rfl, Nat.le_of_ble_eq_true rfl⟩) ⟨rc_blind, va_recv hK hP (ci := 5) (q0 := 0) rfl rfl, fun U hU hW => ⟨rfl, by rw [hU]; exact hP, va_K.moved hW.alike hK, nst_warm hW hN⟩⟩ rfl rfl hl.1 rfl (lv_room (Nat.le_of_ble_eq_true rfl)) dX6_put_53 ⟨Nat.le_of_ble_eq_true rfl, Nat.le_of_ble_eq_true rfl⟩) ?_
          refine lv_bipush (v := nI 6) hx hb dX6_put_56 (by decide +kernel) ?_
          refine wk_icmp_lt (tgt := 71) hx hb (by omega) (by omega) dX6_put_58 (by decide) (fun c_58 => ?_) (fun c_58 => ?_)
          · refine lv_aload_n hx hb dX6_put_71 rfl (lv_at hl 0 rfl) ?_
            refine va_get (D := (dC, dI)) (ci := 5) (v := .ref (ad 1)) (C := RX6) (T := TX6) (N := 7) hx hb hts hinX6 hown hK hP 0 rfl rfl 2 (by decide) (hts (.fieldLink RX6 20 "ReshuffleSearch" "place" "[I") (by decide +kernel)) (fun _ h9 => h9) rfl dX6_put_72 ?_
            refine lv_iload_n hx hb dX6_put_75 rfl (lv_at hl 1 rfl) ?_
            refine lv_aload_n hx hb dX6_put_76 rfl (lv_at hl 0 rfl) ?_
            refine va_get (D := (dC, dI)) (ci := 5) (v := .int (nI t)) (C := RX6) (T := TX6) (N := 7) hx hb hts hinX6 hown hK hP 0 rfl rfl 1 (by decide) (hts (.fieldLink RX6 17 "ReshuffleSearch" "tiers" "I") (by decide +kernel)) (fun _ h9 => h9) rfl dX6_put_77 ?_
            refine wk_imul hx hb dX6_put_80 ?_
            refine lv_aload_n hx hb dX6_put_81 rfl (lv_at hl 0 rfl) ?_
            refine va_get (D := (dC, dI)) (ci := 5) (v := .ref (ad 2)) (C := RX6) (T := TX6) (N := 7) hx hb hts hinX6 hown hK hP 0 rfl rfl 3 (by decide) (hts (.fieldLink RX6 24 "ReshuffleSearch" "height" "[I") (by decide +kernel)) (fun _ h9 => h9) rfl dX6_put_82 ?_
            refine lv_iload_n hx hb dX6_put_85 rfl (lv_at hl 1 rfl) ?_
            refine wk_iald hx hb hK hP 2 0 rfl rfl (by omega) dX6_put_86 ?_
            refine wk_iadd hx hb dX6_put_87 ?_
            refine lv_iload_n hx hb dX6_put_88 rfl (lv_at hl 2 rfl) ?_
            refine wk_iast hx hb hK hP hD hS 1 0 rfl rfl (by have := Nat.mul_le_mul_right t (show s0 ≤ 3 by omega); omega) dX6_put_89 (fun H locs hP hD hS => ?_)
            have hP : va_P (dC, dI) vwCl (cW ad cI cJ n t (upN P ((s0 * t) + (HT s0)) g0) HT RK GP sm F T M ST ln mn E) H := hP
            have hD : va_D A (cW ad cI cJ n t (upN P ((s0 * t) + (HT s0)) g0) HT RK GP sm F T M ST ln mn E) := hD
            refine lv_aload_n hx hb dX6_put_90 rfl (lv_at hl 0 rfl) ?_
            refine va_get (D := (dC, dI)) (ci := 5) (v := .ref (ad 2)) (C := RX6) (T := TX6) (N := 7) hx hb hts hinX6 hown hK hP 0 rfl rfl 3 (by decide) (hts (.fieldLink RX6 24 "ReshuffleSearch" "height" "[I") (by decide +kernel)) (fun _ h9 => h9) rfl dX6_put_91 ?_
            refine lv_iload_n hx hb dX6_put_94 rfl (lv_at hl 1 rfl) ?_
            refine lv_dup2_11 hx hb dX6_put_95 rfl rfl ?_
            refine wk_iald hx hb hK hP 2 0 rfl rfl (by omega) dX6_put_96 ?_
            refine lv_iconst (v := nI 1) hx hb dX6_put_97 (by decide +kernel) ?_
            refine wk_iadd hx hb dX6_put_98 ?_
            refine wk_iast hx hb hK hP hD hS 2 0 rfl rfl (by omega) dX6_put_99 (fun H locs hP hD hS => ?_)
            have hP : va_P (dC, dI) vwCl (cW ad cI cJ n t (upN P ((s0 * t) + (HT s0)) g0) (upN HT s0 ((HT s0) + 1)) RK GP sm F T M ST ln mn E) H := hP
            have hD : va_D A (cW ad cI cJ n t (upN P ((s0 * t) + (HT s0)) g0) (upN HT s0 ((HT s0) + 1)) RK GP sm F T M ST ln mn E) := hD
            refine lv_aload_n hx hb dX6_put_100 rfl (lv_at hl 0 rfl) ?_
            refine va_get (D := (dC, dI)) (ci := 5) (v := .ref (ad 2)) (C := RX6) (T := TX6) (N := 7) hx hb hts hinX6 hown hK hP 0 rfl rfl 3 (by decide) (hts (.fieldLink RX6 24 "ReshuffleSearch" "height" "[I") (by decide +kernel)) (fun _ h9 => h9) rfl dX6_put_101 ?_
            refine lv_iload_n hx hb dX6_put_104 rfl (lv_at hl 1 rfl) ?_
            refine wk_iald hx hb hK hP 2 0 rfl rfl (by omega) dX6_put_105 ?_
            refine wk_ti (v' := nI (HT s0 + 1)) (by rw [upN_s]) ?_
            exact vx_ret (W.widen (k := 1) (n := 6) (by omega) (by omega) (W.iret hx hb hr (fun t9 ht hW => ⟨some (.int (nI (HT s0 + 1))), (cW ad cI cJ n t (upN P ((s0 * t) + (HT s0)) g0) (upN HT s0 ((HT s0) + 1)) RK GP sm F T M ST ln mn E), rfl, ⟨by unfold qput; rw [if_neg (fun q => q c_5), if_neg (by rintro (q | q); exact c_20 q; exact Int32.not_le.mpr q c_26), if_neg (by rw [hi, tn (by omega)]; omega)], by rw [hi, tn (by omega)], by rw [hi, hg, tn (show s0 < 2147483648 by omega), tn (show g0 < 2147483648 by omega)]⟩, by rw [ht]; exact hP, hD, hS.F ht⟩) hS.2.2 dX6_put_106))
          · exact th_go (cls := "java/lang/IllegalStateException") (names := thF) (text := "no room for a box") (ik := 68) (is := 70) (ic := 72) hx hb hlt hown hnx hTw hZ hP (by decide +kernel) (by decide +kernel) (th_l _ (by decide +kernel)) (th_l _ (by decide +kernel)) th_3 (by decide +kernel) (by rw [hml]; exact hl.1) dX6_put_61 dX6_put_64 dX6_put_65 dX6_put_67 dX6_put_70 (Nat.le_of_ble_eq_true rfl) (Nat.le_of_ble_eq_true rfl) (Nat.le_of_ble_eq_true rfl) (Nat.le_of_ble_eq_true rfl) hlocks (Or.inr (Or.inr ⟨by unfold qput; rw [if_neg (fun q => q c_5), if_neg (by rintro (q | q); exact c_20 q; exact Int32.not_le.mpr q c_26), if_pos (by rw [hi, tn (by omega)]; right; omega)], rfl⟩)) (Nat.le_refl _) (Nat.le_refl _)
      · exact th_go (cls := "java/lang/IllegalArgumentException") (names := thF) (text := "no such group") (ik := 59) (is := 61) (ic := 63) hx hb hlt hown hnx hTw hZ hP (by decide +kernel) (by decide +kernel) (th_l _ (by decide +kernel)) (th_l _ (by decide +kernel)) th_2 (by decide +kernel) (by rw [hml]; exact hl.1) dX6_put_29 dX6_put_32 dX6_put_33 dX6_put_35 dX6_put_38 (Nat.le_of_ble_eq_true rfl) (Nat.le_of_ble_eq_true rfl) (Nat.le_of_ble_eq_true rfl) (Nat.le_of_ble_eq_true rfl) hlocks (Or.inr (Or.inl ⟨by unfold qput; rw [if_neg (fun q => q c_5), if_pos (Or.inr (Int32.not_le.mp c_26))], rfl⟩)) (Nat.le_refl _) (Nat.le_refl _)
  · exact th_go (cls := RJx00060) (names := thE) (text := "no such stack") (ik := 52) (is := 54) (ic := 56) hx hb hlt hown hnx hTw hZ hP (by decide +kernel) (by decide +kernel) (th_l _ (by decide +kernel)) (th_l _ (by decide +kernel)) th_1 (by decide +kernel) (by rw [hml]; exact hl.1) dX6_put_8 dX6_put_11 dX6_put_12 dX6_put_14 dX6_put_17 (Nat.le_of_ble_eq_true rfl) (Nat.le_of_ble_eq_true rfl) (Nat.le_of_ble_eq_true rfl) (Nat.le_of_ble_eq_true rfl) hlocks (Or.inl ⟨by unfold qput; rw [if_pos c_5], rfl⟩) (Nat.le_refl _) (Nat.le_refl _)
set_option maxHeartbeats 4000000 in
set_option maxRecDepth 100000 in
theorem c_X6_off (l : Launch) (hlt : l.stackTraces = false) (dC : Nat → ClassId) (dI : Nat → Nat → Nat) (ad : Nat → Nat) (cI cJ : ClassId) (n t : Nat) (P HT RK GP : Nat → Nat) (sm : Int32) (F T M ST : Nat → Nat) (ln mn : Int32) (E : Nat → Nat) (hn0 : 2 ≤ n ∧ n ≤ 4) (ht0 : 2 ≤ t ∧ t ≤ 4) (hB0 : ∀ j, HT j ≤ 4) (i : Int32) (hHt : ∀ j, HT j ≤ t)  (sz : Nat) : vx_Met l yX6_off wsX6_off9 ({ frames := 8, cells := 1, slots := 6, locals := 200 }) (va_Pc [.ref (ad 0), .int i] (th_P (dC, dI) [(cI, .int), (cJ, .long)] (cW ad cI cJ n t P HT RK GP sm F T M ST ln mn E) sz)) (wr_Q (dC, dI) (va_A (cW ad cI cJ n t P HT RK GP sm F T M ST ln mn E) sz) (fun r W1 => qoff n HT i = 0 ∧ r = some (.int (nI (P (i.toNatClampNeg * t + (HT i.toNatClampNeg - 1))))) ∧ W1 = (cW ad cI cJ n t (upN P (i.toNatClampNeg * t + (HT i.toNatClampNeg - 1)) 0) (upN HT i.toNatClampNeg (HT i.toNatClampNeg - 1)) RK GP sm F T M ST ln mn E))) (th_X (dC, dI) (va_A (cW ad cI cJ n t P HT RK GP sm F T M ST ln mn E) sz) (cW ad cI cJ n t P HT RK GP sm F T M ST ln mn E) (fun E => (qoff n HT i = 1 ∧ E = RJx00060) ∨ (qoff n HT i = 2 ∧ E = "java/util/NoSuchElementException"))) 1 6 (va_A (cW ad cI cJ n t P HT RK GP sm F T M ST ln mn E) sz) := by
  refine vx_ofW (cc := cX6_off) (maxL := 4) (ret := (some .int)) (by decide) rfl ?_
  intro p e s m args below meth c s₁ B hml hnx hv
  obtain ⟨rfl, ⟨⟨hsz, hP, hK, hD0⟩, hN⟩, hTw, hZ⟩ := hv
  have hx := B.exec
  have hb := B.bytes
  have hr := B.returns
  have hts := atoms_spec (ws := wsX6_off9) B.pre
  have hown : s.vm.findClass RX6 = some m.cls := findClass_of_methodNamed B.named
  have hlocks := B.notSynchronized
  have hinX6 : ∀ w ∈ u_ws RX6 TX6 7, w ∈ wsX6_off9 := by decide +kernel
  subst hsz
  have hD := hD0.self (sz := s.heap.size)
  generalize hAe : va_A (cW ad cI cJ n t P HT RK GP sm F T M ST ln mn E) s.heap.size = A at hD hZ ⊢
  have hA : ∀ q : Nat, s.heap.size ≤ q → A q := fun q h => by rw [← hAe]; exact Or.inr h
  have hS : va_S A s.heap s.heap [] := va_S.rf
  have hl := lv_entry ([.ref (ad 0), .int i]) (n := 4) (Nat.le_of_ble_eq_true rfl)
  rw [lg_entry_eq]
  generalize (lg_sl ([.ref (ad 0), .int i]) ++ List.replicate (4 - (lg_sl ([.ref (ad 0), .int i])).length) Slot.unset).toArray = ls at hl ⊢
  have hl : lv_has ls 4 [(0, .ref (ad 0)), (1, .int i)] := hl
  refine lv_aload_n hx hb dX6_off_0 rfl (lv_at hl 0 rfl) ?_
  refine lv_iload_n hx hb dX6_off_1 rfl (lv_at hl 1 rfl) ?_
  refine pu_go (va_runV (As := [.int i]) (rest := []) ⟨hx, hb, hml, hown, hts⟩ (c_X6_isStack l dC dI ad cI cJ n t P HT RK GP sm F T M ST ln mn E i) (cwV 1 hts gX6_off9_X6_isStack rfl rfl rfl (by decide +kernel) ⟨Nat.le_of_ble_eq_true rfl, Nat.le_of_ble_eq_true rfl⟩) ⟨rc_blind, va_recv hK hP (ci := 5) (q0 := 0) rfl rfl, fun U hU hW => ⟨rfl, by rw [hU]; exact hP, va_K.moved hW.alike hK, nst_warm hW hN⟩⟩ rfl rfl hl.1 rfl (lv_room (Nat.le_of_ble_eq_true rfl)) dX6_off_2 ⟨Nat.le_of_ble_eq_true rfl, Nat.le_of_ble_eq_true rfl⟩) ?_
  refine wk_bn_ne (tgt := 18) hx hb dX6_off_5 (by decide) (fun c_5 => ?_) (fun c_5 => ?_)
  · obtain ⟨s0, hs0, hi⟩ := stk_nat (by omega) c_5
    have hq1 := hB0 s0
    have hq2 := hHt s0
    have hq3 := Nat.mul_le_mul_right t (show s0 ≤ 3 by omega)
    have hl : lv_has ls 4 [(0, .ref (ad 0)), (1, .int (nI s0))] := by simpa only [hi] using hl
    refine lv_aload_n hx hb dX6_off_18 rfl (lv_at hl 0 rfl) ?_
    refine va_get (D := (dC, dI)) (ci := 5) (v := .ref (ad 2)) (C := RX6) (T := TX6) (N := 7) hx hb hts hinX6 hown hK hP 0 rfl rfl 3 (by decide) (hts (.fieldLink RX6 24 "ReshuffleSearch" "height" "[I") (by decide +kernel)) (fun _ h9 => h9) rfl dX6_off_19 ?_
    refine lv_iload_n hx hb dX6_off_22 rfl (lv_at hl 1 rfl) ?_
    refine wk_iald hx hb hK hP 2 0 rfl rfl (by omega) dX6_off_23 ?_
    refine wk_if_gt (tgt := 37) hx hb (by omega) dX6_off_24 (by decide) (fun c_24 => ?_) (fun c_24 => ?_)
    · refine lv_aload_n hx hb dX6_off_37 rfl (lv_at hl 0 rfl) ?_
      refine va_get (D := (dC, dI)) (ci := 5) (v := .ref (ad 2)) (C := RX6) (T := TX6) (N := 7) hx hb hts hinX6 hown hK hP 0 rfl rfl 3 (by decide) (hts (.fieldLink RX6 24 "ReshuffleSearch" "height" "[I") (by decide +kernel)) (fun _ h9 => h9) rfl dX6_off_38 ?_
      refine lv_iload_n hx hb dX6_off_41 rfl (lv_at hl 1 rfl) ?_
      refine lv_dup2_11 hx hb dX6_off_42 rfl rfl ?_
      refine wk_iald hx hb hK hP 2 0 rfl rfl (by omega) dX6_off_43 ?_
      refine lv_iconst (v := nI 1) hx hb dX6_off_44 (by decide +kernel) ?_
      refine wk_isub hx hb (by omega) dX6_off_45 ?_
      refine wk_iast hx hb hK hP hD hS 2 0 rfl rfl (by omega) dX6_off_46 (fun H locs hP hD hS => ?_)
      have hP : va_P (dC, dI) vwCl (cW ad cI cJ n t P (upN HT s0 ((HT s0) - 1)) RK GP sm F T M ST ln mn E) H := hP
      have hD : va_D A (cW ad cI cJ n t P (upN HT s0 ((HT s0) - 1)) RK GP sm F T M ST ln mn E) := hD
      refine lv_iload_n hx hb dX6_off_47 rfl (lv_at hl 1 rfl) ?_
      refine lv_aload_n hx hb dX6_off_48 rfl (lv_at hl 0 rfl) ?_
      refine va_get (D := (dC, dI)) (ci := 5) (v := .int (nI t)) (C := RX6) (T := TX6) (N := 7) hx hb hts hinX6 hown hK hP 0 rfl rfl 1 (by decide) (hts (.fieldLink RX6 17 "ReshuffleSearch" "tiers" "I") (by decide +kernel)) (fun _ h9 => h9) rfl dX6_off_49 ?_
      refine wk_imul hx hb dX6_off_52 ?_
      refine lv_aload_n hx hb dX6_off_53 rfl (lv_at hl 0 rfl) ?_
      refine va_get (D := (dC, dI)) (ci := 5) (v := .ref (ad 2)) (C := RX6) (T := TX6) (N := 7) hx hb hts hinX6 hown hK hP 0 rfl rfl 3 (by decide) (hts (.fieldLink RX6 24 "ReshuffleSearch" "height" "[I") (by decide +kernel)) (fun _ h9 => h9) rfl dX6_off_54 ?_
      refine lv_iload_n hx hb dX6_off_57 rfl (lv_at hl 1 rfl) ?_
      refine wk_iald hx hb hK hP 2 0 rfl rfl (by omega) dX6_off_58 ?_
      refine wk_ti (v' := nI (HT s0 - 1)) (by rw [upN_s]) ?_
      refine wk_iadd hx hb dX6_off_59 ?_
      refine lv_istore_n (lv' := [(2, .int (nI ((s0 * t) + (HT s0 - 1)))), (0, .ref (ad 0)), (1, .int (nI s0))]) hx hb dX6_off_60 rfl hl (by decide) rfl (fun ls hl => ?_)
      refine lv_aload_n hx hb dX6_off_61 rfl (lv_at hl 1 rfl) ?_
      refine va_get (D := (dC, dI)) (ci := 5) (v := .ref (ad 1)) (C := RX6) (T := TX6) (N := 7) hx hb hts hinX6 hown hK hP 0 rfl rfl 2 (by decide) (hts (.fieldLink RX6 20 "ReshuffleSearch" "place" "[I") (by decide +kernel)) (fun _ h9 => h9) rfl dX6_off_62 ?_
      refine lv_iload_n hx hb dX6_off_65 rfl (lv_at hl 0 rfl) ?_
      refine wk_iald hx hb hK hP 1 0 rfl rfl (by omega) dX6_off_66 ?_
      refine lv_istore_n (lv' := [(3, .int (nI (P ((s0 * t) + (HT s0 - 1))))), (2, .int (nI ((s0 * t) + (HT s0 - 1)))), (0, .ref (ad 0)), (1, .int (nI s0))]) hx hb dX6_off_67 rfl hl (by decide) rfl (fun ls hl => ?_)
      refine lv_aload_n hx hb dX6_off_68 rfl (lv_at hl 2 rfl) ?_
      refine va_get (D := (dC, dI)) (ci := 5) (v := .ref (ad 1)) (C := RX6) (T := TX6) (N := 7) hx hb hts hinX6 hown hK hP 0 rfl rfl 2 (by decide) (hts (.fieldLink RX6 20 "ReshuffleSearch" "place" "[I") (by decide +kernel)) (fun _ h9 => h9) rfl dX6_off_69 ?_
      refine lv_iload_n hx hb dX6_off_72 rfl (lv_at hl 1 rfl) ?_
      refine lv_iconst (v := nI 0) hx hb dX6_off_73 (by decide +kernel) ?_
      refine wk_iast hx hb hK hP hD hS 1 0 rfl rfl (by omega) dX6_off_74 (fun H locs hP hD hS => ?_)
      have hP : va_P (dC, dI) vwCl (cW ad cI cJ n t (upN P ((s0 * t) + (HT s0 - 1)) 0) (upN HT s0 ((HT s0) - 1)) RK GP sm F T M ST ln mn E) H := hP
      have hD : va_D A (cW ad cI cJ n t (upN P ((s0 * t) + (HT s0 - 1)) 0) (upN HT s0 ((HT s0) - 1)) RK GP sm F T M ST ln mn E) := hD
      refine lv_iload_n hx hb dX6_off_75 rfl (lv_at hl 0 rfl) ?_
      exact vx_ret (W.widen (k := 1) (n := 6) (by omega) (by omega) (W.iret hx hb hr (fun t9 ht hW => ⟨some (.int (nI (P ((s0 * t) + (HT s0 - 1))))), (cW ad cI cJ n t (upN P ((s0 * t) + (HT s0 - 1)) 0) (upN HT s0 ((HT s0) - 1)) RK GP sm F T M ST ln mn E), rfl, ⟨by unfold qoff; rw [if_neg (fun q => q c_5), if_neg (by rw [hi, tn (by omega)]; omega)], by rw [hi, tn (by omega)], by rw [hi, tn (show s0 < 2147483648 by omega)]⟩, by rw [ht]; exact hP, hD, hS.F ht⟩) hS.2.2 dX6_off_76))
    · exact th_goN (text := "the stack is empty") (ik := 73) (is := 75) (ic := 77) hx hb hlt hown hnx hTw hZ hP (th_l _ (by decide +kernel)) (th_l _ (by decide +kernel)) th_4 (by decide +kernel) (by rw [hml]; exact hl.1) dX6_off_27 dX6_off_30 dX6_off_31 dX6_off_33 dX6_off_36 (Nat.le_of_ble_eq_true rfl) (Nat.le_of_ble_eq_true rfl) (Nat.le_of_ble_eq_true rfl) (Nat.le_of_ble_eq_true rfl) hlocks (Or.inr ⟨by unfold qoff; rw [if_neg (fun q => q c_5), if_pos (by rw [hi, tn (by omega)]; omega)], rfl⟩) (Nat.le_refl _) (Nat.le_refl _)
  · exact th_go (cls := RJx00060) (names := thE) (text := "no such stack") (ik := 52) (is := 54) (ic := 56) hx hb hlt hown hnx hTw hZ hP (by decide +kernel) (by decide +kernel) (th_l _ (by decide +kernel)) (th_l _ (by decide +kernel)) th_1 (by decide +kernel) (by rw [hml]; exact hl.1) dX6_off_8 dX6_off_11 dX6_off_12 dX6_off_14 dX6_off_17 (Nat.le_of_ble_eq_true rfl) (Nat.le_of_ble_eq_true rfl) (Nat.le_of_ble_eq_true rfl) (Nat.le_of_ble_eq_true rfl) hlocks (Or.inl ⟨by unfold qoff; rw [if_pos c_5], rfl⟩) (Nat.le_refl _) (Nat.le_refl _)
set_option maxHeartbeats 4000000 in
set_option maxRecDepth 100000 in
theorem c_X6_travel (l : Launch) (hlt : l.stackTraces = false) (dC : Nat → ClassId) (dI : Nat → Nat → Nat) (ad : Nat → Nat) (cI cJ : ClassId) (n t : Nat) (P HT RK GP : Nat → Nat) (sm : Int32) (F T M ST : Nat → Nat) (ln mn : Int32) (E : Nat → Nat) (hn0 : 2 ≤ n ∧ n ≤ 4) (i j : Int32)  (sz : Nat) : vx_Met l yX6_travel wsX6_travel ({ frames := 8, cells := 1, slots := 6, locals := 200 }) (va_Pc [.ref (ad 0), .int i, .int j] (th_P (dC, dI) [(cI, .int), (cJ, .long)] (cW ad cI cJ n t P HT RK GP sm F T M ST ln mn E) sz)) (wr_Q (dC, dI) (va_A (cW ad cI cJ n t P HT RK GP sm F T M ST ln mn E) sz) (fun r W1 => ktr n i j = 0 ∧ r = some (.int (nI (vtr i.toNatClampNeg j.toNatClampNeg))) ∧ W1 = (cW ad cI cJ n t P HT RK GP sm F T M ST ln mn E))) (th_X (dC, dI) (va_A (cW ad cI cJ n t P HT RK GP sm F T M ST ln mn E) sz) (cW ad cI cJ n t P HT RK GP sm F T M ST ln mn E) (fun E => ktr n i j = 1 ∧ E = RJx00060)) 1 6 (va_A (cW ad cI cJ n t P HT RK GP sm F T M ST ln mn E) sz) := by
  refine vx_ofW (cc := cX6_travel) (maxL := 3) (ret := (some .int)) (by decide) rfl ?_
  intro p e s m args below meth c s₁ B hml hnx hv
  obtain ⟨rfl, ⟨⟨hsz, hP, hK, hD0⟩, hN⟩, hTw, hZ⟩ := hv
  have hx := B.exec
  have hb := B.bytes
  have hr := B.returns
  have hts := atoms_spec (ws := wsX6_travel) B.pre
  have hown : s.vm.findClass RX6 = some m.cls := findClass_of_methodNamed B.named
  have hlocks := B.notSynchronized
  subst hsz
  have hD := hD0.self (sz := s.heap.size)
  generalize hAe : va_A (cW ad cI cJ n t P HT RK GP sm F T M ST ln mn E) s.heap.size = A at hD hZ ⊢
  have hA : ∀ q : Nat, s.heap.size ≤ q → A q := fun q h => by rw [← hAe]; exact Or.inr h
  have hS : va_S A s.heap s.heap [] := va_S.rf
  have hl := lv_entry ([.ref (ad 0), .int i, .int j]) (n := 3) (Nat.le_of_ble_eq_true rfl)
  rw [lg_entry_eq]
  generalize (lg_sl ([.ref (ad 0), .int i, .int j]) ++ List.replicate (3 - (lg_sl ([.ref (ad 0), .int i, .int j])).length) Slot.unset).toArray = ls at hl ⊢
  have hl : lv_has ls 3 [(0, .ref (ad 0)), (1, .int i), (2, .int j)] := hl
  refine lv_aload_n hx hb dX6_travel_0 rfl (lv_at hl 0 rfl) ?_
  refine lv_iload_n hx hb dX6_travel_1 rfl (lv_at hl 1 rfl) ?_
  refine pu_go (va_runV (As := [.int i]) (rest := []) ⟨hx, hb, hml, hown, hts⟩ (c_X6_isStack l dC dI ad cI cJ n t P HT RK GP sm F T M ST ln mn E i) (cwV 1 hts gX6_travel_X6_isStack rfl rfl rfl (by decide +kernel) ⟨Nat.le_of_ble_eq_true rfl, Nat.le_of_ble_eq_true rfl⟩) ⟨rc_blind, va_recv hK hP (ci := 5) (q0 := 0) rfl rfl, fun U hU hW => ⟨rfl, by rw [hU]; exact hP, va_K.moved hW.alike hK, nst_warm hW hN⟩⟩ rfl rfl hl.1 rfl (lv_room (Nat.le_of_ble_eq_true rfl)) dX6_travel_2 ⟨Nat.le_of_ble_eq_true rfl, Nat.le_of_ble_eq_true rfl⟩) ?_
  refine wk_bn_eq (tgt := 16) hx hb dX6_travel_5 (by decide) (fun c_5 => ?_) (fun c_5 => ?_)
  · exact th_go (cls := RJx00060) (names := thE) (text := "no such stack") (ik := 52) (is := 54) (ic := 56) hx hb hlt hown hnx hTw hZ hP (by decide +kernel) (by decide +kernel) (th_l _ (by decide +kernel)) (th_l _ (by decide +kernel)) th_1 (by decide +kernel) (by rw [hml]; exact hl.1) dX6_travel_16 dX6_travel_19 dX6_travel_20 dX6_travel_22 dX6_travel_25 (Nat.le_of_ble_eq_true rfl) (Nat.le_of_ble_eq_true rfl) (Nat.le_of_ble_eq_true rfl) (Nat.le_of_ble_eq_true rfl) hlocks (⟨by unfold ktr; rw [if_neg (fun q => c_5 q.1)], rfl⟩) (Nat.le_refl _) (Nat.le_refl _)
  · refine lv_aload_n hx hb dX6_travel_8 rfl (lv_at hl 0 rfl) ?_
    refine lv_iload_n hx hb dX6_travel_9 rfl (lv_at hl 2 rfl) ?_
    refine pu_go (va_runV (As := [.int j]) (rest := []) ⟨hx, hb, hml, hown, hts⟩ (c_X6_isStack l dC dI ad cI cJ n t P HT RK GP sm F T M ST ln mn E j) (cwV 1 hts gX6_travel_X6_isStack rfl rfl rfl (by decide +kernel) ⟨Nat.le_of_ble_eq_true rfl, Nat.le_of_ble_eq_true rfl⟩) ⟨rc_blind, va_recv hK hP (ci := 5) (q0 := 0) rfl rfl, fun U hU hW => ⟨rfl, by rw [hU]; exact hP, va_K.moved hW.alike hK, nst_warm hW hN⟩⟩ rfl rfl hl.1 rfl (lv_room (Nat.le_of_ble_eq_true rfl)) dX6_travel_10 ⟨Nat.le_of_ble_eq_true rfl, Nat.le_of_ble_eq_true rfl⟩) ?_
    refine wk_bn_ne (tgt := 26) hx hb dX6_travel_13 (by decide) (fun c_13 => ?_) (fun c_13 => ?_)
    · obtain ⟨a, ha, hi⟩ := stk_nat (by omega) c_5
      obtain ⟨b, hb9, hj⟩ := stk_nat (by omega) c_13
      have hl : lv_has ls 3 [(0, .ref (ad 0)), (1, .int (nI a)), (2, .int (nI b))] := by simpa only [hi, hj] using hl
      refine lv_iload_n hx hb dX6_travel_26 rfl (lv_at hl 1 rfl) ?_
      refine lv_iload_n hx hb dX6_travel_27 rfl (lv_at hl 2 rfl) ?_
      refine pu_go (va_runS (As := [.int (nI a), .int (nI b)]) (rest := []) ⟨hx, hb, hml, hown, hts⟩ (c_X6_travelOf l a b (by first | omega | assumption) (by first | omega | assumption)) (va_cwS 2 hts gX6_travel_X6_travelOf rfl rfl rfl (by decide +kernel) ⟨Nat.le_of_ble_eq_true rfl, Nat.le_of_ble_eq_true rfl⟩) ⟨fun _ _ _ _ q => q, fun _ _ _ => ⟨rfl, trivial⟩⟩ rfl rfl hl.1 rfl (lv_room (Nat.le_of_ble_eq_true rfl)) dX6_travel_28 ⟨Nat.le_of_ble_eq_true rfl, Nat.le_of_ble_eq_true rfl⟩) ?_
      exact vx_ret (W.widen (k := 1) (n := 6) (by omega) (by omega) (W.iret hx hb hr (fun t9 ht hW => ⟨some (.int (nI (vtr a b))), (cW ad cI cJ n t P HT RK GP sm F T M ST ln mn E), rfl, ⟨by unfold ktr; rw [if_pos ⟨c_5, c_13⟩], by rw [hi, hj, tn (show a < 2147483648 by omega), tn (show b < 2147483648 by omega)], rfl⟩, by rw [ht]; exact hP, hD, hS.F ht⟩) hS.2.2 dX6_travel_31))
    · exact th_go (cls := RJx00060) (names := thE) (text := "no such stack") (ik := 52) (is := 54) (ic := 56) hx hb hlt hown hnx hTw hZ hP (by decide +kernel) (by decide +kernel) (th_l _ (by decide +kernel)) (th_l _ (by decide +kernel)) th_1 (by decide +kernel) (by rw [hml]; exact hl.1) dX6_travel_16 dX6_travel_19 dX6_travel_20 dX6_travel_22 dX6_travel_25 (Nat.le_of_ble_eq_true rfl) (Nat.le_of_ble_eq_true rfl) (Nat.le_of_ble_eq_true rfl) (Nat.le_of_ble_eq_true rfl) hlocks (⟨by unfold ktr; rw [if_neg (fun q => c_13 q.2)], rfl⟩) (Nat.le_refl _) (Nat.le_refl _)
set_option maxHeartbeats 4000000 in
set_option maxRecDepth 100000 in
theorem c_X6_at (l : Launch) (hlt : l.stackTraces = false) (dC : Nat → ClassId) (dI : Nat → Nat → Nat) (ad : Nat → Nat) (cI cJ : ClassId) (n t : Nat) (P HT RK GP : Nat → Nat) (sm : Int32) (F T M ST : Nat → Nat) (ln mn : Int32) (E : Nat → Nat) (hn0 : 2 ≤ n ∧ n ≤ 4) (ht0 : 2 ≤ t ∧ t ≤ 4) (i j : Int32)  (sz : Nat) : vx_Met l yX6_at wsX6_at ({ frames := 8, cells := 1, slots := 6, locals := 200 }) (va_Pc [.ref (ad 0), .int i, .int j] (th_P (dC, dI) [(cI, .int), (cJ, .long)] (cW ad cI cJ n t P HT RK GP sm F T M ST ln mn E) sz)) (wr_Q (dC, dI) (va_A (cW ad cI cJ n t P HT RK GP sm F T M ST ln mn E) sz) (fun r W1 => kat n t i j = 0 ∧ r = some (.int (nI (P (i.toNatClampNeg * t + j.toNatClampNeg)))) ∧ W1 = (cW ad cI cJ n t P HT RK GP sm F T M ST ln mn E))) (th_X (dC, dI) (va_A (cW ad cI cJ n t P HT RK GP sm F T M ST ln mn E) sz) (cW ad cI cJ n t P HT RK GP sm F T M ST ln mn E) (fun E => kat n t i j = 1 ∧ E = RJx00060)) 1 6 (va_A (cW ad cI cJ n t P HT RK GP sm F T M ST ln mn E) sz) := by
  refine vx_ofW (cc := cX6_at) (maxL := 3) (ret := (some .int)) (by decide) rfl ?_
  intro p e s m args below meth c s₁ B hml hnx hv
  obtain ⟨rfl, ⟨⟨hsz, hP, hK, hD0⟩, hN⟩, hTw, hZ⟩ := hv
  have hx := B.exec
  have hb := B.bytes
  have hr := B.returns
  have hts := atoms_spec (ws := wsX6_at) B.pre
  have hown : s.vm.findClass RX6 = some m.cls := findClass_of_methodNamed B.named
  have hlocks := B.notSynchronized
  have hinX6 : ∀ w ∈ u_ws RX6 TX6 7, w ∈ wsX6_at := by decide +kernel
  subst hsz
  have hD := hD0.self (sz := s.heap.size)
  generalize hAe : va_A (cW ad cI cJ n t P HT RK GP sm F T M ST ln mn E) s.heap.size = A at hD hZ ⊢
  have hA : ∀ q : Nat, s.heap.size ≤ q → A q := fun q h => by rw [← hAe]; exact Or.inr h
  have hS : va_S A s.heap s.heap [] := va_S.rf
  have hl := lv_entry ([.ref (ad 0), .int i, .int j]) (n := 3) (Nat.le_of_ble_eq_true rfl)
  rw [lg_entry_eq]
  generalize (lg_sl ([.ref (ad 0), .int i, .int j]) ++ List.replicate (3 - (lg_sl ([.ref (ad 0), .int i, .int j])).length) Slot.unset).toArray = ls at hl ⊢
  have hl : lv_has ls 3 [(0, .ref (ad 0)), (1, .int i), (2, .int j)] := hl
  refine lv_aload_n hx hb dX6_at_0 rfl (lv_at hl 0 rfl) ?_
  refine lv_iload_n hx hb dX6_at_1 rfl (lv_at hl 1 rfl) ?_
  refine pu_go (va_runV (As := [.int i]) (rest := []) ⟨hx, hb, hml, hown, hts⟩ (c_X6_isStack l dC dI ad cI cJ n t P HT RK GP sm F T M ST ln mn E i) (cwV 1 hts gX6_at_X6_isStack rfl rfl rfl (by decide +kernel) ⟨Nat.le_of_ble_eq_true rfl, Nat.le_of_ble_eq_true rfl⟩) ⟨rc_blind, va_recv hK hP (ci := 5) (q0 := 0) rfl rfl, fun U hU hW => ⟨rfl, by rw [hU]; exact hP, va_K.moved hW.alike hK, nst_warm hW hN⟩⟩ rfl rfl hl.1 rfl (lv_room (Nat.le_of_ble_eq_true rfl)) dX6_at_2 ⟨Nat.le_of_ble_eq_true rfl, Nat.le_of_ble_eq_true rfl⟩) ?_
  refine wk_bn_eq (tgt := 20) hx hb dX6_at_5 (by decide) (fun c_5 => ?_) (fun c_5 => ?_)
  · exact th_go (cls := RJx00060) (names := thE) (text := "no such stack or tier") (ik := 52) (is := 160) (ic := 56) hx hb hlt hown hnx hTw hZ hP (by decide +kernel) (by decide +kernel) (th_l _ (by decide +kernel)) (th_l _ (by decide +kernel)) th_1 (by decide +kernel) (by rw [hml]; exact hl.1) dX6_at_20 dX6_at_23 dX6_at_24 dX6_at_26 dX6_at_29 (Nat.le_of_ble_eq_true rfl) (Nat.le_of_ble_eq_true rfl) (Nat.le_of_ble_eq_true rfl) (Nat.le_of_ble_eq_true rfl) hlocks (⟨by unfold kat; rw [if_neg (fun q => c_5 q.1)], rfl⟩) (Nat.le_refl _) (Nat.le_refl _)
  · refine lv_iload_n hx hb dX6_at_8 rfl (lv_at hl 2 rfl) ?_
    refine lv_if_lt (tgt := 20) hx hb dX6_at_9 (by decide) (fun c_9 => ?_) (fun c_9 => ?_)
    · exact th_go (cls := RJx00060) (names := thE) (text := "no such stack or tier") (ik := 52) (is := 160) (ic := 56) hx hb hlt hown hnx hTw hZ hP (by decide +kernel) (by decide +kernel) (th_l _ (by decide +kernel)) (th_l _ (by decide +kernel)) th_1 (by decide +kernel) (by rw [hml]; exact hl.1) dX6_at_20 dX6_at_23 dX6_at_24 dX6_at_26 dX6_at_29 (Nat.le_of_ble_eq_true rfl) (Nat.le_of_ble_eq_true rfl) (Nat.le_of_ble_eq_true rfl) (Nat.le_of_ble_eq_true rfl) hlocks (⟨by unfold kat; rw [if_neg (fun q => q.2.1 c_9)], rfl⟩) (Nat.le_refl _) (Nat.le_refl _)
    · refine lv_iload_n hx hb dX6_at_12 rfl (lv_at hl 2 rfl) ?_
      refine lv_aload_n hx hb dX6_at_13 rfl (lv_at hl 0 rfl) ?_
      refine va_get (D := (dC, dI)) (ci := 5) (v := .int (nI t)) (C := RX6) (T := TX6) (N := 7) hx hb hts hinX6 hown hK hP 0 rfl rfl 1 (by decide) (hts (.fieldLink RX6 17 "ReshuffleSearch" "tiers" "I") (by decide +kernel)) (fun _ h9 => h9) rfl dX6_at_14 ?_
      refine lv_icmp_lt (tgt := 30) hx hb dX6_at_17 (by decide) (fun c_17 => ?_) (fun c_17 => ?_)
      · obtain ⟨a, ha, hi⟩ := stk_nat (by omega) c_5
        obtain ⟨b, hb9, hj⟩ := stk_nat (n := t) (by omega) ⟨c_9, c_17⟩
        have hq3 := Nat.mul_le_mul_right t (show a ≤ 3 by omega)
        have hl : lv_has ls 3 [(0, .ref (ad 0)), (1, .int (nI a)), (2, .int (nI b))] := by simpa only [hi, hj] using hl
        refine lv_aload_n hx hb dX6_at_30 rfl (lv_at hl 0 rfl) ?_
        refine va_get (D := (dC, dI)) (ci := 5) (v := .ref (ad 1)) (C := RX6) (T := TX6) (N := 7) hx hb hts hinX6 hown hK hP 0 rfl rfl 2 (by decide) (hts (.fieldLink RX6 20 "ReshuffleSearch" "place" "[I") (by decide +kernel)) (fun _ h9 => h9) rfl dX6_at_31 ?_
        refine lv_iload_n hx hb dX6_at_34 rfl (lv_at hl 1 rfl) ?_
        refine lv_aload_n hx hb dX6_at_35 rfl (lv_at hl 0 rfl) ?_
        refine va_get (D := (dC, dI)) (ci := 5) (v := .int (nI t)) (C := RX6) (T := TX6) (N := 7) hx hb hts hinX6 hown hK hP 0 rfl rfl 1 (by decide) (hts (.fieldLink RX6 17 "ReshuffleSearch" "tiers" "I") (by decide +kernel)) (fun _ h9 => h9) rfl dX6_at_36 ?_
        refine wk_imul hx hb dX6_at_39 ?_
        refine lv_iload_n hx hb dX6_at_40 rfl (lv_at hl 2 rfl) ?_
        refine wk_iadd hx hb dX6_at_41 ?_
        refine wk_iald hx hb hK hP 1 0 rfl rfl (by omega) dX6_at_42 ?_
        exact vx_ret (W.widen (k := 1) (n := 6) (by omega) (by omega) (W.iret hx hb hr (fun t9 ht hW => ⟨some (.int (nI (P ((a * t) + b)))), (cW ad cI cJ n t P HT RK GP sm F T M ST ln mn E), rfl, ⟨by unfold kat; rw [if_pos ⟨c_5, c_9, c_17⟩], by rw [hi, hj, tn (show a < 2147483648 by omega), tn (show b < 2147483648 by omega)], rfl⟩, by rw [ht]; exact hP, hD, hS.F ht⟩) hS.2.2 dX6_at_43))
      · exact th_go (cls := RJx00060) (names := thE) (text := "no such stack or tier") (ik := 52) (is := 160) (ic := 56) hx hb hlt hown hnx hTw hZ hP (by decide +kernel) (by decide +kernel) (th_l _ (by decide +kernel)) (th_l _ (by decide +kernel)) th_1 (by decide +kernel) (by rw [hml]; exact hl.1) dX6_at_20 dX6_at_23 dX6_at_24 dX6_at_26 dX6_at_29 (Nat.le_of_ble_eq_true rfl) (Nat.le_of_ble_eq_true rfl) (Nat.le_of_ble_eq_true rfl) (Nat.le_of_ble_eq_true rfl) hlocks (⟨by unfold kat; rw [if_neg (fun q => c_17 q.2.2)], rfl⟩) (Nat.le_refl _) (Nat.le_refl _)
set_option maxHeartbeats 4000000 in
set_option maxRecDepth 100000 in
theorem c_X6_move (l : Launch) (hlt : l.stackTraces = false) (dC : Nat → ClassId) (dI : Nat → Nat → Nat) (ad : Nat → Nat) (cI cJ : ClassId) (n t : Nat) (P HT RK GP : Nat → Nat) (sm : Int32) (F T M ST : Nat → Nat) (ln mn : Int32) (E : Nat → Nat) (i j : Int32)  (sz : Nat) : vx_Met l yX6_move wsX6_move ({ frames := 8, cells := 1, slots := 6, locals := 200 }) (va_Pc [.ref (ad 0), .int i, .int j] (th_P (dC, dI) [(cI, .int), (cJ, .long)] (cW ad cI cJ n t P HT RK GP sm F T M ST ln mn E) sz)) (wr_Q (dC, dI) (va_A (cW ad cI cJ n t P HT RK GP sm F T M ST ln mn E) sz) (fun r W1 => qmv ln i j = 0 ∧ r = some (.int (nI (vmv F T M i.toNatClampNeg j.toNatClampNeg))) ∧ W1 = (cW ad cI cJ n t P HT RK GP sm F T M ST ln mn E))) (th_X (dC, dI) (va_A (cW ad cI cJ n t P HT RK GP sm F T M ST ln mn E) sz) (cW ad cI cJ n t P HT RK GP sm F T M ST ln mn E) (fun E => qmv ln i j = 1 ∧ E = "java/lang/IndexOutOfBoundsException")) 1 6 (va_A (cW ad cI cJ n t P HT RK GP sm F T M ST ln mn E) sz) := by
  refine vx_ofW (cc := cX6_move) (maxL := 3) (ret := (some .int)) (by decide) rfl ?_
  intro p e s m args below meth c s₁ B hml hnx hv
  obtain ⟨rfl, ⟨⟨hsz, hP, hK, hD0⟩, hN⟩, hTw, hZ⟩ := hv
  have hx := B.exec
  have hb := B.bytes
  have hr := B.returns
  have hts := atoms_spec (ws := wsX6_move) B.pre
  have hown : s.vm.findClass RX6 = some m.cls := findClass_of_methodNamed B.named
  have hlocks := B.notSynchronized
  have hinX4 : ∀ w ∈ u_ws RX4 TX4 6, w ∈ wsX6_move := by decide +kernel
  have hinX6 : ∀ w ∈ u_ws RX6 TX6 7, w ∈ wsX6_move := by decide +kernel
  subst hsz
  have hD := hD0.self (sz := s.heap.size)
  generalize hAe : va_A (cW ad cI cJ n t P HT RK GP sm F T M ST ln mn E) s.heap.size = A at hD hZ ⊢
  have hA : ∀ q : Nat, s.heap.size ≤ q → A q := fun q h => by rw [← hAe]; exact Or.inr h
  have hS : va_S A s.heap s.heap [] := va_S.rf
  have hl := lv_entry ([.ref (ad 0), .int i, .int j]) (n := 3) (Nat.le_of_ble_eq_true rfl)
  rw [lg_entry_eq]
  generalize (lg_sl ([.ref (ad 0), .int i, .int j]) ++ List.replicate (3 - (lg_sl ([.ref (ad 0), .int i, .int j])).length) Slot.unset).toArray = ls at hl ⊢
  have hl : lv_has ls 3 [(0, .ref (ad 0)), (1, .int i), (2, .int j)] := hl
  refine lv_aload_n hx hb dX6_move_0 rfl (lv_at hl 0 rfl) ?_
  refine va_get (D := (dC, dI)) (ci := 5) (v := .ref (ad 7)) (C := RX6) (T := TX6) (N := 7) hx hb hts hinX6 hown hK hP 0 rfl rfl 6 (by decide) (hts (.fieldLink RX6 47 "ReshuffleSearch" "way" "LReshuffleSearch$Way;") (by decide +kernel)) (fun _ h9 => h9) rfl dX6_move_1 ?_
  refine lv_iload_n hx hb dX6_move_4 rfl (lv_at hl 1 rfl) ?_
  refine pu_go (va_runV (As := [.int i]) (rest := []) ⟨hx, hb, hml, hown, hts⟩ (c_X4_has l dC dI ad cI cJ n t P HT RK GP sm F T M ST ln mn E i) (cwV 1 hts gX6_move_X4_has rfl rfl rfl (by decide +kernel) ⟨Nat.le_of_ble_eq_true rfl, Nat.le_of_ble_eq_true rfl⟩) ⟨rc_blind, va_recv hK hP (ci := 4) (q0 := 7) rfl rfl, fun U hU hW => ⟨rfl, by rw [hU]; exact hP, va_K.moved hW.alike hK, nst_warm hW hN⟩⟩ rfl rfl hl.1 rfl (lv_room (Nat.le_of_ble_eq_true rfl)) dX6_move_5 ⟨Nat.le_of_ble_eq_true rfl, Nat.le_of_ble_eq_true rfl⟩) ?_
  refine wk_bn_eq (tgt := 20) hx hb dX6_move_8 (by decide) (fun c_8 => ?_) (fun c_8 => ?_)
  · exact th_go (cls := "java/lang/IndexOutOfBoundsException") (names := thF) (text := "no such move or side") (ik := 102) (is := 104) (ic := 106) hx hb hlt hown hnx hTw hZ hP (by decide +kernel) (by decide +kernel) (th_l _ (by decide +kernel)) (th_l _ (by decide +kernel)) th_5 (by decide +kernel) (by rw [hml]; exact hl.1) dX6_move_20 dX6_move_23 dX6_move_24 dX6_move_26 dX6_move_29 (Nat.le_of_ble_eq_true rfl) (Nat.le_of_ble_eq_true rfl) (Nat.le_of_ble_eq_true rfl) (Nat.le_of_ble_eq_true rfl) hlocks (⟨by unfold qmv; rw [if_neg (fun q => c_8 q.1)], rfl⟩) (Nat.le_refl _) (Nat.le_refl _)
  · refine lv_iload_n hx hb dX6_move_11 rfl (lv_at hl 2 rfl) ?_
    refine lv_if_lt (tgt := 20) hx hb dX6_move_12 (by decide) (fun c_12 => ?_) (fun c_12 => ?_)
    · exact th_go (cls := "java/lang/IndexOutOfBoundsException") (names := thF) (text := "no such move or side") (ik := 102) (is := 104) (ic := 106) hx hb hlt hown hnx hTw hZ hP (by decide +kernel) (by decide +kernel) (th_l _ (by decide +kernel)) (th_l _ (by decide +kernel)) th_5 (by decide +kernel) (by rw [hml]; exact hl.1) dX6_move_20 dX6_move_23 dX6_move_24 dX6_move_26 dX6_move_29 (Nat.le_of_ble_eq_true rfl) (Nat.le_of_ble_eq_true rfl) (Nat.le_of_ble_eq_true rfl) (Nat.le_of_ble_eq_true rfl) hlocks (⟨by unfold qmv; rw [if_neg (fun q => q.2.1 c_12)], rfl⟩) (Nat.le_refl _) (Nat.le_refl _)
    · refine lv_iload_n hx hb dX6_move_15 rfl (lv_at hl 2 rfl) ?_
      refine lv_iconst (v := nI 2) hx hb dX6_move_16 (by decide +kernel) ?_
      refine lv_icmp_le (tgt := 30) hx hb dX6_move_17 (by decide) (fun c_17 => ?_) (fun c_17 => ?_)
      · obtain ⟨a, ha, hi⟩ := stk_nat (n := 30) (by decide) ⟨c_8.1, c_8.2.2⟩
        obtain ⟨b, hb9, hj⟩ := stk_nat (n := 3) (by decide) ⟨c_12, i_le (by decide) c_17⟩
        have hq0 : qmv ln i j = 0 := by unfold qmv; rw [if_pos ⟨c_8, c_12, c_17⟩]
        have hl : lv_has ls 3 [(0, .ref (ad 0)), (1, .int (nI a)), (2, .int (nI b))] := by simpa only [hi, hj] using hl
        refine lv_iload_n hx hb dX6_move_30 rfl (lv_at hl 2 rfl) ?_
        refine wk_if_ne (tgt := 46) hx hb (by omega) dX6_move_31 (by decide) (fun c_31 => ?_) (fun c_31 => ?_)
        · refine lv_iload_n hx hb dX6_move_46 rfl (lv_at hl 2 rfl) ?_
          refine lv_iconst (v := nI 1) hx hb dX6_move_47 (by decide +kernel) ?_
          refine wk_icmp_ne (tgt := 63) hx hb (by omega) (by omega) dX6_move_48 (by decide) (fun c_48 => ?_) (fun c_48 => ?_)
          · refine lv_aload_n hx hb dX6_move_63 rfl (lv_at hl 0 rfl) ?_
            refine va_get (D := (dC, dI)) (ci := 5) (v := .ref (ad 7)) (C := RX6) (T := TX6) (N := 7) hx hb hts hinX6 hown hK hP 0 rfl rfl 6 (by decide) (hts (.fieldLink RX6 47 "ReshuffleSearch" "way" "LReshuffleSearch$Way;") (by decide +kernel)) (fun _ h9 => h9) rfl dX6_move_64 ?_
            refine va_getN (D := (dC, dI)) (ci := 4) (v := .ref (ad 10)) (C := RX4) (T := TX4) (N := 6) (host := RX6) hx hb hts hinX4 hown hK hP 7 rfl rfl 2 (by decide) (va_Nw.use rfl hN.1.2.2.1) (fun _ h9 => h9) rfl dX6_move_67 ?_
            refine lv_iload_n hx hb dX6_move_70 rfl (lv_at hl 1 rfl) ?_
            refine wk_iald hx hb hK hP 10 0 rfl rfl (by omega) dX6_move_71 ?_
            exact vx_ret (W.widen (k := 1) (n := 6) (by omega) (by omega) (W.iret hx hb hr (fun t9 ht hW => ⟨some (.int (nI (M a))), (cW ad cI cJ n t P HT RK GP sm F T M ST ln mn E), rfl, ⟨hq0, by rw [hi, hj, tn (show a < 2147483648 by omega), tn (show b < 2147483648 by omega)]; unfold vmv; rw [if_neg c_31, if_neg c_48], rfl⟩, by rw [ht]; exact hP, hD, hS.F ht⟩) hS.2.2 dX6_move_72))
          · refine lv_aload_n hx hb dX6_move_51 rfl (lv_at hl 0 rfl) ?_
            refine va_get (D := (dC, dI)) (ci := 5) (v := .ref (ad 7)) (C := RX6) (T := TX6) (N := 7) hx hb hts hinX6 hown hK hP 0 rfl rfl 6 (by decide) (hts (.fieldLink RX6 47 "ReshuffleSearch" "way" "LReshuffleSearch$Way;") (by decide +kernel)) (fun _ h9 => h9) rfl dX6_move_52 ?_
            refine va_getN (D := (dC, dI)) (ci := 4) (v := .ref (ad 9)) (C := RX4) (T := TX4) (N := 6) (host := RX6) hx hb hts hinX4 hown hK hP 7 rfl rfl 1 (by decide) (va_Nw.use rfl hN.1.2.1) (fun _ h9 => h9) rfl dX6_move_55 ?_
            refine lv_iload_n hx hb dX6_move_58 rfl (lv_at hl 1 rfl) ?_
            refine wk_iald hx hb hK hP 9 0 rfl rfl (by omega) dX6_move_59 ?_
            refine lv_goto (tgt := 72) hx hb dX6_move_60 (by decide) ?_
            exact vx_ret (W.widen (k := 1) (n := 6) (by omega) (by omega) (W.iret hx hb hr (fun t9 ht hW => ⟨some (.int (nI (T a))), (cW ad cI cJ n t P HT RK GP sm F T M ST ln mn E), rfl, ⟨hq0, by rw [hi, hj, tn (show a < 2147483648 by omega), tn (show b < 2147483648 by omega)]; unfold vmv; rw [if_neg c_31, if_pos c_48], rfl⟩, by rw [ht]; exact hP, hD, hS.F ht⟩) hS.2.2 dX6_move_72))
        · refine lv_aload_n hx hb dX6_move_34 rfl (lv_at hl 0 rfl) ?_
          refine va_get (D := (dC, dI)) (ci := 5) (v := .ref (ad 7)) (C := RX6) (T := TX6) (N := 7) hx hb hts hinX6 hown hK hP 0 rfl rfl 6 (by decide) (hts (.fieldLink RX6 47 "ReshuffleSearch" "way" "LReshuffleSearch$Way;") (by decide +kernel)) (fun _ h9 => h9) rfl dX6_move_35 ?_
          refine va_getN (D := (dC, dI)) (ci := 4) (v := .ref (ad 8)) (C := RX4) (T := TX4) (N := 6) (host := RX6) hx hb hts hinX4 hown hK hP 7 rfl rfl 0 (by decide) (va_Nw.use rfl hN.1.1) (fun _ h9 => h9) rfl dX6_move_38 ?_
          refine lv_iload_n hx hb dX6_move_41 rfl (lv_at hl 1 rfl) ?_
          refine wk_iald hx hb hK hP 8 0 rfl rfl (by omega) dX6_move_42 ?_
          refine lv_goto (tgt := 72) hx hb dX6_move_43 (by decide) ?_
          exact vx_ret (W.widen (k := 1) (n := 6) (by omega) (by omega) (W.iret hx hb hr (fun t9 ht hW => ⟨some (.int (nI (F a))), (cW ad cI cJ n t P HT RK GP sm F T M ST ln mn E), rfl, ⟨hq0, by rw [hi, hj, tn (show a < 2147483648 by omega), tn (show b < 2147483648 by omega)]; unfold vmv; rw [if_pos c_31], rfl⟩, by rw [ht]; exact hP, hD, hS.F ht⟩) hS.2.2 dX6_move_72))
      · exact th_go (cls := "java/lang/IndexOutOfBoundsException") (names := thF) (text := "no such move or side") (ik := 102) (is := 104) (ic := 106) hx hb hlt hown hnx hTw hZ hP (by decide +kernel) (by decide +kernel) (th_l _ (by decide +kernel)) (th_l _ (by decide +kernel)) th_5 (by decide +kernel) (by rw [hml]; exact hl.1) dX6_move_20 dX6_move_23 dX6_move_24 dX6_move_26 dX6_move_29 (Nat.le_of_ble_eq_true rfl) (Nat.le_of_ble_eq_true rfl) (Nat.le_of_ble_eq_true rfl) (Nat.le_of_ble_eq_true rfl) hlocks (⟨by unfold qmv; rw [if_neg (fun q => c_17 q.2.2)], rfl⟩) (Nat.le_refl _) (Nat.le_refl _)
