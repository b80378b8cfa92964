def solR (n t : Nat) (A : Nat → List Nat) (RK GP : Nat → Nat) (i j : Int32) (gv : Nat → Int64) (F T M ST : Nat → Nat) (ln mn : Int32) (F1 T1 M1 ST1 : Nat → Nat) (ln1 mn1 : Int32) : Prop :=
  (qsv i j ≠ 0 ∧ F1 = F ∧ T1 = T ∧ M1 = M ∧ ST1 = ST ∧ ln1 = ln ∧ mn1 = mn) ∨ (qsv i j = 0 ∧ ∃ m0 mo, m0 < 3 ∧ mo ≤ 30 ∧ i = nI m0 ∧ j = nI mo ∧ ((gv 0 = (-2 : Int32).toInt64 ∧ (∀ k, k ≤ 30 → way m0 n t k (stl m0 (yd A)) = none) ∧ ln1 = -1) ∨ ∃ k w M2, least m0 n t (stl m0 (yd A)) k ∧ way m0 n t k (stl m0 (yd A)) = some w ∧ wst m0 n t F1 T1 M2 0 w (stl m0 (yd A)) ∧ ((mo < k ∧ gv 0 = (-1 : Int32).toInt64 ∧ ln1 = -1) ∨ (k ≤ mo ∧ gv 0 = (nI k).toInt64 ∧ ln1 = nI k ∧ mn1 = nI m0 ∧ M1 = kpm (lrn (cel t A) RK GP).2.2 M2 k ∧ ST1 = cpy ST (cel t A) 16))))
theorem cpy_lt {f g : Nat → Nat} {b : Nat} (h1 : ∀ j, f j < b) (h2 : ∀ j, g j < b) (k j : Nat) : cpy f g k j < b := by
  rw [cpy_at]
  split
  · exact h2 j
  · exact h1 j
theorem solve_p {n t : Nat} {A : Nat → List Nat} {ad : Nat → Nat} {cI cJ : ClassId} {P HT RK GP : Nat → Nat} {sm : Int32} {F T M ST : Nat → Nat} {ln mn : Int32} {E : Nat → Nat} {ao : Nat} {ov : Nat → Int64} {r9 : Option Value} {W9 : va_W} {i j : Int32} (h : ab n t A) (hn : 2 ≤ n ∧ n ≤ 4) (ht : 2 ≤ t ∧ t ≤ 4) (eP : P = cel t A) (eH : HT = hgt A) (hR0 : ∀ j, RK j < 8) (hE0 : ∀ j, E j < 2 ^ 54) (hS0 : ∀ j, ST j < 2147483648) (hp : (fun (r : Option Value) (W1 : va_W) => (∃ (rv : Int32) (Wc : va_W) (gv : Nat → Int64), (fun (r : Option Value) (W1 : va_W) => qsv i j = 0 ∧ ∃ m0 mo E1 F1 T1 M1, m0 < 3 ∧ mo ≤ 30 ∧ i = nI m0 ∧ j = nI mo ∧ hI m0 n t E1 ∧ ((r = some (.int (-2)) ∧ (∀ k, k ≤ 30 → way m0 n t k (stl m0 (yd A)) = none) ∧ W1 = (cW ad cI cJ n t P HT ((lrn P RK GP).2.1) ((lrn P RK GP).2.2) (nI m0) F1 T1 M1 ST (-1) (-1) E1)) ∨ ∃ k w, least m0 n t (stl m0 (yd A)) k ∧ way m0 n t k (stl m0 (yd A)) = some w ∧ wst m0 n t F1 T1 M1 0 w (stl m0 (yd A)) ∧ ((mo < k ∧ r = some (.int (-1)) ∧ W1 = (cW ad cI cJ n t P HT ((lrn P RK GP).2.1) ((lrn P RK GP).2.2) (nI m0) F1 T1 M1 ST (-1) (-1) E1)) ∨ (k ≤ mo ∧ r = some (.int (nI k)) ∧ W1 = (cW ad cI cJ n t P HT ((lrn P RK GP).2.1) ((lrn P RK GP).2.2) (nI m0) F1 T1 (kpm (lrn P RK GP).2.2 M1 k) (cpy ST P 16) (nI k) (nI m0) E1))))) (some (.int rv)) Wc ∧ gv 0 = rv.toInt64 ∧ r = some (.int (nI 0)) ∧ W1 = oW ao cJ gv :: Wc) ∨ (qsv i j ≠ 0 ∧ r = some (.int (nI (qsv i j))) ∧ W1 = (oW ao cJ ov :: (cW ad cI cJ n t P HT RK GP sm F T M ST ln mn E)))) r9 W9) : ∃ gv RK1 GP1 sm1 F1 T1 M1 ST1 ln1 mn1 E1, r9 = some (.int (nI (qsv i j))) ∧ W9 = oW ao cJ gv :: cW ad cI cJ n t (cel t A) (hgt A) RK1 GP1 sm1 F1 T1 M1 ST1 ln1 mn1 E1 ∧ (∀ j, RK1 j < 8) ∧ (∀ j, E1 j < 2 ^ 54) ∧ (∀ j, ST1 j < 2147483648) ∧ solR n t A RK GP i j gv F T M ST ln mn F1 T1 M1 ST1 ln1 mn1 := by
  subst eP
  subst eH
  have hRl := lrn_lt (P := cel t A) (GP := GP) hR0
  have hcl : ∀ j, cel t A j < 2147483648 := fun j => by have := cel_lt (w := t) h j; omega
  rcases hp with ⟨rv, Wc, gv, ⟨hq, m0, mo, E1, F1, T1, M1, h1, h2, h3, h4, hE1, hc⟩, hg, rfl, rfl⟩ | ⟨hq, rfl, rfl⟩
  · rcases hc with ⟨hr, hw, rfl⟩ | ⟨k, w, c1, c2, c3, ⟨c4, hr, rfl⟩ | ⟨c4, hr, rfl⟩⟩
    · cases hr
      exact ⟨gv, _, _, _, F1, T1, M1, ST, -1, -1, E1, by rw [hq], rfl, hRl, hE1.1, hS0, Or.inr ⟨hq, m0, mo, h1, h2, h3, h4, Or.inl ⟨hg, hw, rfl⟩⟩⟩
    · cases hr
      exact ⟨gv, _, _, _, F1, T1, M1, ST, -1, -1, E1, by rw [hq], rfl, hRl, hE1.1, hS0, Or.inr ⟨hq, m0, mo, h1, h2, h3, h4, Or.inr ⟨k, w, M1, c1, c2, c3, Or.inl ⟨c4, hg, rfl⟩⟩⟩⟩
    · cases hr
      exact ⟨gv, _, _, _, F1, T1, _, _, nI k, nI m0, E1, by rw [hq], rfl, hRl, hE1.1, fun j => cpy_lt hS0 hcl 16 j, Or.inr ⟨hq, m0, mo, h1, h2, h3, h4, Or.inr ⟨k, w, M1, c1, c2, c3, Or.inr ⟨c4, hg, rfl, rfl, rfl, rfl⟩⟩⟩⟩
  · exact ⟨ov, RK, GP, sm, F, T, M, ST, ln, mn, E, rfl, rfl, hR0, hE0, hS0, Or.inl ⟨hq, rfl, rfl, rfl, rfl, rfl, rfl⟩⟩
theorem least_eq {m n t : Nat} {Y : Nat → List Nat} {a b : Nat} (h1 : least m n t Y a) (h2 : least m n t Y b) : a = b := by
  rcases Nat.lt_trichotomy a b with q | q | q
  · have := h1.2.1
    rw [h2.2.2 a q] at this
    cases this
  · exact q
  · have := h2.2.1
    rw [h1.2.2 b q] at this
    cases this
/-- both searches together -/
theorem sol_m {n t : Nat} {A : Nat → List Nat} (h : ab n t A) (hn : 2 ≤ n ∧ n ≤ 4) (ht : 2 ≤ t ∧ t ≤ 4) {RK GP GO : Nat → Nat} {i j : Int32} {gv : Nat → Int64} {F T M ST : Nat → Nat} {ln mn : Int32} {F1 T1 M1 ST1 : Nat → Nat} {ln1 mn1 : Int32} {kp ma my : Nat} {F' T' M' WG : Nat → Nat} (hk : kept n t ln mn F T M ST kp ma my F' T' M' WG) (hc : solR n t A RK GP i j gv F T M ST ln mn F1 T1 M1 ST1 ln1 mn1)
    (hbd : my ≤ 30 ∧ kp < 2 ∧ ma < 3 ∧ (∀ j, F' j < 4 ∧ T' j < 4) ∧ (∀ j, WG j < 2147483648) ∧ (∀ j, GO j < 2147483648)) {V Y AT NX : Nat → Nat} (hV : ∀ j, V j < 128) (hY : ∀ j, Y j < 2 ^ 63) {th rk : Nat} {am : Nat → Nat} {cI cJ cB : ClassId} {r9 : Option Value} {W9 : va_W}
    (hm : (ksv i j = 1 ∧ r9 = some (.int (nI 0)) ∧ W9 = (mW am cI cJ cB 1 n t kp ma my rk (cel 4 A) F' T' M' WG GO Y V AT NX)) ∨ (ksv i j = 0 ∧ ∃ m0 mo, m0 < 3 ∧ mo ≤ 30 ∧ i = nI m0 ∧ j = nI mo ∧ ∃ F1 T1 M1 Y1 V1 AT1 NX1 WG1 my1 kp1 ma1, W9 = (mW am cI cJ cB 0 n t kp1 ma1 my1 ((nwr (cel 4 A) GO 20).1) (cel 4 A) F1 T1 M1 WG1 ((nwr (cel 4 A) GO 20).2) Y1 V1 AT1 NX1) ∧ (∀ j, F1 j < 4 ∧ T1 j < 4) ∧ (∀ j, V1 j < 128) ∧ (∀ j, Y1 j < 2 ^ 63) ∧ my1 ≤ 30 ∧ kp1 < 2 ∧ ma1 < 3 ∧ (WG1 = WG ∨ WG1 = cpy WG (cel 4 A) 16) ∧ sres m0 mo n t (nwr (cel 4 A) GO 20).2 F1 T1 M1 (stl m0 (yd A)) r9 kp1 my1 ma1 WG1 (cel 4 A) WG)) :
    ∃ (rb : Int32) (kp1 ma1 my1 rk1 : Nat) (F2 T2 M2 WG2 GO2 Y2 V2 AT2 NX2 : Nat → Nat), r9 = some (.int rb) ∧ W9 = mW am cI cJ cB (qsv i j) n t kp1 ma1 my1 rk1 (cel 4 A) F2 T2 M2 WG2 GO2 Y2 V2 AT2 NX2 ∧ (my1 ≤ 30 ∧ kp1 < 2 ∧ ma1 < 3 ∧ (∀ j, F2 j < 4 ∧ T2 j < 4) ∧ (∀ j, WG2 j < 2147483648) ∧ (∀ j, GO2 j < 2147483648)) ∧ (∀ j, V2 j < 128) ∧ (∀ j, Y2 j < 2 ^ 63) ∧ kept n t ln1 mn1 F1 T1 M1 ST1 kp1 ma1 my1 F2 T2 M2 WG2 ∧ (qsv i j = 0 → gv 0 = rb.toInt64) := by
  have e : ksv i j = qsv i j := rfl
  have hcl : ∀ j, cel 4 A j < 2147483648 := fun j => by have := cel_lt (w := 4) h j; omega
  rw [e] at hm
  rcases hm with ⟨a1, rfl, rfl⟩ | ⟨a1, m0, mo, b1, b2, b3, b4, F2, T2, M2, Y1, V1, AT1, NX1, WG1, my1, kp1, ma1, rfl, d1, d2, d3, d4, d5, d6, d7, hs⟩
  · rcases hc with ⟨c0, rfl, rfl, rfl, rfl, rfl, rfl⟩ | ⟨c0, -⟩
    · refine ⟨nI 0, kp, ma, my, rk, F', T', M', WG, GO, Y, V, AT, NX, rfl, by rw [a1], hbd, hV, hY, hk, fun z => absurd z c0⟩
    · omega
  · rcases hc with ⟨c0, -⟩ | ⟨c0, m1, mo1, x1, x2, x3, x4, hc⟩
    · exact absurd a1 c0
    · obtain rfl : m1 = m0 := nI_inj (by omega) (by omega) (x3.symm.trans b3)
      obtain rfl : mo1 = mo := nI_inj (by omega) (by omega) (x4.symm.trans b4)
      have hWG : ∀ j, WG1 j < 2147483648 := by
        rcases d7 with rfl | rfl
        · exact hbd.2.2.2.2.1
        · exact fun j => cpy_lt hbd.2.2.2.2.1 hcl 16 j
      have hGO := fun j => nwr_lt (cel 4 A) GO hbd.2.2.2.2.2 20 (Nat.le_refl 20) j
      have fin : ∀ rb : Int32, r9 = some (.int rb) → kept n t ln1 mn1 F1 T1 M1 ST1 kp1 ma1 my1 F2 T2 M2 WG1 → gv 0 = rb.toInt64 → _ := fun rb h1 h2 h3 => (⟨rb, kp1, ma1, my1, _, F2, T2, M2, WG1, _, Y1, V1, AT1, NX1, h1, by rw [a1], ⟨d4, d5, d6, d1, hWG, hGO⟩, d2, d3, h2, fun _ => h3⟩ : ∃ (rb : Int32) (kp1' ma1' my1' rk1 : Nat) (F2' T2' M2' WG2 GO2 Y2 V2 AT2 NX2 : Nat → Nat), r9 = some (.int rb) ∧ mW am cI cJ cB 0 n t kp1 ma1 my1 ((nwr (cel 4 A) GO 20).1) (cel 4 A) F2 T2 M2 WG1 ((nwr (cel 4 A) GO 20).2) Y1 V1 AT1 NX1 = mW am cI cJ cB (qsv i j) n t kp1' ma1' my1' rk1 (cel 4 A) F2' T2' M2' WG2 GO2 Y2 V2 AT2 NX2 ∧ (my1' ≤ 30 ∧ kp1' < 2 ∧ ma1' < 3 ∧ (∀ j, F2' j < 4 ∧ T2' j < 4) ∧ (∀ j, WG2 j < 2147483648) ∧ (∀ j, GO2 j < 2147483648)) ∧ (∀ j, V2 j < 128) ∧ (∀ j, Y2 j < 2 ^ 63) ∧ kept n t ln1 mn1 F1 T1 M1 ST1 kp1' ma1' my1' F2' T2' M2' WG2 ∧ (qsv i j = 0 → gv 0 = rb.toInt64))
      unfold sres at hs
      rcases hs with ⟨r1, r2, r3⟩ | ⟨k, k1, k2⟩
      · rcases hc with ⟨g1, g2, g3⟩ | ⟨k', w, M3, y1, -⟩
        · exact fin _ r1 (Or.inl ⟨r2, g3⟩) g1
        · have := y1.2.1
          rw [r3 k' y1.1] at this
          cases this
      · rcases hc with ⟨g1, g2, g3⟩ | ⟨k', w, M3, y1, y2, y3, y4⟩
        · have := k1.2.1
          rw [g2 k k1.1] at this
          cases this
        · obtain rfl := least_eq k1 y1
          rcases k2 with ⟨z1, z2, z3⟩ | ⟨z1, z2, z3, z4, z5, z6, w', z7, z8⟩
          · rcases y4 with ⟨u1, u2, u3⟩ | ⟨u1, -⟩
            · exact fin _ z2 (Or.inl ⟨z3, u3⟩) u2
            · omega
          · rcases y4 with ⟨u1, -⟩ | ⟨u1, u2, rfl, rfl, rfl, rfl⟩
            · omega
            · obtain rfl : w = w' := Option.some.inj (y2.symm.trans z7)
              refine fin _ z2 ?_ u2
              rw [z3, z4, z5, z6]
              exact kept_new (w' := w) h hn ht y2 (way_exact y2 k1.2.2) y3 z8
theorem fol_leg {n t : Nat} {A : Nat → List Nat} (h : ab n t A) (hn : 2 ≤ n ∧ n ≤ 4) (ht : 2 ≤ t ∧ t ≤ 4) {ln mn : Int32} {F T M ST : Nat → Nat} {kp ma my : Nat} {F' T' M' WG : Nat → Nat} (hk : kept n t ln mn F T M ST kp ma my F' T' M' WG) (hm : my ≤ 30) (GO : Nat → Nat) (hsm : kp ≠ 0 ∧ anb (fun j => decide (cel 4 A j ≠ WG j)) 16 = false) : ∃ w, w.length = my ∧ wpath ma n t w (stl ma (yd A)) ∧ (∀ i, i < w.length → F' i = w.getD i 0 / 4 ∧ T' i = w.getD i 0 % 4) ∧ ∀ i, i ≤ my → mfp ma n t F' T' (if ma = 2 then nwy (cel 4 A) (nwr (cel 4 A) GO 20).2 (nwr (cel 4 A) GO 20).1 16 else mleft n t (nwy (cel 4 A) (nwr (cel 4 A) GO 20).2 (nwr (cel 4 A) GO 20).1 16)) i = mE (wend ma n t (w.take i) (stl ma (yd A))) := by
  obtain ⟨w, w1, w2, w3, w4⟩ := (fol_same h hn ht hk hm).2 ((fol_same h hn ht hk hm).1.mpr hsm)
  refine ⟨w, w1, w2, w4, fun i hi => ?_⟩
  rw [nwy_mE h hn.2 ht.2]
  exact mfp_path hn.2 ht.2 h w2 w4 i (by omega)
theorem fol_1 {n t : Nat} {A : Nat → List Nat} (h : ab n t A) (hn : 2 ≤ n ∧ n ≤ 4) (ht : 2 ≤ t ∧ t ≤ 4) {ln mn : Int32} {F T M ST : Nat → Nat} {kp ma my : Nat} {F' T' M' WG : Nat → Nat} (hk : kept n t ln mn F T M ST kp ma my F' T' M' WG) (hm : my ≤ 30) (GO : Nat → Nat) (hsm : kp ≠ 0 ∧ anb (fun j => decide (cel 4 A j ≠ WG j)) 16 = false) (i : Nat) (hi : i < my) : F' i < 4 ∧ T' i < 4 ∧ mht (mfp ma n t F' T' (if ma = 2 then nwy (cel 4 A) (nwr (cel 4 A) GO 20).2 (nwr (cel 4 A) GO 20).1 16 else mleft n t (nwy (cel 4 A) (nwr (cel 4 A) GO 20).2 (nwr (cel 4 A) GO 20).1 16)) i) (F' i) t ≠ 0 ∧ mht (mfp ma n t F' T' (if ma = 2 then nwy (cel 4 A) (nwr (cel 4 A) GO 20).2 (nwr (cel 4 A) GO 20).1 16 else mleft n t (nwy (cel 4 A) (nwr (cel 4 A) GO 20).2 (nwr (cel 4 A) GO 20).1 16)) i) (T' i) t < t := by
  obtain ⟨w, w1, w2, w4, w5⟩ := fol_leg h hn ht hk hm GO hsm
  have hy := yd_ok h hn.2
  have hs := stl_ok (man := ma) hy.1 hy.2
  obtain ⟨⟨o1, -, -⟩, o3⟩ := wpath_ok hn.2 (A := A) w _ hs.1 hs.2.1 (zin_stl ma (zin_yd h hn.2)) w2 i (by omega)
  obtain ⟨o4, o5⟩ := o3 (by omega)
  obtain ⟨m1, m2, m3, m4, m5⟩ := may_len o1 o5
  rw [w5 i (by omega), (w4 i (by omega)).1, (w4 i (by omega)).2, mht_mE o1 ht.2 (by omega), mht_mE o1 ht.2 (by omega)]
  exact ⟨by omega, by omega, fun z => m4 (List.eq_nil_of_length_eq_zero z), m5⟩
theorem fol_2 {n t : Nat} {A : Nat → List Nat} (h : ab n t A) (hn : 2 ≤ n ∧ n ≤ 4) (ht : 2 ≤ t ∧ t ≤ 4) {ln mn : Int32} {F T M ST : Nat → Nat} {kp ma my : Nat} {F' T' M' WG : Nat → Nat} (hk : kept n t ln mn F T M ST kp ma my F' T' M' WG) (hm : my ≤ 30) (GO : Nat → Nat) (hsm : kp ≠ 0 ∧ anb (fun j => decide (cel 4 A j ≠ WG j)) 16 = false) : ∃ w, w.length = my ∧ gfo (cel 4 A) (nwr (cel 4 A) GO 20).2 (mfp ma n t F' T' (if ma = 2 then nwy (cel 4 A) (nwr (cel 4 A) GO 20).2 (nwr (cel 4 A) GO 20).1 16 else mleft n t (nwy (cel 4 A) (nwr (cel 4 A) GO 20).2 (nwr (cel 4 A) GO 20).1 16)) my) 16 = cel 4 (gs (nwr (cel 4 A) GO 20).2 (wend ma n t w (stl ma (yd A)))) ∧ ab n t (gs (nwr (cel 4 A) GO 20).2 (wend ma n t w (stl ma (yd A)))) ∧ bxY (gs (nwr (cel 4 A) GO 20).2 (wend ma n t w (stl ma (yd A)))) ≤ bxY A ∧ ∀ i, i < w.length → F' i = w.getD i 0 / 4 ∧ T' i = w.getD i 0 % 4 := by
  obtain ⟨w, w1, w2, w4, w5⟩ := fol_leg h hn ht hk hm GO hsm
  have hy := yd_ok h hn.2
  have hs := stl_ok (man := ma) hy.1 hy.2
  obtain ⟨⟨o1, o2, o3⟩, -⟩ := wpath_ok hn.2 (A := A) w _ hs.1 hs.2.1 (zin_stl ma (zin_yd h hn.2)) w2 w.length (Nat.le_refl _)
  have hc := w5 my (Nat.le_refl _)
  rw [← w1, List.take_length] at hc
  rw [List.take_length] at o1 o2 o3
  have hbx : bxY (gs (nwr (cel 4 A) GO 20).2 (wend ma n t w (stl ma (yd A)))) ≤ bxY A := by
    rw [bx_gs]
    have x1 := wend_bx hn.2 w _ hs.1 w2
    have x2 : bxY (stl ma (yd A)) ≤ bxY (yd A) := by
      unfold stl
      split
      · exact Nat.le_refl _
      · exact lv_bx _
    have x3 : bxY (yd A) = bxY A := by
      unfold bxY yd
      simp only [List.length_map]
    omega
  refine ⟨w, w1, ?_, gs_ab h o1 o2 o3 (nwr_num h hn.2 ht.2 GO), hbx, w4⟩
  rw [← w1, hc, gfo_gs h hn.2 ht.2 o1]
theorem fol_m {n t : Nat} {A A1 : Nat → List Nat} (h : ab n t A) (hn : 2 ≤ n ∧ n ≤ 4) (ht : 2 ≤ t ∧ t ≤ 4) {ma my : Nat} {F' T' : Nat → Nat} (GO : Nat → Nat) {w : List Nat} (w1 : w.length = my) (w2 : wpath ma n t w (stl ma (yd A))) (w4 : ∀ i, i < w.length → F' i = w.getD i 0 / 4 ∧ T' i = w.getD i 0 % 4) (w5 : ∀ GO, num (al A) GO → A1 = gs GO (wend ma n t w (stl ma (yd A)))) : gfo (cel 4 A) (nwr (cel 4 A) GO 20).2 (mfp ma n t F' T' (if ma = 2 then nwy (cel 4 A) (nwr (cel 4 A) GO 20).2 (nwr (cel 4 A) GO 20).1 16 else mleft n t (nwy (cel 4 A) (nwr (cel 4 A) GO 20).2 (nwr (cel 4 A) GO 20).1 16)) my) 16 = cel 4 A1 := by
  have hy := yd_ok h hn.2
  have hs := stl_ok (man := ma) hy.1 hy.2
  obtain ⟨⟨o1, o2, o3⟩, -⟩ := wpath_ok hn.2 (A := A) w _ hs.1 hs.2.1 (zin_stl ma (zin_yd h hn.2)) w2 w.length (Nat.le_refl _)
  have hc := mfp_path hn.2 ht.2 h w2 w4 w.length (Nat.le_refl _)
  rw [List.take_length] at o1 hc
  rw [nwy_mE h hn.2 ht.2, ← w1, hc, gfo_gs h hn.2 ht.2 o1, ← w5 _ (nwr_num h hn.2 ht.2 GO)]
