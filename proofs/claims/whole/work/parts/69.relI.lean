/-! what the law's methods leave, in the words of the abstract state -/
theorem nI_inj {a b : Nat} (ha : a < 2147483648) (hb : b < 2147483648) (h : nI a = nI b) : a = b := by
  have := congrArg Int32.toNatClampNeg h
  rwa [nI_clamp ha, nI_clamp hb] at this
theorem nI_z {k : Nat} (hk : k < 1000) (h : nI k = 0) : k = 0 := nI_inj (by omega) (by decide) h
theorem qput_le {n t : Nat} {HT : Nat → Nat} {i g : Int32} : qput n t HT i g < 1000 := by
  unfold qput
  split
  · decide
  · split
    · decide
    · split <;> decide
theorem qoff_le {n : Nat} {HT : Nat → Nat} {i : Int32} : qoff n HT i < 1000 := by
  unfold qoff
  split
  · decide
  · split <;> decide
theorem qsv_le {i j : Int32} : qsv i j < 1000 := by
  unfold qsv
  split <;> decide
theorem qmv_le {ln i j : Int32} : qmv ln i j < 1000 := by
  unfold qmv
  split <;> decide
theorem qfl_le {ln : Int32} {ST P : Nat → Nat} : qfl ln ST P < 1000 := by
  unfold qfl
  split <;> decide
theorem ktr_le {n : Nat} {i j : Int32} : ktr n i j < 1000 := by
  unfold ktr
  split <;> decide
theorem kat_le' {n t : Nat} {i j : Int32} : kat n t i j < 1000 := by
  unfold kat
  split <;> decide
theorem put_p {n t : Nat} {A : Nat → List Nat} {ad : Nat → Nat} {cI cJ : ClassId} {P HT RK GP : Nat → Nat} {sm : Int32} {F T M ST : Nat → Nat} {ln mn : Int32} {E : Nat → Nat} {ao : Nat} {ov : Nat → Int64} {r9 : Option Value} {W9 : va_W} {i g : Int32} (h : ab n t A) (hn : 2 ≤ n ∧ n ≤ 4) (ht : 2 ≤ t ∧ t ≤ 4) (eP : P = cel t A) (eH : HT = hgt A) (hp : (fun (r : Option Value) (W1 : va_W) => (∃ (rv : Int32) (Wc : va_W) (gv : Nat → Int64), (fun (r : Option Value) (W1 : va_W) => qput n t HT i g = 0 ∧ r = some (.int (nI (HT i.toNatClampNeg + 1))) ∧ W1 = (cW ad cI cJ n t (upN P (i.toNatClampNeg * t + HT i.toNatClampNeg) g.toNatClampNeg) (upN HT i.toNatClampNeg (HT i.toNatClampNeg + 1)) RK GP sm F T M ST ln mn E)) (some (.int rv)) Wc ∧ gv 0 = rv.toInt64 ∧ r = some (.int (nI 0)) ∧ W1 = oW ao cJ gv :: Wc) ∨ (qput n t HT i g ≠ 0 ∧ r = some (.int (nI (qput n t HT i g))) ∧ W1 = (oW ao cJ ov :: (cW ad cI cJ n t P HT RK GP sm F T M ST ln mn E)))) r9 W9) : ∃ A1 gv, ab n t A1 ∧ r9 = some (.int (nI (qput n t (hgt A) i g))) ∧ W9 = oW ao cJ gv :: cW ad cI cJ n t (cel t A1) (hgt A1) RK GP sm F T M ST ln mn E ∧ (if kput n t (cel 4 A) i g = 0 then gput t (cel 4 A) i g else cel 4 A) = cel 4 A1 ∧ kput n t (cel 4 A) i g = qput n t (hgt A) i g ∧ (qput n t (hgt A) i g = 0 → gv 0 = (nI (if kput n t (cel 4 A) i g = 0 then vput t (cel 4 A) i else 0)).toInt64) := by
  subst eP
  subst eH
  have hk := put_k h hn ht.2 i g
  rcases hp with ⟨rv, Wc, gv, ⟨hq, hr, hW⟩, hg, rfl, rfl⟩ | ⟨hq, rfl, rfl⟩
  · obtain ⟨s, g0, a1, a2, a3, a4, a5⟩ := put_s h hn ht hq
    refine ⟨pu A s g0, gv, a1, by rw [hq], by rw [hW, a3, a4], by rw [if_pos (hk.trans hq), a2], hk, fun _ => ?_⟩
    cases hr
    rw [hg, if_pos (hk.trans hq), a5]
  · exact ⟨A, ov, h, rfl, rfl, by rw [if_neg (fun z => hq (hk.symm.trans z))], hk, fun z => absurd z hq⟩
theorem off_p {n t : Nat} {A : Nat → List Nat} {ad : Nat → Nat} {cI cJ : ClassId} {P HT RK GP : Nat → Nat} {sm : Int32} {F T M ST : Nat → Nat} {ln mn : Int32} {E : Nat → Nat} {ao : Nat} {ov : Nat → Int64} {r9 : Option Value} {W9 : va_W} {i : Int32} (h : ab n t A) (hn : 2 ≤ n ∧ n ≤ 4) (ht : 2 ≤ t ∧ t ≤ 4) (eP : P = cel t A) (eH : HT = hgt A) (hp : (fun (r : Option Value) (W1 : va_W) => (∃ (rv : Int32) (Wc : va_W) (gv : Nat → Int64), (fun (r : Option Value) (W1 : va_W) => qoff n HT i = 0 ∧ r = some (.int (nI (P (i.toNatClampNeg * t + (HT i.toNatClampNeg - 1))))) ∧ W1 = (cW ad cI cJ n t (upN P (i.toNatClampNeg * t + (HT i.toNatClampNeg - 1)) 0) (upN HT i.toNatClampNeg (HT i.toNatClampNeg - 1)) RK GP sm F T M ST ln mn E)) (some (.int rv)) Wc ∧ gv 0 = rv.toInt64 ∧ r = some (.int (nI 0)) ∧ W1 = oW ao cJ gv :: Wc) ∨ (qoff n HT i ≠ 0 ∧ r = some (.int (nI (qoff n HT i))) ∧ W1 = (oW ao cJ ov :: (cW ad cI cJ n t P HT RK GP sm F T M ST ln mn E)))) r9 W9) : ∃ A1 gv, ab n t A1 ∧ r9 = some (.int (nI (qoff n (hgt A) i))) ∧ W9 = oW ao cJ gv :: cW ad cI cJ n t (cel t A1) (hgt A1) RK GP sm F T M ST ln mn E ∧ (if koff n t (cel 4 A) i = 0 then goff t (cel 4 A) i else cel 4 A) = cel 4 A1 ∧ koff n t (cel 4 A) i = qoff n (hgt A) i ∧ (qoff n (hgt A) i = 0 → gv 0 = (nI (if koff n t (cel 4 A) i = 0 then voff t (cel 4 A) i else 0)).toInt64) := by
  subst eP
  subst eH
  have hk := off_k (n := n) h ht.2 i
  rcases hp with ⟨rv, Wc, gv, ⟨hq, hr, hW⟩, hg, rfl, rfl⟩ | ⟨hq, rfl, rfl⟩
  · obtain ⟨s, a1, a2, a3, a4, a5⟩ := off_s h hn ht hq
    refine ⟨rm A s, gv, a1, by rw [hq], by rw [hW, a3, a4], by rw [if_pos (hk.trans hq), a2], hk, fun _ => ?_⟩
    cases hr
    rw [hg, if_pos (hk.trans hq), a5]
  · exact ⟨A, ov, h, rfl, rfl, by rw [if_neg (fun z => hq (hk.symm.trans z))], hk, fun z => absurd z hq⟩
theorem travel_p {n t : Nat} {A : Nat → List Nat} {ad : Nat → Nat} {cI cJ : ClassId} {P HT RK GP : Nat → Nat} {sm : Int32} {F T M ST : Nat → Nat} {ln mn : Int32} {E : Nat → Nat} {ao : Nat} {ov : Nat → Int64} {r9 : Option Value} {W9 : va_W} {i j : Int32} (h : ab n t A) (hn : 2 ≤ n ∧ n ≤ 4) (ht : 2 ≤ t ∧ t ≤ 4) (eP : P = cel t A) (eH : HT = hgt A) (hp : (fun (r : Option Value) (W1 : va_W) => (∃ (rv : Int32) (Wc : va_W) (gv : Nat → Int64), (fun (r : Option Value) (W1 : va_W) => ktr n i j = 0 ∧ r = some (.int (nI (vtr i.toNatClampNeg j.toNatClampNeg))) ∧ W1 = (cW ad cI cJ n t P HT RK GP sm F T M ST ln mn E)) (some (.int rv)) Wc ∧ gv 0 = rv.toInt64 ∧ r = some (.int (nI 0)) ∧ W1 = oW ao cJ gv :: Wc) ∨ (ktr n i j ≠ 0 ∧ r = some (.int (nI (ktr n i j))) ∧ W1 = (oW ao cJ ov :: (cW ad cI cJ n t P HT RK GP sm F T M ST ln mn E)))) r9 W9) : ∃ gv, r9 = some (.int (nI (ktr n i j))) ∧ W9 = oW ao cJ gv :: cW ad cI cJ n t (cel t A) (hgt A) RK GP sm F T M ST ln mn E ∧ (ktr n i j = 0 → gv 0 = (nI (if ktr n i j = 0 then vtr i.toNatClampNeg j.toNatClampNeg else 0)).toInt64) := by
  subst eP
  subst eH
  rcases hp with ⟨rv, Wc, gv, ⟨hq, hr, hW⟩, hg, rfl, rfl⟩ | ⟨hq, rfl, rfl⟩
  · refine ⟨gv, by rw [hq], by rw [hW], fun _ => ?_⟩
    cases hr
    rw [hg, if_pos hq]
  · exact ⟨ov, rfl, rfl, fun z => absurd z hq⟩
theorem at_p {n t : Nat} {A : Nat → List Nat} {ad : Nat → Nat} {cI cJ : ClassId} {P HT RK GP : Nat → Nat} {sm : Int32} {F T M ST : Nat → Nat} {ln mn : Int32} {E : Nat → Nat} {ao : Nat} {ov : Nat → Int64} {r9 : Option Value} {W9 : va_W} {i j : Int32} (h : ab n t A) (hn : 2 ≤ n ∧ n ≤ 4) (ht : 2 ≤ t ∧ t ≤ 4) (eP : P = cel t A) (eH : HT = hgt A) (hp : (fun (r : Option Value) (W1 : va_W) => (∃ (rv : Int32) (Wc : va_W) (gv : Nat → Int64), (fun (r : Option Value) (W1 : va_W) => kat n t i j = 0 ∧ r = some (.int (nI (P (i.toNatClampNeg * t + j.toNatClampNeg)))) ∧ W1 = (cW ad cI cJ n t P HT RK GP sm F T M ST ln mn E)) (some (.int rv)) Wc ∧ gv 0 = rv.toInt64 ∧ r = some (.int (nI 0)) ∧ W1 = oW ao cJ gv :: Wc) ∨ (kat n t i j ≠ 0 ∧ r = some (.int (nI (kat n t i j))) ∧ W1 = (oW ao cJ ov :: (cW ad cI cJ n t P HT RK GP sm F T M ST ln mn E)))) r9 W9) : ∃ gv, r9 = some (.int (nI (kat n t i j))) ∧ W9 = oW ao cJ gv :: cW ad cI cJ n t (cel t A) (hgt A) RK GP sm F T M ST ln mn E ∧ (kat n t i j = 0 → gv 0 = (nI (if kat n t i j = 0 then cel 4 A (4 * i.toNatClampNeg + j.toNatClampNeg) else 0)).toInt64) := by
  subst eP
  subst eH
  rcases hp with ⟨rv, Wc, gv, ⟨hq, hr, hW⟩, hg, rfl, rfl⟩ | ⟨hq, rfl, rfl⟩
  · refine ⟨gv, by rw [hq], by rw [hW], fun _ => ?_⟩
    cases hr
    rw [hg, if_pos hq, at_v h ht hn.2 hq]
  · exact ⟨ov, rfl, rfl, fun z => absurd z hq⟩
theorem mov_k {n t : Nat} {ln mn : Int32} {F T M ST : Nat → Nat} {kp ma my : Nat} {F' T' M' WG : Nat → Nat} (hk : kept n t ln mn F T M ST kp ma my F' T' M' WG) (hm : my ≤ 30) (i j : Int32) : kmv kp my i j = qmv ln i j ∧ (qmv ln i j = 0 → vmv F' T' M' i.toNatClampNeg j.toNatClampNeg = vmv F T M i.toNatClampNeg j.toNatClampNeg) := by
  have hj : (¬ j < 0 ∧ j < nI 3) ↔ (¬ j < 0 ∧ j ≤ nI 2) := by
    refine and_congr_right (fun _ => ⟨fun z => ?_, fun z => i_le (by decide) z⟩)
    rw [Int32.le_iff_toInt_le, nI_toInt (by decide)]
    rw [Int32.lt_iff_toInt_lt, nI_toInt (by decide)] at z
    omega
  unfold kmv qmv
  rcases hk with ⟨h1, h2⟩ | ⟨h1, A0, w, a1, a2, a3, a4, a5, a6, a7, a8⟩
  · have e : ¬ ((¬ i < 0 ∧ i < ln ∧ i < nI 30) ∧ ¬ j < 0 ∧ j ≤ nI 2) := by
      rintro ⟨⟨z1, z2, -⟩, -⟩
      rw [h2, Int32.lt_iff_toInt_lt] at z2
      rw [Int32.lt_iff_toInt_lt] at z1
      have e1 : (-1 : Int32).toInt = -1 := by decide
      have e0 : (0 : Int32).toInt = 0 := by decide
      rw [e1] at z2
      rw [e0] at z1
      omega
    rw [if_neg (fun z => z.1 h1), if_neg e]
    exact ⟨rfl, fun z => absurd z (by decide)⟩
  · have hi : (¬ i < 0 ∧ i < ln ∧ i < nI 30) ↔ (¬ i < 0 ∧ i < nI my) := by
      rw [a4]
      refine ⟨fun z => ⟨z.1, z.2.1⟩, fun z => ⟨z.1, z.2, ?_⟩⟩
      have := z.2
      rw [Int32.lt_iff_toInt_lt, nI_toInt (by omega)] at this ⊢
      omega
    by_cases c : (¬ i < 0 ∧ i < nI my) ∧ (¬ j < 0 ∧ j < nI 3)
    · rw [if_pos ⟨by omega, c⟩, if_pos ⟨hi.mpr c.1, hj.mp c.2⟩]
      refine ⟨rfl, fun _ => ?_⟩
      obtain ⟨x, hx, rfl⟩ := stk_nat (by omega) c.1
      obtain ⟨-, -, b1, b2, b3, -⟩ := a8 x hx
      rw [tn (by omega)]
      unfold vmv
      rw [b1, b2, b3]
    · rw [if_neg (fun z => c z.2), if_neg (fun z => c ⟨hi.mp z.1, hj.mpr z.2⟩)]
      exact ⟨rfl, fun z => absurd z (by decide)⟩
theorem trs_congr {F T F' T' : Nat → Nat} : ∀ k, (∀ j, j < k → F' j = F j ∧ T' j = T j) → trs F' T' k = trs F T k
  | 0, _ => rfl
  | k + 1, h => by
    have ih := trs_congr k (fun j hj => h j (by omega))
    obtain ⟨a, b⟩ := h k (by omega)
    show trs F' T' k + vtr (F' k) (T' k) = trs F T k + vtr (F k) (T k)
    rw [ih, a, b]
theorem cnt_k {n t : Nat} {A : Nat → List Nat} (h : ab n t A) (hn : 2 ≤ n ∧ n ≤ 4) (ht : t ≤ 4) {ln mn : Int32} {F T M ST : Nat → Nat} {kp ma my : Nat} {F' T' M' WG : Nat → Nat} (hk : kept n t ln mn F T M ST kp ma my F' T' M' WG) (hm : my ≤ 30) (w : Int32) : qct n t ln mn (hsum (hgt A) n) (trs F T ln.toNatClampNeg) w = vct n t kp ma my (bxs (cel 4 A) 16) (trs F' T' my) w := by
  rw [hsum_ab h hn, bxs_cel h ht]
  unfold qct vct
  rcases hk with ⟨h1, h2⟩ | ⟨h1, A0, w0, a1, a2, a3, a4, a5, a6, a7, a8⟩
  · rw [h2, if_pos h1, if_pos h1, if_pos h1, if_pos rfl, if_pos rfl]
  · have hz : kp ≠ 0 := by omega
    have hl : ln ≠ -1 := by
      rw [a4]
      intro z
      have h0 := nI_pos (n := my) (by omega)
      rw [z] at h0
      exact h0 (by decide)
    rw [if_neg hz, if_neg hz, if_neg hz, if_neg hl, if_neg hl, a4, a5, tn (by omega), trs_congr (F := F) (T := T) my (fun j hj => ⟨(a8 j hj).2.2.1, (a8 j hj).2.2.2.1⟩)]
theorem move_p {n t : Nat} {A : Nat → List Nat} {ad : Nat → Nat} {cI cJ : ClassId} {P HT RK GP : Nat → Nat} {sm : Int32} {F T M ST : Nat → Nat} {ln mn : Int32} {E : Nat → Nat} {ao : Nat} {ov : Nat → Int64} {r9 : Option Value} {W9 : va_W} {i j : Int32} {kp ma my : Nat} {F' T' M' WG : Nat → Nat} (h : ab n t A) (hn : 2 ≤ n ∧ n ≤ 4) (ht : 2 ≤ t ∧ t ≤ 4) (eP : P = cel t A) (eH : HT = hgt A) (hk : kept n t ln mn F T M ST kp ma my F' T' M' WG) (hm : my ≤ 30) (hp : (fun (r : Option Value) (W1 : va_W) => (∃ (rv : Int32) (Wc : va_W) (gv : Nat → Int64), (fun (r : Option Value) (W1 : va_W) => qmv ln i j = 0 ∧ r = some (.int (nI (vmv F T M i.toNatClampNeg j.toNatClampNeg))) ∧ W1 = (cW ad cI cJ n t P HT RK GP sm F T M ST ln mn E)) (some (.int rv)) Wc ∧ gv 0 = rv.toInt64 ∧ r = some (.int (nI 0)) ∧ W1 = oW ao cJ gv :: Wc) ∨ (qmv ln i j ≠ 0 ∧ r = some (.int (nI (qmv ln i j))) ∧ W1 = (oW ao cJ ov :: (cW ad cI cJ n t P HT RK GP sm F T M ST ln mn E)))) r9 W9) : ∃ gv, r9 = some (.int (nI (qmv ln i j))) ∧ W9 = oW ao cJ gv :: cW ad cI cJ n t (cel t A) (hgt A) RK GP sm F T M ST ln mn E ∧ kmv kp my i j = qmv ln i j ∧ (qmv ln i j = 0 → gv 0 = (nI (if kmv kp my i j = 0 then vmv F' T' M' i.toNatClampNeg j.toNatClampNeg else 0)).toInt64) := by
  subst eP
  subst eH
  obtain ⟨k1, k2⟩ := mov_k hk hm i j
  rcases hp with ⟨rv, Wc, gv, ⟨hq, hr, hW⟩, hg, rfl, rfl⟩ | ⟨hq, rfl, rfl⟩
  · refine ⟨gv, by rw [hq], by rw [hW], k1, fun _ => ?_⟩
    cases hr
    rw [hg, if_pos (k1.trans hq), k2 hq]
  · exact ⟨ov, rfl, rfl, k1, fun z => absurd z hq⟩
theorem follow_p {n t : Nat} {A : Nat → List Nat} {ad : Nat → Nat} {cI cJ : ClassId} {P HT RK GP : Nat → Nat} {sm : Int32} {F T M ST : Nat → Nat} {ln mn : Int32} {E : Nat → Nat} {ao : Nat} {ov : Nat → Int64} {r9 : Option Value} {W9 : va_W} {kp ma my : Nat} {F' T' M' WG : Nat → Nat} (h : ab n t A) (hn : 2 ≤ n ∧ n ≤ 4) (ht : 2 ≤ t ∧ t ≤ 4) (eP : P = cel t A) (eH : HT = hgt A) (hk : kept n t ln mn F T M ST kp ma my F' T' M' WG) (hm : my ≤ 30) (hma : ma < 3) (hR0 : ∀ j, RK j < 8) (hp : (fun (r : Option Value) (W1 : va_W) => (∃ (rv : Int32) (Wc : va_W) (gv : Nat → Int64), (fun (r : Option Value) (W1 : va_W) => qfl ln ST P = 0 ∧ ∃ L0 m0, L0 ≤ 30 ∧ m0 < 3 ∧ ln = nI L0 ∧ mn = nI m0 ∧ r = some (.int (nI (hsum HT n) - nI (hsum (ups (cfo m0 F T (pks P (lrn P RK GP).2.1 HT t n) L0) t (lrn P RK GP).2.2 P HT n).2 n))) ∧ W1 = (cW ad cI cJ n t ((ups (cfo m0 F T (pks P (lrn P RK GP).2.1 HT t n) L0) t (lrn P RK GP).2.2 P HT n).1) ((ups (cfo m0 F T (pks P (lrn P RK GP).2.1 HT t n) L0) t (lrn P RK GP).2.2 P HT n).2) ((lrn P RK GP).2.1) ((lrn P RK GP).2.2) sm F T M ST ln mn E)) (some (.int rv)) Wc ∧ gv 0 = rv.toInt64 ∧ r = some (.int (nI 0)) ∧ W1 = oW ao cJ gv :: Wc) ∨ (qfl ln ST P ≠ 0 ∧ r = some (.int (nI (qfl ln ST P))) ∧ W1 = (oW ao cJ ov :: (cW ad cI cJ n t P HT RK GP sm F T M ST ln mn E)))) r9 W9) : ∃ A1 RK1 GP1 gv, ab n t A1 ∧ (∀ j, RK1 j < 8) ∧ r9 = some (.int (nI (qfl ln ST (cel t A)))) ∧ W9 = oW ao cJ gv :: cW ad cI cJ n t (cel t A1) (hgt A1) RK1 GP1 sm F T M ST ln mn E ∧ (qfl ln ST (cel t A) ≠ 0 → A1 = A) ∧ (qfl ln ST (cel t A) = 0 → ∃ w, w.length = my ∧ wpath ma n t w (stl ma (yd A)) ∧ (∀ i, i < w.length → F' i = w.getD i 0 / 4 ∧ T' i = w.getD i 0 % 4) ∧ (∀ GO, num (al A) GO → A1 = gs GO (wend ma n t w (stl ma (yd A)))) ∧ gv 0 = (nI (bxY A - bxY A1)).toInt64) := by
  subst eP
  subst eH
  rcases hp with ⟨rv, Wc, gv, ⟨hq, L0, m0, l1, l2, l3, l4, hr, hW⟩, hg, rfl, rfl⟩ | ⟨hq, rfl, rfl⟩
  · obtain ⟨w, w1, w2, w3, w4⟩ := (fol_same h hn ht hk hm).2 hq
    have hl : ln = nI my ∧ mn = nI ma := by
      rcases hk with ⟨-, z⟩ | ⟨-, A0, w, -, -, -, a4, a5, -⟩
      · unfold qfl at hq
        rw [if_neg (fun y => y.1 z)] at hq
        exact absurd hq (by decide)
      · exact ⟨a4, a5⟩
    obtain rfl : L0 = my := nI_inj (by omega) (by omega) (l3.symm.trans hl.1)
    obtain rfl : m0 = ma := nI_inj (by omega) (by omega) (l4.symm.trans hl.2)
    have hy := yd_ok h hn.2
    have hs := stl_ok (man := m0) hy.1 hy.2
    obtain ⟨⟨o1, o2, o3⟩, -⟩ := wpath_ok hn.2 (A := A) w _ hs.1 hs.2.1 (zin_stl m0 (zin_yd h hn.2)) w2 w.length (Nat.le_refl _)
    have hc := cfo_path hn.2 ht.2 h w2 w3 w.length (Nat.le_refl _)
    rw [List.take_length] at o1 o2 o3 hc
    have hnum := (lrn_al h hn.2 ht RK GP).1
    have hu := ups_gs h hn.2 ht o1 (lrn (cel t A) RK GP).2.2
    have hab := gs_ab h o1 o2 o3 hnum
    have hbx : bxY (gs (lrn (cel t A) RK GP).2.2 (wend m0 n t w (stl m0 (yd A)))) ≤ bxY A := by
      rw [bx_gs]
      have x1 := wend_bx hn.2 w _ hs.1 w2
      have x2 : bxY (stl m0 (yd A)) ≤ bxY (yd A) := by
        unfold stl
        split
        · exact Nat.le_refl _
        · exact lv_bx _
      have x3 : bxY (yd A) = bxY A := by
        unfold bxY yd
        simp only [List.length_map]
      omega
    rw [pks_yd h hn.2 ht, ← w1, hc, hu.1, hu.2] at hW
    rw [pks_yd h hn.2 ht, ← w1, hc, hu.2, hsum_ab h hn, hsum_ab hab hn, pk_sub hbx] at hr
    cases hr
    exact ⟨_, _, _, gv, hab, lrn_lt hR0, by rw [hq], by rw [hW], fun z => absurd hq z, fun _ => ⟨w, w1, w2, w4, fun GO hGO => gs_eq o3 hnum hGO, hg⟩⟩
  · exact ⟨A, RK, GP, ov, h, hR0, rfl, rfl, fun _ => rfl, fun z => absurd z hq⟩
