/-! the methods, one by one: both answer the same, both go to the same state -/
theorem put_k {n t : Nat} {A : Nat → List Nat} (h : ab n t A) (hn : 2 ≤ n ∧ n ≤ 4) (ht : t ≤ 4) (i g : Int32) : kput n t (cel 4 A) i g = qput n t (hgt A) i g := by
  unfold kput qput
  rw [fz_cel h ht, bxs_cel h ht, hsum_ab h hn]
  have hl := (h.1 i.toNatClampNeg).1
  have h6 := h.2.2
  by_cases c1 : ¬ (¬ i < 0 ∧ i < nI n)
  · rw [if_pos c1, if_pos c1]
  · rw [if_neg c1, if_neg c1]
    by_cases c2 : g < nI 1 ∨ nI 20 < g
    · rw [if_pos c2, if_pos c2]
    · rw [if_neg c2, if_neg c2]
      unfold hgt
      by_cases c3 : (A i.toNatClampNeg).length = t ∨ bxY A = 6
      · rw [if_pos c3, if_pos (by omega)]
      · rw [if_neg c3, if_neg (by omega)]
theorem put_s {n t : Nat} {A : Nat → List Nat} (h : ab n t A) (hn : 2 ≤ n ∧ n ≤ 4) (ht : 2 ≤ t ∧ t ≤ 4) {i g : Int32} (hk : qput n t (hgt A) i g = 0) : ∃ s g0, ab n t (pu A s g0) ∧ gput t (cel 4 A) i g = cel 4 (pu A s g0) ∧ upN (cel t A) (i.toNatClampNeg * t + hgt A i.toNatClampNeg) g.toNatClampNeg = cel t (pu A s g0) ∧ upN (hgt A) i.toNatClampNeg (hgt A i.toNatClampNeg + 1) = hgt (pu A s g0) ∧ vput t (cel 4 A) i = hgt A i.toNatClampNeg + 1 := by
  have hk' := hk
  rw [← put_k h hn ht.2] at hk'
  obtain ⟨s, g0, hs, hi, hg1, hg2, hg, hfz, hbx⟩ := kput0 hn.2 hk'
  rw [fz_cel h ht.2] at hfz
  rw [bxs_cel h ht.2] at hbx
  have h6 := h.2.2
  refine ⟨s, g0, ab_pu h hn.2 hs hfz ⟨hg1, hg2⟩ (by omega), ?_, ?_, ?_, ?_⟩
  · unfold gput
    rw [fz_cel h ht.2, hi, hg, tn (by omega), tn (by omega), cel_pu (w := 4) (by omega), Nat.mul_comm]
  · rw [hi, hg, tn (show s < 2147483648 by omega), tn (show g0 < 2147483648 by omega), cel_pu (w := t) hfz]
    rfl
  · rw [hi, tn (show s < 2147483648 by omega), hgt_pu]
  · unfold vput hgt
    rw [fz_cel h ht.2]
theorem off_k {n t : Nat} {A : Nat → List Nat} (h : ab n t A) (ht : t ≤ 4) (i : Int32) : koff n t (cel 4 A) i = qoff n (hgt A) i := by
  unfold koff qoff
  rw [fz_cel h ht]
  rfl
theorem off_s {n t : Nat} {A : Nat → List Nat} (h : ab n t A) (hn : 2 ≤ n ∧ n ≤ 4) (ht : 2 ≤ t ∧ t ≤ 4) {i : Int32} (hk : qoff n (hgt A) i = 0) : ∃ s, ab n t (rm A s) ∧ goff t (cel 4 A) i = cel 4 (rm A s) ∧ upN (cel t A) (i.toNatClampNeg * t + (hgt A i.toNatClampNeg - 1)) 0 = cel t (rm A s) ∧ upN (hgt A) i.toNatClampNeg (hgt A i.toNatClampNeg - 1) = hgt (rm A s) ∧ voff t (cel 4 A) i = cel t A (i.toNatClampNeg * t + (hgt A i.toNatClampNeg - 1)) := by
  have hk' := hk
  rw [← off_k h ht.2] at hk'
  obtain ⟨s, hs, hi, hfz⟩ := koff0 hn.2 hk'
  rw [fz_cel h ht.2] at hfz
  have hl := (h.1 s).1
  have hne : A s ≠ [] := fun z => hfz (by rw [z]; rfl)
  obtain ⟨x, l, hxl⟩ : ∃ x l, A s = x :: l := by
    cases hq : A s with
    | nil => exact absurd hq hne
    | cons x l => exact ⟨x, l, rfl⟩
  obtain ⟨e1, e2⟩ := cel_rm (w := t) hxl hl
  obtain ⟨e3, e4⟩ := cel_rm (w := 4) hxl (by omega)
  refine ⟨s, ab_rm h (by omega) hne, ?_, ?_, ?_, ?_⟩
  · unfold goff
    rw [fz_cel h ht.2, hi, tn (by omega), e3, Nat.mul_comm]
  · rw [hi, tn (show s < 2147483648 by omega), e1]
    rfl
  · rw [hi, tn (show s < 2147483648 by omega), hgt_rm]
  · unfold voff
    rw [fz_cel h ht.2, hi, tn (by omega), Nat.mul_comm, e4]
    exact e2.symm
theorem at_v {n t : Nat} {A : Nat → List Nat} (h : ab n t A) (ht : 2 ≤ t ∧ t ≤ 4) (hn : n ≤ 4) {i j : Int32} (hk : kat n t i j = 0) : cel 4 A (4 * i.toNatClampNeg + j.toNatClampNeg) = cel t A (i.toNatClampNeg * t + j.toNatClampNeg) := by
  unfold kat at hk
  split at hk
  · next q =>
    obtain ⟨b, hb, e⟩ := stk_nat (n := t) (by omega) q.2
    rw [e, tn (by omega), cel_at hb, cel_4 (by omega)]
  · exact absurd hk (by decide)
theorem blk_eq {n t : Nat} {A : Nat → List Nat} (h : ab n t A) (hn : 2 ≤ n ∧ n ≤ 4) (ht : 2 ≤ t ∧ t ≤ 4) (RK GP GO : Nat → Nat) : ybb (pks (cel t A) (lrn (cel t A) RK GP).2.1 (hgt A) t n) 4 = mbs (nwy (cel 4 A) (nwr (cel 4 A) GO 20).2 (nwr (cel 4 A) GO 20).1 16) 16 := by
  have hy := yd_ok h hn.2
  rw [pks_yd h hn.2 ht, nwy_mE h hn.2 ht.2, ybb_cE hy.1 ht.2, mbs_mE hy.1 ht.2]
theorem rul_eq {n t : Nat} {A : Nat → List Nat} (h : ab n t A) (hn : 2 ≤ n ∧ n ≤ 4) (ht : 2 ≤ t ∧ t ≤ 4) (RK GP GO : Nat → Nat) : mrl n t 100 0 (mleft n t (nwy (cel 4 A) (nwr (cel 4 A) GO 20).2 (nwr (cel 4 A) GO 20).1 16)) = some (yrl n t 100 0 (yaf 6 (pks (cel t A) (lrn (cel t A) RK GP).2.1 (hgt A) t n))) := by
  have hy := yd_ok h hn.2
  rw [pks_yd h hn.2 ht, nwy_mE h hn.2 ht.2, yaf_lv hy.1 ht.2 hy.2, mleft_lv hy.1 ht.2 hn.2]
  have hok := lv_ok hy.1
  have hb := lv_bx (yd A)
  have hb6 := hy.2
  refine rule_eq hn ht 100 0 _ hok (by omega) (lv_nf _) ?_
  by_cases hz : bxY (lv (yd A)) = 0
  · exact Or.inl ⟨hz, by omega⟩
  · have hex : ∃ s, s < 4 ∧ lv (yd A) s ≠ [] := by
      unfold bxY at hz
      by_cases z0 : lv (yd A) 0 = []
      · by_cases z1 : lv (yd A) 1 = []
        · by_cases z2 : lv (yd A) 2 = []
          · refine ⟨3, by omega, fun z3 => hz ?_⟩
            rw [z0, z1, z2, z3]; rfl
          · exact ⟨2, by omega, z2⟩
        · exact ⟨1, by omega, z1⟩
      · exact ⟨0, by omega, z0⟩
    obtain ⟨s, hs, hsn⟩ := hex
    obtain ⟨g1, g2⟩ := lmin_ne (hok.1 s) hsn
    have hle := mn_le hs g1
    rcases mn_in (lv (yd A)) with z | ⟨s', hs', hin⟩
    · omega
    · have hsn' : s' < n := Nat.lt_of_not_le (fun z => by rw [hok.2 s' z] at hin; exact nomatch hin)
      have h3 := (fi_in _ hin).1
      have h4 := (hok.1 s').1
      exact Or.inr ⟨s', hsn', hin, by omega⟩
/-- a way that both found is kept by both -/
theorem kept_new {n t : Nat} {A : Nat → List Nat} (h : ab n t A) (hn : 2 ≤ n ∧ n ≤ 4) (ht : 2 ≤ t ∧ t ≤ 4) {m0 k : Nat} {w w' : List Nat} {F T M F' T' M' ST WG RK GP GO : Nat → Nat} (hw : way m0 n t k (stl m0 (yd A)) = some w) (hl : w.length = k) (hc : wst m0 n t F T M 0 w (stl m0 (yd A))) (hm : wsg m0 n t (nwr (cel 4 A) GO 20).2 F' T' M' 0 w (stl m0 (yd A))) :
    kept n t (nI k) (nI m0) F T (kpm (lrn (cel t A) RK GP).2.2 M k) (cpy ST (cel t A) 16) 1 m0 k F' T' M' (cpy WG (cel 4 A) 16) := by
  have hp := way_path k _ w hw
  have hy := yd_ok h hn.2
  have hs := stl_ok (man := m0) hy.1 hy.2
  refine Or.inr ⟨rfl, A, w, h, hl, hp, rfl, rfl, fun j hj => by rw [cpy_at, if_pos hj], fun j hj => by rw [cpy_at, if_pos hj], fun j hj => ?_⟩
  obtain ⟨a1, a2, a3⟩ := wst_at w 0 _ hc j (by omega)
  obtain ⟨b1, b2, b3⟩ := wsg_at w 0 _ hm j (by omega)
  rw [Nat.zero_add] at a1 a2 a3 b1 b2 b3
  obtain ⟨⟨o1, -, o2⟩, o3⟩ := wpath_ok hn.2 (A := A) w _ hs.1 hs.2.1 (zin_stl m0 (zin_yd h hn.2)) hp j (by omega)
  obtain ⟨o4, o5⟩ := o3 (by omega)
  obtain ⟨m1, m2, m3, m4, m5⟩ := may_len o1 o5
  have hin : (wend m0 n t (w.take j) (stl m0 (yd A)) (w.getD j 0 / 4)).headD 0 ∈ wend m0 n t (w.take j) (stl m0 (yd A)) (w.getD j 0 / 4) := by
    cases hq : wend m0 n t (w.take j) (stl m0 (yd A)) (w.getD j 0 / 4) with
    | nil => exact absurd hq m4
    | cons x l => exact List.mem_cons_self
  obtain ⟨g, hg, e⟩ := o2 _ _ hin
  have hr := (o1.1 (w.getD j 0 / 4)).2 _ hin
  have hgr := al_rng h hg
  have hgc : kpm (lrn (cel t A) RK GP).2.2 M k j = g := by
    rw [kpm_at, if_pos hj, a3]
    unfold gpc
    rw [if_pos (by omega), e]
    exact (lrn_al h hn.2 ht RK GP).1 g hg
  refine ⟨a1, a2, by rw [a1, b1], by rw [a2, b2], ?_, by rw [hgc]; omega⟩
  rw [hgc, b3, e]
  exact nwr_num h hn.2 ht.2 GO g hg
/-- follow -/
theorem fol_same {n t : Nat} {A : Nat → List Nat} (h : ab n t A) (hn : 2 ≤ n ∧ n ≤ 4) (ht : 2 ≤ t ∧ t ≤ 4) {ln mn : Int32} {F T M ST : Nat → Nat} {kp ma my : Nat} {F' T' M' WG : Nat → Nat} (hk : kept n t ln mn F T M ST kp ma my F' T' M' WG) (hm : my ≤ 30) : (qfl ln ST (cel t A) = 0 ↔ kp ≠ 0 ∧ anb (fun j => decide (cel 4 A j ≠ WG j)) 16 = false) ∧ (qfl ln ST (cel t A) = 0 → ∃ w, w.length = my ∧ wpath ma n t w (stl ma (yd A)) ∧ (∀ i, i < w.length → F i = w.getD i 0 / 4 ∧ T i = w.getD i 0 % 4) ∧ (∀ i, i < w.length → F' i = w.getD i 0 / 4 ∧ T' i = w.getD i 0 % 4)) := by
  have nb : ∀ f : Nat → Bool, anb f 16 = false ↔ ∀ j, j < 16 → f j = false := fun f => by
    constructor
    · intro q j hj
      cases e : f j with
      | false => rfl
      | true => rw [(anb_iff f 16).mpr ⟨j, hj, e⟩] at q; cases q
    · intro q
      cases e : anb f 16 with
      | false => rfl
      | true =>
        obtain ⟨j, hj, z⟩ := (anb_iff f 16).mp e
        rw [q j hj] at z; cases z
  rcases hk with ⟨h1, h2⟩ | ⟨h1, A0, w, a1, a2, a3, a4, a5, a6, a7, a8⟩
  · have hq : qfl ln ST (cel t A) = 1 := by
      unfold qfl
      rw [if_neg (fun z => z.1 h2)]
    rw [hq]
    exact ⟨⟨fun z => absurd z (by decide), fun z => absurd h1 z.1⟩, fun z => absurd z (by decide)⟩
  · have hln : ln ≠ -1 := by
      rw [a4]
      intro z
      have h0 := nI_pos (n := my) (by omega)
      rw [z] at h0
      exact h0 (by decide)
    have e1 : anb (fun j => decide (ST j ≠ cel t A j)) 16 = false ↔ A0 = A := by
      rw [nb]
      constructor
      · intro q
        refine cel_inj a1 h hn.2 (Nat.le_refl t) ht.2 (Nat.mul_le_mul hn.2 ht.2) (fun j hj => ?_)
        have := of_decide_eq_false (q j hj)
        rw [← a6 j hj]
        exact Decidable.not_not.mp this
      · intro q j hj
        rw [a6 j hj, q]
        exact decide_eq_false (fun z => z rfl)
    have e2 : anb (fun j => decide (cel 4 A j ≠ WG j)) 16 = false ↔ A0 = A := by
      rw [nb]
      constructor
      · intro q
        refine (cel_inj h a1 hn.2 ht.2 (Nat.le_refl 4) (by omega) (fun j hj => ?_)).symm
        have := of_decide_eq_false (q j hj)
        rw [← a7 j hj]
        exact Decidable.not_not.mp this
      · intro q j hj
        rw [a7 j hj, q]
        exact decide_eq_false (fun z => z rfl)
    have hq : qfl ln ST (cel t A) = 0 ↔ A0 = A := by
      unfold qfl
      rw [← e1]
      constructor
      · intro z
        split at z
        · next y => exact y.2
        · cases z
      · intro z
        rw [if_pos ⟨hln, z⟩]
    rw [hq, e2]
    refine ⟨⟨fun z => ⟨by omega, z⟩, fun z => z.2⟩, fun z => ?_⟩
    subst z
    exact ⟨w, a2, a3, fun i hi => ⟨(a8 i (by omega)).1, (a8 i (by omega)).2.1⟩, fun i hi => ⟨(a8 i (by omega)).2.2.1.trans (a8 i (by omega)).1, (a8 i (by omega)).2.2.2.1.trans (a8 i (by omega)).2.1⟩⟩
theorem bx_gs (GO : Nat → Nat) (Z : Nat → List Nat) : bxY (gs GO Z) = bxY Z := by
  unfold bxY gs
  simp only [List.length_map]
theorem wend_bx {man n t : Nat} (hn : n ≤ 4) : ∀ (w : List Nat) (Y : Nat → List Nat), okY n t Y → wpath man n t w Y → bxY (wend man n t w Y) ≤ bxY Y
  | [], Y, _, _ => Nat.le_refl _
  | m :: w, Y, h, hp => by
    have hc := chd_ok hn h hp.2.1
    rw [show 4 * (m / 4) + m % 4 = m by omega] at hc
    have := wend_bx hn w _ hc.1 hp.2.2
    show bxY (wend man n t w (chd man n t Y m)) ≤ _
    omega
