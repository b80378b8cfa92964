/-! blocked boxes -/
def blkl : List Nat → Nat
  | [] => 0
  | a :: l => bn (lmin l < a) + blkl l
def blk (Y : Nat → List Nat) : Nat := blkl (Y 0) + blkl (Y 1) + blkl (Y 2) + blkl (Y 3)
theorem getD_drop (l : List Nat) (k : Nat) : l.drop k = [] ∧ l.getD k 0 = 0 ∨ ∃ m, l.drop k = l.getD k 0 :: m ∧ l.drop (k + 1) = m := by
  by_cases h : k < l.length
  · right
    refine ⟨l.drop (k + 1), ?_, rfl⟩
    rw [List.getD_eq_getElem?_getD, List.getElem?_eq_getElem h]
    exact List.drop_eq_getElem_cons h
  · left
    exact ⟨List.drop_eq_nil_of_le (by omega), getD_out (by omega)⟩
theorem ybs_wd {t : Nat} {l : List Nat} (h : okl t l) (ht : t ≤ 4) : ∀ i, i ≤ 4 → ybs (wd l) i = (blkl (l.drop (4 - i)), lmin (l.drop (4 - i)))
  | 0, _ => by
    rw [show 4 - 0 = 4 from rfl, List.drop_eq_nil_of_le (Nat.le_trans h.1 ht)]
    rfl
  | i + 1, hi => by
    have ih := ybs_wd h ht i (Nat.le_of_succ_le hi)
    rw [ybs_s, ih, yr_wd _ _ (lt8 h)]
    have e : 4 - i = (4 - (i + 1)) + 1 := by omega
    have e3 : 3 - i = 4 - (i + 1) := by omega
    rw [e3, e]
    generalize 4 - (i + 1) = k
    rcases getD_drop l k with ⟨h1, h2⟩ | ⟨m, h1, h2⟩
    · have h3 : l.drop (k + 1) = [] := by
        rw [← List.drop_drop, h1]; rfl
      rw [h1, h2, h3]
      rfl
    · have hpos : 1 ≤ l.getD k 0 := by
        have : l.getD k 0 ∈ l := List.mem_of_mem_drop (by rw [h1]; exact List.mem_cons_self)
        exact (h.2 _ this).1
      rw [h1, h2]
      show (if lmin m < l.getD k 0 then (blkl m + 1, lmin m) else if l.getD k 0 ≠ 0 then (blkl m, l.getD k 0) else (blkl m, lmin m)) = (bn (lmin m < l.getD k 0) + blkl m, if l.getD k 0 < lmin m then l.getD k 0 else lmin m)
      by_cases c : lmin m < l.getD k 0
      · rw [if_pos c, bn_t c, if_neg (by omega), Nat.add_comm]
      · rw [if_neg c, if_pos (by omega), bn_f c, Nat.zero_add]
        by_cases c2 : l.getD k 0 < lmin m
        · rw [if_pos c2]
        · rw [if_neg c2, show l.getD k 0 = lmin m by omega]
theorem ybb_cE {n t : Nat} {Y : Nat → List Nat} (h : okY n t Y) (ht : t ≤ 4) : ybb (cE Y) 4 = blk Y := by
  have key : ∀ s, s < 4 → (ybs (yw (cE Y) s) 4).1 = blkl (Y s) := by
    intro s hs
    rw [yw_cE h ht hs, ybs_wd (h.1 s) ht 4 (Nat.le_refl 4)]
    rfl
  show 0 + (ybs (yw (cE Y) 0) 4).1 + (ybs (yw (cE Y) 1) 4).1 + (ybs (yw (cE Y) 2) 4).1 + (ybs (yw (cE Y) 3) 4).1 = _
  rw [key 0 (by decide), key 1 (by decide), key 2 (by decide), key 3 (by decide)]
  unfold blk
  omega
/-- the reference counts them from the bottom up -/
def cntb (f : Nat → Nat) : Nat → Nat
  | 0 => 0
  | k + 1 => cntb f k + bn (anb (fun j => decide (f j < f k)) k = true ∧ 0 < f k)
theorem cntb_s (f : Nat → Nat) (k : Nat) : cntb f (k + 1) = cntb f k + bn (anb (fun j => decide (f j < f k)) k = true ∧ 0 < f k) := rfl
theorem mbs_s (x k : Nat) : mbs x (k + 1) = mbs x k + bn (mblk x (k / 4) (k % 4) = true) := rfl
theorem anb_congr {f g : Nat → Bool} : ∀ k, (∀ j, j < k → f j = g j) → anb f k = anb g k
  | 0, _ => rfl
  | k + 1, h => by
    rw [anb_s, anb_s, anb_congr k (fun j hj => h j (by omega)), h k (Nat.lt_succ_self k)]
theorem bn_congr {P Q : Prop} [Decidable P] [Decidable Q] (h : P ↔ Q) : bn P = bn Q := by
  by_cases p : P
  · rw [bn_t p, bn_t (h.mp p)]
  · rw [bn_f p, bn_f (fun q => p (h.mpr q))]
theorem cntb_congr {f g : Nat → Nat} : ∀ k, (∀ j, j < k → f j = g j) → cntb f k = cntb g k
  | 0, _ => rfl
  | k + 1, h => by
    show cntb f k + bn _ = cntb g k + bn _
    rw [cntb_congr k (fun j hj => h j (by omega))]
    congr 1
    refine bn_congr ?_
    rw [anb_congr (g := fun j => decide (g j < g k)) k (fun j hj => by rw [h j (by omega), h k (Nat.lt_succ_self k)]), h k (Nat.lt_succ_self k)]
theorem cntb_zero {f : Nat → Nat} : ∀ (k m : Nat), (∀ j, m ≤ j → j < m + k → f j = 0) → cntb f (m + k) = cntb f m
  | 0, m, _ => rfl
  | k + 1, m, h => by
    rw [show m + (k + 1) = (m + k) + 1 from rfl, cntb_s, cntb_zero k m (fun j h1 h2 => h j h1 (by omega)), bn_f (fun q => by have := q.2; rw [h (m + k) (by omega) (by omega)] at this; omega), Nat.add_zero]
theorem lmin_lt {l : List Nat} {a : Nat} (ha : a ≤ 6) : lmin l < a ↔ ∃ r, r ∈ l ∧ r < a := by
  constructor
  · intro h
    rcases lmin_in l with q | q
    · omega
    · exact ⟨_, q, h⟩
  · rintro ⟨r, hr, h⟩
    have := lmin_le l r hr
    omega
theorem cntb_rev {t : Nat} : ∀ (l : List Nat), okl t l → cntb (fun j => l.reverse.getD j 0) l.length = blkl l
  | [], _ => rfl
  | a :: l, h => by
    have ih := cntb_rev l (okl_tail h)
    have ha := h.2 a List.mem_cons_self
    have hlt : ∀ j, j < l.length → (a :: l).reverse.getD j 0 = l.reverse.getD j 0 := fun j hj => by
      rw [List.reverse_cons, List.getD_eq_getElem?_getD, List.getD_eq_getElem?_getD, List.getElem?_append_left (by rw [List.length_reverse]; exact hj)]
    have hat : (a :: l).reverse.getD l.length 0 = a := by
      rw [List.reverse_cons, List.getD_eq_getElem?_getD, List.getElem?_append_right (by rw [List.length_reverse]; exact Nat.le_refl _)]
      simp
    show cntb _ l.length + bn _ = bn _ + blkl l
    rw [cntb_congr (g := fun j => l.reverse.getD j 0) l.length hlt, ih, Nat.add_comm]
    congr 1
    refine bn_congr ?_
    rw [anb_iff, lmin_lt ha.2]
    constructor
    · rintro ⟨⟨j, hj, hd⟩, -⟩
      have hd : (a :: l).reverse.getD j 0 < (a :: l).reverse.getD l.length 0 := of_decide_eq_true hd
      rw [hat, hlt j hj] at hd
      have hne : l.reverse.getD j 0 ≠ 0 := getD_pos (okl_rev (okl_tail h)) (by rw [List.length_reverse]; exact hj)
      exact ⟨_, List.mem_reverse.mp (getD_mem hne), hd⟩
    · rintro ⟨r, hr, hlt2⟩
      obtain ⟨j, hj, e⟩ := mem_getD (List.mem_reverse.mpr hr)
      rw [List.length_reverse] at hj
      refine ⟨⟨j, hj, decide_eq_true ?_⟩, ?_⟩
      · show (a :: l).reverse.getD j 0 < (a :: l).reverse.getD l.length 0
        rw [hat, hlt j hj, e]; exact hlt2
      · show 0 < (a :: l).reverse.getD l.length 0
        rw [hat]; omega
theorem mbs_split (x : Nat) : ∀ s j, j ≤ 4 → mbs x (4 * s + j) = mbs x (4 * s) + cntb (fun i => yr x (4 * s + i)) j
  | s, 0, _ => rfl
  | s, j + 1, hj => by
    rw [show 4 * s + (j + 1) = (4 * s + j) + 1 from rfl, mbs_s, cntb_s, mbs_split x s j (by omega), Nat.add_assoc]
    congr 2
    refine bn_congr ?_
    rw [show (4 * s + j) / 4 = s by omega, show (4 * s + j) % 4 = j by omega]
    unfold mblk
    rw [Bool.and_eq_true, decide_eq_true_iff]
theorem mbs_mE {n t : Nat} {Y : Nat → List Nat} (h : okY n t Y) (ht : t ≤ 4) : mbs (mE Y) 16 = blk Y := by
  have key : ∀ s, s < 4 → mbs (mE Y) (4 * s + 4) = mbs (mE Y) (4 * s) + blkl (Y s) := by
    intro s hs
    rw [mbs_split _ s 4 (Nat.le_refl 4)]
    congr 1
    have hl := (h.1 s).1
    rw [cntb_congr (g := fun j => (Y s).reverse.getD j 0) 4 (fun j hj => yr_mE h ht hs hj), ← cntb_rev (Y s) (h.1 s), show (4 : Nat) = (Y s).length + (4 - (Y s).length) by omega]
    exact cntb_zero _ _ (fun j h1 h2 => getD_out (by rw [List.length_reverse]; exact h1))
  have k0 := key 0 (by decide)
  have k1 := key 1 (by decide)
  have k2 := key 2 (by decide)
  have k3 := key 3 (by decide)
  have z : mbs (mE Y) (4 * 0) = 0 := rfl
  unfold blk
  simp only [Nat.reduceMul, Nat.reduceAdd] at k0 k1 k2 k3 z
  omega
/-! a move takes away at most one blocked box -/
theorem blkl_tail (l : List Nat) : blkl l ≤ blkl l.tail + 1 := by
  cases l with
  | nil => exact Nat.zero_le _
  | cons a l =>
    have := bn_lt (lmin l < a)
    show bn _ + blkl l ≤ blkl l + 1
    omega
theorem blk_rm {Y : Nat → List Nat} (s : Nat) : blk Y ≤ blk (rm Y s) + 1 := by
  have h := blkl_tail (Y s)
  unfold blk
  rcases Nat.lt_or_ge s 4 with hs | hs
  · rcases (show s = 0 ∨ s = 1 ∨ s = 2 ∨ s = 3 by omega) with rfl | rfl | rfl | rfl
    · rw [rm_s, rm_n (show 1 ≠ 0 by decide), rm_n (show 2 ≠ 0 by decide), rm_n (show 3 ≠ 0 by decide)]; omega
    · rw [rm_s, rm_n (show 0 ≠ 1 by decide), rm_n (show 2 ≠ 1 by decide), rm_n (show 3 ≠ 1 by decide)]; omega
    · rw [rm_s, rm_n (show 0 ≠ 2 by decide), rm_n (show 1 ≠ 2 by decide), rm_n (show 3 ≠ 2 by decide)]; omega
    · rw [rm_s, rm_n (show 0 ≠ 3 by decide), rm_n (show 1 ≠ 3 by decide), rm_n (show 2 ≠ 3 by decide)]; omega
  · rw [rm_n (show 0 ≠ s by omega), rm_n (show 1 ≠ s by omega), rm_n (show 2 ≠ s by omega), rm_n (show 3 ≠ s by omega)]; omega
theorem blk_pu {Y : Nat → List Nat} (s r : Nat) : blk Y ≤ blk (pu Y s r) := by
  unfold blk
  have h : blkl (Y s) ≤ blkl (r :: Y s) := Nat.le_add_left _ _
  rcases Nat.lt_or_ge s 4 with hs | hs
  · rcases (show s = 0 ∨ s = 1 ∨ s = 2 ∨ s = 3 by omega) with rfl | rfl | rfl | rfl
    · rw [pu_s, pu_n (show 1 ≠ 0 by decide), pu_n (show 2 ≠ 0 by decide), pu_n (show 3 ≠ 0 by decide)]; omega
    · rw [pu_s, pu_n (show 0 ≠ 1 by decide), pu_n (show 2 ≠ 1 by decide), pu_n (show 3 ≠ 1 by decide)]; omega
    · rw [pu_s, pu_n (show 0 ≠ 2 by decide), pu_n (show 1 ≠ 2 by decide), pu_n (show 3 ≠ 2 by decide)]; omega
    · rw [pu_s, pu_n (show 0 ≠ 3 by decide), pu_n (show 1 ≠ 3 by decide), pu_n (show 2 ≠ 3 by decide)]; omega
  · rw [pu_n (show 0 ≠ s by omega), pu_n (show 1 ≠ s by omega), pu_n (show 2 ≠ s by omega), pu_n (show 3 ≠ s by omega)]; omega
theorem blk_mv (Y : Nat → List Nat) (a b : Nat) : blk Y ≤ blk (mv Y a b) + 1 := by
  have h1 := blk_rm (Y := Y) a
  have h2 := blk_pu (Y := rm Y a) b ((Y a).headD 0)
  unfold mv
  omega
/-- a box that leaves was not blocked -/
theorem blkl_top {l : List Nat} {g : Nat} (h : ∀ r ∈ l, g ≤ r) (hg : g ≤ 7) : blkl (g :: l) = blkl l := by
  show bn _ + blkl l = blkl l
  rw [bn_f, Nat.zero_add]
  intro q
  rcases lmin_in l with z | z
  · omega
  · have := h _ z; omega
theorem blk_tp {Y : Nat → List Nat} {s : Nat} (h : tp Y s) : blk (rm Y s) = blk Y := by
  obtain ⟨l, e⟩ := tp_cons h
  have h1 : blkl (Y s) = blkl (Y s).tail := by
    rw [e]
    exact blkl_top (fun r hr => mn_le h.1 (by rw [e]; exact List.mem_cons_of_mem _ hr)) (mn_7 Y)
  have hs := h.1
  unfold blk
  rcases (show s = 0 ∨ s = 1 ∨ s = 2 ∨ s = 3 by omega) with rfl | rfl | rfl | rfl
  · rw [rm_s, rm_n (show 1 ≠ 0 by decide), rm_n (show 2 ≠ 0 by decide), rm_n (show 3 ≠ 0 by decide)]; omega
  · rw [rm_s, rm_n (show 0 ≠ 1 by decide), rm_n (show 2 ≠ 1 by decide), rm_n (show 3 ≠ 1 by decide)]; omega
  · rw [rm_s, rm_n (show 0 ≠ 2 by decide), rm_n (show 1 ≠ 2 by decide), rm_n (show 3 ≠ 2 by decide)]; omega
  · rw [rm_s, rm_n (show 0 ≠ 3 by decide), rm_n (show 1 ≠ 3 by decide), rm_n (show 2 ≠ 3 by decide)]; omega
theorem blk_rn : ∀ (l : List Nat) (Y Z : Nat → List Nat), rn l Y Z → blk Z = blk Y
  | [], Y, Z, h => by cases h; rfl
  | s :: l, Y, Z, h => by rw [blk_rn l _ Z h.2, blk_tp h.1]
theorem blk_lv (Y : Nat → List Nat) : blk (lv Y) = blk Y := by
  obtain ⟨l, h, -⟩ := lv_run Y
  exact blk_rn l Y _ h
/-- without a blocked box a yard in which boxes have left is empty -/
theorem blkl_0 : ∀ (l : List Nat) (g : Nat), blkl l = 0 → g ∈ l → (∀ r ∈ l, g ≤ r) → (∀ r ∈ l, r ≤ 6) → l.head? = some g
  | a :: l, g, h, hg, hm, h6 => by
    have h2 : bn (lmin l < a) + blkl l = 0 := h
    rcases List.mem_cons.mp hg with rfl | hg2
    · rfl
    · have ha := hm a List.mem_cons_self
      have hl := lmin_le l g hg2
      have h3 : ¬ lmin l < a := fun q => by rw [bn_t q] at h2; omega
      show some a = some g
      congr 1
      omega
theorem nf_empty' {n t : Nat} {Y : Nat → List Nat} (h : okY n t Y) (hn : nf Y) (hb : blk Y = 0) : ∀ s, s < 4 → Y s = [] := by
  intro s hs
  rcases mn_in Y with q | ⟨q, hq, hr⟩
  · cases hY : Y s with
    | nil => rfl
    | cons a l =>
      have h1 := mn_le hs (show a ∈ Y s by rw [hY]; exact List.mem_cons_self)
      have h2 := ((h.1 s).2 a (by rw [hY]; exact List.mem_cons_self)).2
      omega
  · exfalso
    have hz : blkl (Y q) = 0 := by
      unfold blk at hb
      rcases (show q = 0 ∨ q = 1 ∨ q = 2 ∨ q = 3 by omega) with rfl | rfl | rfl | rfl <;> omega
    exact hn q ⟨hq, blkl_0 (Y q) (mn Y) hz hr (fun r h1 => mn_le hq h1) (fun r h1 => ((h.1 q).2 r h1).2)⟩
theorem cE_0 {n t : Nat} {Y : Nat → List Nat} (h : okY n t Y) (ht : t ≤ 4) : cE Y = 0 ↔ ∀ s, s < 4 → Y s = [] := by
  constructor
  · intro e s hs
    have h1 := yr_cE h ht hs (show 0 < 4 by decide)
    rw [e, yr_0] at h1
    cases hY : Y s with
    | nil => rfl
    | cons a l =>
      rw [hY] at h1
      have := (h.1 s).2 a (by rw [hY]; exact List.mem_cons_self)
      have : (a :: l).getD 0 0 = a := rfl
      omega
  · intro e
    unfold cE
    rw [e 0 (by decide), e 1 (by decide), e 2 (by decide), e 3 (by decide)]
    rfl
theorem mE_0 {n t : Nat} {Y : Nat → List Nat} (h : okY n t Y) (ht : t ≤ 4) : mE Y = 0 ↔ ∀ s, s < 4 → Y s = [] := by
  unfold mE
  rw [cE_0 (okY_rev h) ht]
  exact ⟨fun e s hs => List.reverse_eq_nil_iff.mp (e s hs), fun e s hs => by unfold rvY; rw [e s hs]; rfl⟩
theorem blk_nil {Y : Nat → List Nat} (h : ∀ s, s < 4 → Y s = []) : blk Y = 0 := by
  unfold blk
  rw [h 0 (by decide), h 1 (by decide), h 2 (by decide), h 3 (by decide)]
  rfl
