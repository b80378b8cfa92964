/-! the reference's number of a yard; the next rank; leaving -/
theorem mE_lt {n t : Nat} {Y : Nat → List Nat} (h : okY n t Y) (ht : t ≤ 4) : mE Y < 2 ^ 48 := cE_lt (okY_rev h) ht
theorem yr_mE {n t : Nat} {Y : Nat → List Nat} (h : okY n t Y) (ht : t ≤ 4) {s j : Nat} (hs : s < 4) (hj : j < 4) : yr (mE Y) (4 * s + j) = (Y s).reverse.getD j 0 := yr_cE (okY_rev h) ht hs hj
theorem fz_eq {d : Nat → Nat} : ∀ (f k m : Nat), k ≤ m → m ≤ k + f → (∀ j, k ≤ j → j < m → d j ≠ 0) → (m < k + f → d m = 0) → fz d f k = m
  | 0, k, m, h1, h2, _, _ => by show k = m; omega
  | f + 1, k, m, h1, h2, h3, h4 => by
    rw [fz_s]
    by_cases e : k = m
    · subst e
      rw [if_pos (h4 (by omega))]
    · rw [if_neg (h3 k (Nat.le_refl k) (by omega))]
      exact fz_eq f (k + 1) m (by omega) (by omega) (fun j hj => h3 j (by omega)) (fun h => h4 (by omega))
theorem getD_pos {t : Nat} {l : List Nat} (h : okl t l) {j : Nat} (hj : j < l.length) : l.getD j 0 ≠ 0 := by
  rw [List.getD_eq_getElem?_getD, List.getElem?_eq_getElem hj]
  have := h.2 _ (List.getElem_mem hj)
  show l[j] ≠ 0
  omega
theorem getD_out {l : List Nat} {j : Nat} (hj : l.length ≤ j) : l.getD j 0 = 0 := by
  rw [List.getD_eq_getElem?_getD, List.getElem?_eq_none hj]
  rfl
theorem mht_mE {n t : Nat} {Y : Nat → List Nat} (h : okY n t Y) (ht : t ≤ 4) {s : Nat} (hs : s < 4) : mht (mE Y) s t = (Y s).length := by
  have hl := (h.1 s).1
  refine fz_eq t 0 _ (Nat.zero_le _) (by omega) (fun j _ hj => ?_) (fun hlt => ?_)
  · show yr (mE Y) (4 * s + j) ≠ 0
    rw [yr_mE h ht hs (by omega)]
    exact getD_pos (okl_rev (h.1 s)) (by rw [List.length_reverse]; exact hj)
  · show yr (mE Y) (4 * s + (Y s).length) = 0
    rw [yr_mE h ht hs (by omega)]
    exact getD_out (by rw [List.length_reverse]; exact Nat.le_refl _)
theorem mtop_mE {n t : Nat} {Y : Nat → List Nat} (h : okY n t Y) (ht : t ≤ 4) {s a : Nat} {l : List Nat} (hs : s < 4) (hY : Y s = a :: l) : yr (mE Y) (4 * s + ((Y s).length - 1)) = a := by
  have hl := (h.1 s).1
  have hlen : (Y s).length = l.length + 1 := by rw [hY]; rfl
  rw [yr_mE h ht hs (by omega), hY, List.reverse_cons, List.getD_eq_getElem?_getD, List.getElem?_append_right (by rw [List.length_reverse, List.length_cons]; omega)]
  simp
theorem mwo_mE {n t : Nat} {Y : Nat → List Nat} (h : okY n t Y) (ht : t ≤ 4) {s : Nat} (hs : s < 4) (hne : Y s ≠ []) : mwo (mE Y) (4 * s + ((Y s).length - 1)) = mE (rm Y s) := by
  have hx := mE_lt h ht
  have hl := (h.1 s).1
  cases hY : Y s with
  | nil => exact absurd hY hne
  | cons a l =>
    have hlen : (Y s).length = l.length + 1 := by rw [hY]; rfl
    rw [← hY]
    refine dig16 (Nat.lt_of_le_of_lt (mwo_le _ _) hx) (mE_lt (okY_rm h s) ht) (fun q j hq hj => ?_)
    rw [yr_mwo, yr_mE (okY_rm h s) ht hq hj]
    by_cases e : q = s
    · subst e
      rw [rm_s, hY]
      show (if 4 * q + j = 4 * q + ((a :: l).length - 1) then 0 else yr (mE Y) (4 * q + j)) = l.reverse.getD j 0
      by_cases e2 : j = l.length
      · subst e2
        rw [if_pos (by rw [List.length_cons]; omega), getD_out (by rw [List.length_reverse]; exact Nat.le_refl _)]
      · rw [if_neg (by rw [List.length_cons]; omega), yr_mE h ht hq hj, hY, List.reverse_cons]
        by_cases e3 : j < l.length
        · rw [List.getD_eq_getElem?_getD, List.getD_eq_getElem?_getD, List.getElem?_append_left (by rw [List.length_reverse]; exact e3)]
        · rw [getD_out (by rw [List.length_append, List.length_reverse, List.length_singleton]; omega), getD_out (by rw [List.length_reverse]; omega)]
    · rw [if_neg (by omega), rm_n e, yr_mE h ht hq hj]
theorem mmv_mE {n t : Nat} {Y : Nat → List Nat} (h : okY n t Y) (ht : t ≤ 4) (hn : n ≤ 4) {a b : Nat} (ha4 : a < 4) (hab : a ≠ b) (hb : b < n) (ha : Y a ≠ []) (hl : (Y b).length < t) : mmv (mE Y) a b t = mE (mv Y a b) := by
  have hx := mE_lt h ht
  have hok := okY_mv h hab hb ha hl
  have hb4 : b < 4 := by omega
  cases hY : Y a with
  | nil => exact absurd hY ha
  | cons r l =>
    have hr := (h.1 a).2 r (by rw [hY]; exact List.mem_cons_self)
    have hla := (h.1 a).1
    have hlen : (Y a).length = l.length + 1 := by rw [hY]; rfl
    unfold mmv
    rw [mht_mE h ht ha4, mht_mE h ht hb4, mwo_mE h ht ha4 ha, mtop_mE h ht ha4 hY]
    have hx2 := mE_lt (okY_rm h a) ht
    have hgap : yr (mE (rm Y a)) (4 * b + (Y b).length) = 0 := by
      rw [yr_mE (okY_rm h a) ht hb4 (by omega), rm_n (Ne.symm hab)]
      exact getD_out (by rw [List.length_reverse]; exact Nat.le_refl _)
    have hor : mE (rm Y a) + r * 2 ^ (3 * (4 * b + (Y b).length)) = mE (rm Y a) ||| r * 2 ^ ((4 * b + (Y b).length) * 3) := by
      rw [Nat.mul_comm 3]
      exact (bt_or (w := 3) hgap (by omega)).symm
    rw [hor]
    have hj : 2 ^ ((4 * b + (Y b).length) * 3) ≤ 2 ^ 45 := Nat.pow_le_pow_right (by decide) (by omega)
    have hm := Nat.mul_le_mul (show r ≤ 7 by omega) hj
    refine dig16 (Nat.or_lt_two_pow hx2 (by omega)) (mE_lt hok ht) (fun q j hq hj2 => ?_)
    have hdig : yr (mE (rm Y a) ||| r * 2 ^ ((4 * b + (Y b).length) * 3)) (4 * q + j) = if 4 * q + j = 4 * b + (Y b).length then r else yr (mE (rm Y a)) (4 * q + j) := by
      by_cases e : 4 * q + j = 4 * b + (Y b).length
      · rw [if_pos e, e, bt_or (w := 3) hgap (by omega)]
        unfold yr
        rw [Nat.add_mul_div_right _ _ (Nat.two_pow_pos _)]
        unfold yr at hgap
        omega
      · rw [if_neg e]
        unfold yr
        show _ % 2 ^ 3 = _ % 2 ^ 3
        apply Nat.eq_of_testBit_eq
        intro i
        rw [Nat.testBit_mod_two_pow, Nat.testBit_mod_two_pow, Nat.testBit_div_two_pow, Nat.testBit_div_two_pow, Nat.testBit_or, Nat.testBit_mul_two_pow]
        by_cases q3 : i < 3
        · by_cases c1 : (4 * b + (Y b).length) * 3 ≤ i + (4 * q + j) * 3
          · have hz : r.testBit (i + (4 * q + j) * 3 - (4 * b + (Y b).length) * 3) = false := Nat.testBit_lt_two_pow (Nat.lt_of_lt_of_le (show r < 2 ^ 3 by omega) (Nat.pow_le_pow_right (by decide) (by omega)))
            simp [q3, hz]
          · simp [q3, c1]
        · simp [q3]
    rw [hdig, yr_mE hok ht hq hj2]
    have htop : (Y a).headD 0 = r := by rw [hY]; rfl
    unfold mv
    rw [htop]
    by_cases e : q = b
    · subst e
      rw [pu_s, rm_n (Ne.symm hab), List.reverse_cons]
      by_cases e2 : j = (Y q).length
      · subst e2
        rw [if_pos rfl, List.getD_eq_getElem?_getD, List.getElem?_append_right (by rw [List.length_reverse]; exact Nat.le_refl _)]
        simp
      · rw [if_neg (by omega), yr_mE (okY_rm h a) ht hq hj2, rm_n (Ne.symm hab)]
        by_cases e3 : j < (Y q).length
        · rw [List.getD_eq_getElem?_getD, List.getD_eq_getElem?_getD, List.getElem?_append_left (by rw [List.length_reverse]; exact e3)]
        · rw [getD_out (by rw [List.length_reverse]; omega), getD_out (by rw [List.length_append, List.length_reverse, List.length_singleton]; omega)]
    · have hl4 := (h.1 b).1
      rw [if_neg (by omega), pu_n e, yr_mE (okY_rm h a) ht hq hj2]
/-! the least rank -/
def lmin : List Nat → Nat
  | [] => 7
  | a :: l => if a < lmin l then a else lmin l
theorem lmin_le : ∀ (l : List Nat) r, r ∈ l → lmin l ≤ r
  | a :: l, r, h => by
    unfold lmin
    rcases List.mem_cons.mp h with rfl | h
    · split <;> omega
    · have := lmin_le l r h
      split <;> omega
theorem lmin_in : ∀ (l : List Nat), lmin l = 7 ∨ lmin l ∈ l
  | [] => Or.inl rfl
  | a :: l => by
    unfold lmin
    split
    · exact Or.inr List.mem_cons_self
    · rcases lmin_in l with h | h
      · exact Or.inl h
      · exact Or.inr (List.mem_cons_of_mem _ h)
theorem lmin_7 : ∀ (l : List Nat), lmin l ≤ 7
  | [] => Nat.le_refl 7
  | a :: l => by
    have := lmin_7 l
    unfold lmin
    split <;> omega
def mn (Y : Nat → List Nat) : Nat := lmin (Y 0 ++ (Y 1 ++ (Y 2 ++ Y 3)))
theorem mem4 {Y : Nat → List Nat} {r : Nat} : r ∈ Y 0 ++ (Y 1 ++ (Y 2 ++ Y 3)) ↔ ∃ s, s < 4 ∧ r ∈ Y s := by
  simp only [List.mem_append]
  constructor
  · rintro (h | h | h | h)
    · exact ⟨0, by decide, h⟩
    · exact ⟨1, by decide, h⟩
    · exact ⟨2, by decide, h⟩
    · exact ⟨3, by decide, h⟩
  · rintro ⟨s, hs, h⟩
    rcases (show s = 0 ∨ s = 1 ∨ s = 2 ∨ s = 3 by omega) with rfl | rfl | rfl | rfl
    · exact Or.inl h
    · exact Or.inr (Or.inl h)
    · exact Or.inr (Or.inr (Or.inl h))
    · exact Or.inr (Or.inr (Or.inr h))
theorem mn_le {Y : Nat → List Nat} {s r : Nat} (hs : s < 4) (h : r ∈ Y s) : mn Y ≤ r := lmin_le _ _ (mem4.mpr ⟨s, hs, h⟩)
theorem mn_in (Y : Nat → List Nat) : mn Y = 7 ∨ ∃ s, s < 4 ∧ mn Y ∈ Y s := (lmin_in _).imp id (fun h => mem4.mp h)
theorem mn_7 (Y : Nat → List Nat) : mn Y ≤ 7 := lmin_7 _
theorem mn_uni {Y : Nat → List Nat} {g : Nat} (h1 : ∀ s r, s < 4 → r ∈ Y s → g ≤ r) (h7 : g ≤ 7) (h2 : g = 7 ∨ ∃ s, s < 4 ∧ g ∈ Y s) : mn Y = g := by
  have a : g ≤ mn Y := by
    rcases mn_in Y with h | ⟨s, hs, h⟩
    · omega
    · exact h1 s _ hs h
  have b : mn Y ≤ g := by
    rcases h2 with h | ⟨s, hs, h⟩
    · have := mn_7 Y; omega
    · exact mn_le hs h
  omega
theorem ylo_spec (x : Nat) : ∀ k, (∀ j, j < k → yr x j ≠ 0 → ylo x k ≤ yr x j) ∧ ylo x k ≤ 7 ∧ (ylo x k = 7 ∨ ∃ j, j < k ∧ yr x j = ylo x k ∧ yr x j ≠ 0)
  | 0 => ⟨fun j h => absurd h (Nat.not_lt_zero j), Nat.le_refl 7, Or.inl rfl⟩
  | k + 1 => by
    obtain ⟨h1, h2, h3⟩ := ylo_spec x k
    have e : ylo x (k + 1) = if yr x k ≠ 0 ∧ yr x k < ylo x k then yr x k else ylo x k := rfl
    rw [e]
    split
    · next h =>
      refine ⟨fun j hj hne => ?_, by omega, Or.inr ⟨k, by omega, rfl, h.1⟩⟩
      by_cases q : j = k
      · subst q; exact Nat.le_refl _
      · have := h1 j (by omega) hne; omega
    · next h =>
      refine ⟨fun j hj hne => ?_, h2, ?_⟩
      · by_cases q : j = k
        · subst q
          exact Nat.le_of_not_lt (fun z => h ⟨hne, z⟩)
        · exact h1 j (by omega) hne
      · rcases h3 with q | ⟨j, a, b, c⟩
        · exact Or.inl q
        · exact Or.inr ⟨j, by omega, b, c⟩
theorem mem_getD {l : List Nat} {r : Nat} : r ∈ l → ∃ j, j < l.length ∧ l.getD j 0 = r := fun h => by
  obtain ⟨j, hj, e⟩ := List.getElem_of_mem h
  exact ⟨j, hj, by rw [List.getD_eq_getElem?_getD, List.getElem?_eq_getElem hj]; exact e⟩
theorem getD_mem {l : List Nat} {j : Nat} (h : l.getD j 0 ≠ 0) : l.getD j 0 ∈ l := by
  by_cases q : j < l.length
  · rw [List.getD_eq_getElem?_getD, List.getElem?_eq_getElem q]
    exact List.getElem_mem q
  · exact absurd (getD_out (by omega)) h
theorem ylo_cE {n t : Nat} {Y : Nat → List Nat} (h : okY n t Y) (ht : t ≤ 4) : ylo (cE Y) 16 = mn Y := by
  obtain ⟨h1, h2, h3⟩ := ylo_spec (cE Y) 16
  refine (mn_uni (fun s r hs hr => ?_) h2 ?_).symm
  · obtain ⟨j, hj, e⟩ := mem_getD hr
    have hl := (h.1 s).1
    have e2 := yr_cE h ht hs (show j < 4 by omega)
    have hp := (h.1 s).2 r hr
    have := h1 (4 * s + j) (by omega) (by omega)
    omega
  · rcases h3 with q | ⟨j, a, b, c⟩
    · exact Or.inl q
    · right
      refine ⟨j / 4, by omega, ?_⟩
      have e2 := yr_cE h ht (show j / 4 < 4 by omega) (show j % 4 < 4 by omega)
      rw [show 4 * (j / 4) + j % 4 = j by omega] at e2
      rw [← b, e2]
      exact getD_mem (by rw [← e2]; exact c)
theorem mn_rev (Y : Nat → List Nat) : mn (rvY Y) = mn Y := by
  refine mn_uni (fun s r hs hr => mn_le hs (List.mem_reverse.mp hr)) (mn_7 Y) ?_
  rcases mn_in Y with q | ⟨s, hs, hr⟩
  · exact Or.inl q
  · exact Or.inr ⟨s, hs, List.mem_reverse.mpr hr⟩
theorem ylo_mE {n t : Nat} {Y : Nat → List Nat} (h : okY n t Y) (ht : t ≤ 4) : ylo (mE Y) 16 = mn Y := by
  unfold mE
  rw [ylo_cE (okY_rev h) ht, mn_rev]
