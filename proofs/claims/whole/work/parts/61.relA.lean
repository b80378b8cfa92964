/-! the abstract state: stacks of groups, top first; both states hold it -/
def ab (n t : Nat) (A : Nat → List Nat) : Prop := (∀ s, (A s).length ≤ t ∧ ∀ g ∈ A s, 1 ≤ g ∧ g ≤ 20) ∧ (∀ s, n ≤ s → A s = []) ∧ bxY A ≤ 6
def cel (w : Nat) (A : Nat → List Nat) (k : Nat) : Nat := (A (k / w)).reverse.getD (k % w) 0
def hgt (A : Nat → List Nat) (s : Nat) : Nat := (A s).length
theorem getD_snoc (l : List Nat) (g j : Nat) : (l ++ [g]).getD j 0 = if j = l.length then g else l.getD j 0 := by
  rw [List.getD_eq_getElem?_getD, List.getD_eq_getElem?_getD]
  by_cases h : j < l.length
  · rw [List.getElem?_append_left h, if_neg (by omega)]
  · rw [List.getElem?_append_right (by omega)]
    by_cases q : j = l.length
    · rw [if_pos q, q, Nat.sub_self]; rfl
    · rw [if_neg q, List.getElem?_eq_none (by simp; omega), List.getElem?_eq_none (by omega)]
theorem cel_at {w : Nat} {A : Nat → List Nat} {s j : Nat} (hj : j < w) : cel w A (s * w + j) = (A s).reverse.getD j 0 := by
  unfold cel
  rw [show (s * w + j) / w = s by rw [Nat.mul_comm, Nat.mul_add_div (by omega), Nat.div_eq_of_lt hj, Nat.add_zero], show (s * w + j) % w = j by rw [Nat.mul_comm, Nat.mul_add_mod, Nat.mod_eq_of_lt hj]]
theorem cel_4 {A : Nat → List Nat} {s j : Nat} (hj : j < 4) : cel 4 A (4 * s + j) = (A s).reverse.getD j 0 := by
  rw [Nat.mul_comm]; exact cel_at hj
theorem kdiv {k w : Nat} (hw : 0 < w) : ∃ s j, j < w ∧ k = s * w + j := ⟨k / w, k % w, Nat.mod_lt _ hw, by rw [Nat.mul_comm]; exact (Nat.div_add_mod k w).symm⟩
theorem sj_ne {w s s' j j' : Nat} (hj : j < w) (hj' : j' < w) (h : s' * w + j' = s * w + j) : s' = s ∧ j' = j := by
  have h1 : (s' * w + j') / w = s' := by rw [Nat.mul_comm, Nat.mul_add_div (by omega), Nat.div_eq_of_lt hj', Nat.add_zero]
  have h2 : (s * w + j) / w = s := by rw [Nat.mul_comm, Nat.mul_add_div (by omega), Nat.div_eq_of_lt hj, Nat.add_zero]
  have h3 : s' = s := by rw [← h1, h, h2]
  subst h3
  exact ⟨rfl, by omega⟩
theorem cel_pu {w : Nat} {A : Nat → List Nat} {s g : Nat} (hl : (A s).length < w) : cel w (pu A s g) = upN (cel w A) (s * w + (A s).length) g := by
  funext k
  obtain ⟨s', j, hj, rfl⟩ := kdiv (k := k) (w := w) (by omega)
  rw [cel_at hj]
  by_cases hs : s' = s
  · subst hs
    rw [pu_s, List.reverse_cons, getD_snoc, List.length_reverse]
    by_cases q : j = (A s').length
    · rw [if_pos q, q, upN_s]
    · rw [if_neg q, upN_n (fun h => q (by omega)), cel_at hj]
  · rw [pu_n hs, upN_n (fun h => hs (sj_ne hl hj h).1), cel_at hj]
theorem pu_rm {A : Nat → List Nat} {s a : Nat} {r : List Nat} (h : A s = a :: r) : pu (rm A s) s a = A := by
  funext q
  by_cases hq : q = s
  · subst hq; rw [pu_s, rm_s, h]; rfl
  · rw [pu_n hq, rm_n hq]
theorem cel_rm {w : Nat} {A : Nat → List Nat} {s a : Nat} {r : List Nat} (h : A s = a :: r) (hl : (A s).length ≤ w) : cel w (rm A s) = upN (cel w A) (s * w + ((A s).length - 1)) 0 ∧ cel w A (s * w + ((A s).length - 1)) = a := by
  have hr : rm A s s = r := by rw [rm_s, h]; rfl
  have hw : r.length < w := by rw [h, List.length_cons] at hl; omega
  have e := cel_pu (w := w) (A := rm A s) (s := s) (g := a) (by rw [hr]; exact hw)
  rw [pu_rm h, hr] at e
  have e1 : (A s).length - 1 = r.length := by rw [h, List.length_cons]; omega
  rw [e1, e]
  refine ⟨?_, upN_s _ _ _⟩
  funext k
  by_cases q : k = s * w + r.length
  · rw [q, upN_s, cel_at hw, hr, getD_out (by rw [List.length_reverse]; omega)]
  · rw [upN_n q, upN_n q]
theorem ab_pos {n t : Nat} {A : Nat → List Nat} (h : ab n t A) {s j : Nat} (hj : j < (A s).length) : 1 ≤ (A s).reverse.getD j 0 ∧ (A s).reverse.getD j 0 ≤ 20 ∧ (A s).reverse.getD j 0 ∈ A s := by
  have hj' : j < (A s).reverse.length := by rw [List.length_reverse]; exact hj
  have hm : (A s).reverse.getD j 0 ∈ A s := by
    rw [List.getD_eq_getElem?_getD, List.getElem?_eq_getElem hj']
    exact List.mem_reverse.mp (List.getElem_mem hj')
  exact ⟨((h.1 s).2 _ hm).1, ((h.1 s).2 _ hm).2, hm⟩
theorem fz_cel {n t : Nat} {A : Nat → List Nat} (h : ab n t A) (ht : t ≤ 4) (s : Nat) : fz (fun j => cel 4 A (4 * s + j)) t 0 = (A s).length := by
  have hl := (h.1 s).1
  refine fz_eq t 0 _ (Nat.zero_le _) (by omega) (fun j _ hj => ?_) (fun hm => ?_)
  · show cel 4 A (4 * s + j) ≠ 0
    rw [cel_4 (by omega)]
    have := (ab_pos h hj).1
    omega
  · show cel 4 A (4 * s + _) = 0
    rw [cel_4 (by omega), getD_out (by rw [List.length_reverse]; omega)]
theorem bxs_seg {n t : Nat} {A : Nat → List Nat} (h : ab n t A) (ht : t ≤ 4) (s : Nat) : ∀ j, j ≤ 4 → bxs (cel 4 A) (4 * s + j) = bxs (cel 4 A) (4 * s) + min j (A s).length
  | 0, _ => by simp
  | j + 1, hj => by
    have ih := bxs_seg h ht s j (by omega)
    show bxs (cel 4 A) (4 * s + j) + bn (0 < cel 4 A (4 * s + j)) = _
    rw [ih, cel_4 (by omega)]
    by_cases q : j < (A s).length
    · rw [bn_t (show 0 < (A s).reverse.getD j 0 from (ab_pos h q).1)]; omega
    · rw [bn_f (by rw [getD_out (by rw [List.length_reverse]; omega)]; omega)]; omega
theorem bxs_cel {n t : Nat} {A : Nat → List Nat} (h : ab n t A) (ht : t ≤ 4) : bxs (cel 4 A) 16 = bxY A := by
  have h0 := bxs_seg h ht 0 4 (by omega)
  have h1 := bxs_seg h ht 1 4 (by omega)
  have h2 := bxs_seg h ht 2 4 (by omega)
  have h3 := bxs_seg h ht 3 4 (by omega)
  have l0 := (h.1 0).1
  have l1 := (h.1 1).1
  have l2 := (h.1 2).1
  have l3 := (h.1 3).1
  have z : bxs (cel 4 A) (4 * 0) = 0 := rfl
  rw [z] at h0
  unfold bxY
  rw [show (16 : Nat) = 4 * 3 + 4 from rfl, h3, show 4 * 3 = 4 * 2 + 4 from rfl, h2, show 4 * 2 = 4 * 1 + 4 from rfl, h1, show 4 * 1 = 4 * 0 + 4 from rfl, h0]
  omega
theorem hsum_ab {n t : Nat} {A : Nat → List Nat} (h : ab n t A) (hn : 2 ≤ n ∧ n ≤ 4) : hsum (hgt A) n = bxY A := by
  have z : ∀ s, n ≤ s → hgt A s = 0 := fun s hs => by unfold hgt; rw [h.2.1 s hs]; rfl
  have e : hsum (hgt A) 4 = bxY A := by
    show 0 + hgt A 0 + hgt A 1 + hgt A 2 + hgt A 3 = _
    unfold hgt bxY
    omega
  rw [← e]
  rcases (show n = 2 ∨ n = 3 ∨ n = 4 by omega) with rfl | rfl | rfl
  · show hsum (hgt A) 2 = hsum (hgt A) 2 + hgt A 2 + hgt A 3
    rw [z 2 (by omega), z 3 (by omega)]; rfl
  · show hsum (hgt A) 3 = hsum (hgt A) 3 + hgt A 3
    rw [z 3 (by omega)]; rfl
  · rfl
theorem hgt_le {n t : Nat} {A : Nat → List Nat} (h : ab n t A) (j : Nat) : hgt A j ≤ t := (h.1 j).1
theorem cel_lt {n t w : Nat} {A : Nat → List Nat} (h : ab n t A) (k : Nat) : cel w A k ≤ 20 := by
  unfold cel
  by_cases q : k % w < (A (k / w)).length
  · exact (ab_pos h q).2.1
  · rw [getD_out (by rw [List.length_reverse]; omega)]
    omega
theorem ab_0 {n t : Nat} : ab n t (fun _ => []) := ⟨fun _ => ⟨Nat.zero_le _, fun _ h => nomatch h⟩, fun _ _ => rfl, Nat.zero_le _⟩
theorem cel_0 (w : Nat) : cel w (fun _ => []) = z0 := by
  funext k
  unfold cel
  simp
theorem hgt_0 : hgt (fun _ => []) = z0 := rfl
theorem bx_pu {A : Nat → List Nat} {s g : Nat} (hs : s < 4) : bxY (pu A s g) = bxY A + 1 := by
  unfold bxY
  rcases (show s = 0 ∨ s = 1 ∨ s = 2 ∨ s = 3 by omega) with rfl | rfl | rfl | rfl
  · rw [pu_s, pu_n (by omega), pu_n (by omega), pu_n (by omega), List.length_cons]; omega
  · rw [pu_s, pu_n (by omega), pu_n (by omega), pu_n (by omega), List.length_cons]; omega
  · rw [pu_s, pu_n (by omega), pu_n (by omega), pu_n (by omega), List.length_cons]; omega
  · rw [pu_s, pu_n (by omega), pu_n (by omega), pu_n (by omega), List.length_cons]; omega
theorem ab_pu {n t : Nat} {A : Nat → List Nat} (h : ab n t A) (hn : n ≤ 4) {s g : Nat} (hs : s < n) (hl : (A s).length < t) (hg : 1 ≤ g ∧ g ≤ 20) (hb : bxY A < 6) : ab n t (pu A s g) := by
  refine ⟨fun q => ?_, fun q hq => ?_, by rw [bx_pu (by omega)]; omega⟩
  · by_cases e : q = s
    · subst e
      rw [pu_s]
      exact ⟨by rw [List.length_cons]; omega, fun x hx => (List.mem_cons.mp hx).elim (fun e => by rw [e]; exact hg) ((h.1 q).2 x)⟩
    · rw [pu_n e]; exact h.1 q
  · rw [pu_n (by omega)]; exact h.2.1 q hq
theorem ab_rm {n t : Nat} {A : Nat → List Nat} (h : ab n t A) {s : Nat} (hs : s < 4) (hne : A s ≠ []) : ab n t (rm A s) := by
  refine ⟨fun q => ?_, fun q hq => ?_, by have := bx_rm hs hne; have := h.2.2; omega⟩
  · have hm : ∀ x ∈ rm A s q, x ∈ A q := fun x hx => mem_rm hx
    refine ⟨?_, fun x hx => (h.1 q).2 x (hm x hx)⟩
    by_cases e : q = s
    · subst e; rw [rm_s, List.length_tail]; have := (h.1 q).1; omega
    · rw [rm_n e]; exact (h.1 q).1
  · have := h.2.1 q hq
    by_cases e : q = s
    · subst e; exact absurd this hne
    · rw [rm_n e]; exact this
theorem hgt_pu (A : Nat → List Nat) (s g : Nat) : hgt (pu A s g) = upN (hgt A) s (hgt A s + 1) := by
  funext q
  unfold hgt
  by_cases e : q = s
  · subst e; rw [pu_s, upN_s, List.length_cons]
  · rw [pu_n e, upN_n e]
theorem hgt_rm (A : Nat → List Nat) (s : Nat) : hgt (rm A s) = upN (hgt A) s (hgt A s - 1) := by
  funext q
  unfold hgt
  by_cases e : q = s
  · subst e; rw [rm_s, upN_s, List.length_tail]
  · rw [rm_n e, upN_n e]
/-- the cells tell the state -/
theorem cel_inj {n t w : Nat} {A B : Nat → List Nat} (hA : ab n t A) (hB : ab n t B) (hn : n ≤ 4) (htw : t ≤ w) (hw : w ≤ 4) (hnw : n * w ≤ 16) (h : ∀ j, j < 16 → cel w A j = cel w B j) : A = B := by
  funext s
  by_cases hs : n ≤ s
  · rw [hA.2.1 s hs, hB.2.1 s hs]
  have e : ∀ j, j < w → (A s).reverse.getD j 0 = (B s).reverse.getD j 0 := fun j hj => by
    rw [← cel_at hj, ← cel_at hj]
    have := Nat.mul_le_mul_right w (show s + 1 ≤ n by omega)
    rw [Nat.succ_mul] at this
    exact h _ (by omega)
  have la := (hA.1 s).1
  have lb := (hB.1 s).1
  have hlen : (A s).length = (B s).length := by
    rcases Nat.lt_trichotomy (A s).length (B s).length with q | q | q
    · have h1 := (ab_pos hB q).1
      rw [← e _ (by omega), getD_out (by rw [List.length_reverse]; omega)] at h1
      omega
    · exact q
    · have h1 := (ab_pos hA q).1
      rw [e _ (by omega), getD_out (by rw [List.length_reverse]; omega)] at h1
      omega
  have hr : (A s).reverse = (B s).reverse := by
    apply List.ext_getElem
    · rw [List.length_reverse, List.length_reverse, hlen]
    · intro i h1 h2
      have := e i (by rw [List.length_reverse] at h1; omega)
      rw [List.getD_eq_getElem?_getD, List.getD_eq_getElem?_getD, List.getElem?_eq_getElem h1, List.getElem?_eq_getElem h2] at this
      exact this
  have := congrArg List.reverse hr
  rwa [List.reverse_reverse, List.reverse_reverse] at this
