/-! yards with the same words in order: the same ways are there -/
def yL (L : List (List Nat)) : Nat → List Nat := fun s => L.getD s []
theorem perm_ind {α : Type} (R : List α → List α → Prop) (h0 : ∀ l, R l l) (ht : ∀ a b c, R a b → R b c → R a c) (hs : ∀ p x y l, R (p ++ y :: x :: l) (p ++ x :: y :: l)) {L L' : List α} (h : L.Perm L') : ∀ p, R (p ++ L) (p ++ L') := by
  induction h with
  | nil => intro p; exact h0 _
  | cons x _ ih =>
    intro p
    have := ih (p ++ [x])
    rw [List.append_assoc, List.append_assoc] at this
    exact this
  | swap x y l => intro p; exact hs p x y l
  | trans _ _ ih1 ih2 => intro p; exact ht _ _ _ (ih1 p) (ih2 p)
def trs2 (i : Nat) : Nat → Nat := fun s => if s = i then i + 1 else if s = i + 1 then i else s
theorem trs2_tau {i n : Nat} (hi : i + 1 < n) (hn : n ≤ 4) : tau n (trs2 i) := by
  refine ⟨fun s => ?_, fun s hs => ?_, fun s hs => ?_⟩
  · unfold trs2
    by_cases e1 : s = i
    · rw [if_pos e1, if_neg (by omega), if_pos rfl, e1]
    · by_cases e2 : s = i + 1
      · rw [if_neg e1, if_pos e2, if_pos rfl, e2]
      · rw [if_neg e1, if_neg e2, if_neg e1, if_neg e2]
  · unfold trs2
    split
    · omega
    · split <;> omega
  · unfold trs2
    split
    · omega
    · split <;> omega
theorem yL_swap (p : List (List Nat)) (x y : List Nat) (l : List (List Nat)) : yL (p ++ x :: y :: l) = sw (trs2 p.length) (yL (p ++ y :: x :: l)) := by
  funext s
  unfold yL sw trs2
  simp only [List.getD_eq_getElem?_getD]
  by_cases e1 : s = p.length
  · subst e1
    rw [if_pos rfl, List.getElem?_append_right (Nat.le_refl _), List.getElem?_append_right (by omega)]
    rw [show p.length - p.length = 0 by omega, show p.length + 1 - p.length = 1 by omega]
    rfl
  · by_cases e2 : s = p.length + 1
    · subst e2
      rw [if_neg e1, if_pos rfl, List.getElem?_append_right (by omega), List.getElem?_append_right (Nat.le_refl _)]
      rw [show p.length - p.length = 0 by omega, show p.length + 1 - p.length = 1 by omega]
      rfl
    · rw [if_neg e1, if_neg e2]
      by_cases e3 : s < p.length
      · rw [List.getElem?_append_left e3, List.getElem?_append_left e3]
      · rw [List.getElem?_append_right (by omega), List.getElem?_append_right (by omega)]
        obtain ⟨k, hk⟩ : ∃ k, s - p.length = k + 2 := ⟨s - p.length - 2, by omega⟩
        rw [hk]
        rfl
theorem way_perm {man n t : Nat} (hn : n ≤ 4) {L L' : List (List Nat)} (h : L.Perm L') (hl : L.length = n) : ∀ k, way man n t k (yL L) = none → way man n t k (yL L') = none := by
  have key := perm_ind (fun A B : List (List Nat) => A.length = n → (B.length = n ∧ ∀ k, way man n t k (yL A) = none → way man n t k (yL B) = none)) (fun A e => ⟨e, fun _ q => q⟩)
    (fun a b c h1 h2 e => ⟨(h2 (h1 e).1).1, fun k q => (h2 (h1 e).1).2 k ((h1 e).2 k q)⟩)
    (fun p x y l e => by
      have e2 : (p ++ x :: y :: l).length = n := by rw [← e]; simp
      refine ⟨e2, fun k q => ?_⟩
      rw [yL_swap]
      refine way_sw hn (trs2_tau ?_ hn) k _ q
      rw [List.length_append, List.length_cons, List.length_cons] at e
      omega) h []
  exact (key hl).2
def dec : Nat → Nat → List Nat
  | 0, _ => []
  | k + 1, w => if w % 8 = 0 then [] else (w % 8) :: dec k (w / 8)
theorem dec_wd : ∀ (k : Nat) (l : List Nat), l.length ≤ k → (∀ r ∈ l, 1 ≤ r ∧ r ≤ 6) → dec k (wd l) = l
  | 0, l, h, _ => by
    cases l with
    | nil => rfl
    | cons a l => exact absurd h (by rw [List.length_cons]; omega)
  | k + 1, [], _, _ => rfl
  | k + 1, a :: l, h, hr => by
    have ha := hr a List.mem_cons_self
    have e1 : (a + 8 * wd l) % 8 = a := by omega
    have e2 : (a + 8 * wd l) / 8 = wd l := by omega
    show (if (a + 8 * wd l) % 8 = 0 then [] else ((a + 8 * wd l) % 8) :: dec k ((a + 8 * wd l) / 8)) = a :: l
    rw [e1, e2, if_neg (by omega), dec_wd k l (by rw [List.length_cons] at h; omega) (fun r h2 => hr r (List.mem_cons_of_mem _ h2))]
theorem pm2 (a b : Nat) (p l : List Nat) : (p ++ a :: b :: l).Perm (p ++ min a b :: max a b :: l) := by
  by_cases h : a ≤ b
  · rw [Nat.min_eq_left h, Nat.max_eq_right h]
  · rw [Nat.min_eq_right (by omega), Nat.max_eq_left (by omega)]
    exact List.Perm.append_left p (List.Perm.swap b a l)
theorem srt_perm (a b c d : Nat) : [a, b, c, d].Perm [min (min a b) (min c d), min (max (min a b) (min c d)) (min (max a b) (max c d)), max (max (min a b) (min c d)) (min (max a b) (max c d)), max (max a b) (max c d)] := by
  have s1 : [a, b, c, d].Perm [min a b, max a b, c, d] := pm2 a b [] [c, d]
  have s2 : [min a b, max a b, c, d].Perm [min a b, max a b, min c d, max c d] := pm2 c d [min a b, max a b] []
  generalize min a b = lo1 at *
  generalize max a b = hi1 at *
  generalize min c d = lo2 at *
  generalize max c d = hi2 at *
  have s3 : [lo1, hi1, lo2, hi2].Perm [lo1, lo2, hi1, hi2] := List.Perm.cons _ (List.Perm.swap _ _ _)
  have s4' : [lo1, lo2, hi1, hi2].Perm [min lo1 lo2, max lo1 lo2, hi1, hi2] := pm2 lo1 lo2 [] [hi1, hi2]
  have s5 : [min lo1 lo2, max lo1 lo2, hi1, hi2].Perm [min lo1 lo2, max lo1 lo2, min hi1 hi2, max hi1 hi2] := pm2 hi1 hi2 [min lo1 lo2, max lo1 lo2] []
  have s6 := pm2 (max lo1 lo2) (min hi1 hi2) [min lo1 lo2] [max hi1 hi2]
  exact s1.trans (s2.trans (s3.trans (s4'.trans (s5.trans s6))))
theorem mnm {a b m : Nat} (ha : a < m) (hb : b < m) : min a b < m := Nat.lt_of_le_of_lt (Nat.min_le_left a b) ha
theorem mxm {a b m : Nat} (ha : a < m) (hb : b < m) : max a b < m := Nat.max_lt.mpr ⟨ha, hb⟩
theorem srt_words {x y : Nat} (h : ysrt x = ysrt y) : [yw x 0, yw x 1, yw x 2, yw x 3].Perm [yw y 0, yw y 1, yw y 2, yw y 3] := by
  have p1 := srt_perm (yw x 0) (yw x 1) (yw x 2) (yw x 3)
  have p2 := srt_perm (yw y 0) (yw y 1) (yw y 2) (yw y 3)
  have a0 := yw_lt x 0
  have a1 := yw_lt x 1
  have a2 := yw_lt x 2
  have a3 := yw_lt x 3
  have b0 := yw_lt y 0
  have b1 := yw_lt y 1
  have b2 := yw_lt y 2
  have b3 := yw_lt y 3
  unfold ysrt at h
  have c1 : min (min (yw x 0) (yw x 1)) (min (yw x 2) (yw x 3)) < 4096 := mnm (mnm a0 a1) (mnm a2 a3)
  have c2 : min (max (min (yw x 0) (yw x 1)) (min (yw x 2) (yw x 3))) (min (max (yw x 0) (yw x 1)) (max (yw x 2) (yw x 3))) < 4096 := mnm (mxm (mnm a0 a1) (mnm a2 a3)) (mnm (mxm a0 a1) (mxm a2 a3))
  have c3 : max (max (min (yw x 0) (yw x 1)) (min (yw x 2) (yw x 3))) (min (max (yw x 0) (yw x 1)) (max (yw x 2) (yw x 3))) < 4096 := mxm (mxm (mnm a0 a1) (mnm a2 a3)) (mnm (mxm a0 a1) (mxm a2 a3))
  have c4 : max (max (yw x 0) (yw x 1)) (max (yw x 2) (yw x 3)) < 4096 := mxm (mxm a0 a1) (mxm a2 a3)
  have d1 : min (min (yw y 0) (yw y 1)) (min (yw y 2) (yw y 3)) < 4096 := mnm (mnm b0 b1) (mnm b2 b3)
  have d2 : min (max (min (yw y 0) (yw y 1)) (min (yw y 2) (yw y 3))) (min (max (yw y 0) (yw y 1)) (max (yw y 2) (yw y 3))) < 4096 := mnm (mxm (mnm b0 b1) (mnm b2 b3)) (mnm (mxm b0 b1) (mxm b2 b3))
  have d3 : max (max (min (yw y 0) (yw y 1)) (min (yw y 2) (yw y 3))) (min (max (yw y 0) (yw y 1)) (max (yw y 2) (yw y 3))) < 4096 := mxm (mxm (mnm b0 b1) (mnm b2 b3)) (mnm (mxm b0 b1) (mxm b2 b3))
  have d4 : max (max (yw y 0) (yw y 1)) (max (yw y 2) (yw y 3)) < 4096 := mxm (mxm b0 b1) (mxm b2 b3)
  revert p1 p2 h c1 c2 c3 c4 d1 d2 d3 d4
  generalize min (min (yw x 0) (yw x 1)) (min (yw x 2) (yw x 3)) = e1
  generalize min (max (min (yw x 0) (yw x 1)) (min (yw x 2) (yw x 3))) (min (max (yw x 0) (yw x 1)) (max (yw x 2) (yw x 3))) = e2
  generalize max (max (min (yw x 0) (yw x 1)) (min (yw x 2) (yw x 3))) (min (max (yw x 0) (yw x 1)) (max (yw x 2) (yw x 3))) = e3
  generalize max (max (yw x 0) (yw x 1)) (max (yw x 2) (yw x 3)) = e4
  generalize min (min (yw y 0) (yw y 1)) (min (yw y 2) (yw y 3)) = f1
  generalize min (max (min (yw y 0) (yw y 1)) (min (yw y 2) (yw y 3))) (min (max (yw y 0) (yw y 1)) (max (yw y 2) (yw y 3))) = f2
  generalize max (max (min (yw y 0) (yw y 1)) (min (yw y 2) (yw y 3))) (min (max (yw y 0) (yw y 1)) (max (yw y 2) (yw y 3))) = f3
  generalize max (max (yw y 0) (yw y 1)) (max (yw y 2) (yw y 3)) = f4
  intro h p1 p2 c1 c2 c3 c4 d1 d2 d3 d4
  have g1 : e1 = f1 := by omega
  have g2 : e2 = f2 := by omega
  have g3 : e3 = f3 := by omega
  have g4 : e4 = f4 := by omega
  subst g1 g2 g3 g4
  exact p1.trans p2.symm
theorem yL_of {n t : Nat} {Y : Nat → List Nat} (h : okY n t Y) : yL ((List.range n).map Y) = Y := by
  funext s
  unfold yL
  rw [List.getD_eq_getElem?_getD]
  by_cases q : s < n
  · rw [List.getElem?_map, List.getElem?_range q]
    rfl
  · rw [List.getElem?_eq_none (by rw [List.length_map, List.length_range]; omega), h.2 s (by omega)]
    rfl
theorem range4 {n t : Nat} (hn : n ≤ 4) {Y : Nat → List Nat} (h : okY n t Y) : [Y 0, Y 1, Y 2, Y 3] = (List.range n).map Y ++ List.replicate (4 - n) [] := by
  rcases (show n = 0 ∨ n = 1 ∨ n = 2 ∨ n = 3 ∨ n = 4 by omega) with rfl | rfl | rfl | rfl | rfl
  · rw [h.2 0 (by omega), h.2 1 (by omega), h.2 2 (by omega), h.2 3 (by omega)]; rfl
  · rw [h.2 1 (by omega), h.2 2 (by omega), h.2 3 (by omega)]; rfl
  · rw [h.2 2 (by omega), h.2 3 (by omega)]; rfl
  · rw [h.2 3 (by omega)]; rfl
  · rfl
/-- the hopeless table's ground -/
theorem way_key {man n t : Nat} (hn : n ≤ 4) (ht : t ≤ 4) {Y Z : Nat → List Nat} (hY : okY n t Y) (hZ : okY n t Z) (h : ysrt (cE Y) = ysrt (cE Z)) (k : Nat) : way man n t k Y = none → way man n t k Z = none := by
  have p := srt_words h
  rw [yw_cE hY ht (by decide), yw_cE hY ht (by decide), yw_cE hY ht (by decide), yw_cE hY ht (by decide), yw_cE hZ ht (by decide), yw_cE hZ ht (by decide), yw_cE hZ ht (by decide), yw_cE hZ ht (by decide)] at p
  have p2 := p.map (dec 4)
  have e : ∀ {V : Nat → List Nat}, okY n t V → ∀ s, dec 4 (wd (V s)) = V s := fun hV s => dec_wd 4 _ (Nat.le_trans (hV.1 s).1 ht) (hV.1 s).2
  simp only [List.map_cons, List.map_nil] at p2
  rw [e hY, e hY, e hY, e hY, e hZ, e hZ, e hZ, e hZ, range4 hn hY, range4 hn hZ, List.perm_append_right_iff] at p2
  have := way_perm (man := man) (t := t) hn p2 (by rw [List.length_map, List.length_range]) k
  rw [yL_of hY, yL_of hZ] at this
  exact this
