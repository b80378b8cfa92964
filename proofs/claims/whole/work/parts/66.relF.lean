/-! the rule -/
def fi (g : Nat) : List Nat → Nat
  | [] => 9
  | a :: l => if a = g then 0 else if g ∈ l then fi g l + 1 else 9
theorem fi_in {g : Nat} : ∀ (l : List Nat), g ∈ l → fi g l < l.length ∧ l.getD (fi g l) 0 = g ∧ ∀ j, j < fi g l → l.getD j 0 ≠ g
  | [], h => nomatch h
  | a :: l, h => by
    unfold fi
    by_cases e : a = g
    · rw [if_pos e]
      exact ⟨by rw [List.length_cons]; omega, e, fun j hj => absurd hj (Nat.not_lt_zero j)⟩
    · have hm : g ∈ l := (List.mem_cons.mp h).resolve_left (fun q => e q.symm)
      obtain ⟨h1, h2, h3⟩ := fi_in l hm
      rw [if_neg e, if_pos hm]
      refine ⟨by rw [List.length_cons]; omega, h2, fun j hj => ?_⟩
      cases j with
      | zero => exact e
      | succ i => exact h3 i (by omega)
theorem fi_out {g : Nat} : ∀ {l : List Nat}, g ∉ l → fi g l = 9
  | [], _ => rfl
  | a :: l, h => by
    unfold fi
    rw [if_neg (fun q => h (by rw [q]; exact List.mem_cons_self)), if_neg (fun q => h (List.mem_cons_of_mem _ q))]
theorem yab_wd {t : Nat} {l : List Nat} (h : okl t l) (ht : t ≤ 4) {g : Nat} (hg : 1 ≤ g) : yab (wd l) g = if g ∈ l then fi g l else 4 := by
  have hl := h.1
  by_cases q : g ∈ l
  · obtain ⟨h1, h2, h3⟩ := fi_in l q
    rw [if_pos q]
    exact yab_of (fun j hj => by rw [yr_wd l j (lt8 h)]; exact h3 j hj) (by omega) (fun _ => by rw [yr_wd l _ (lt8 h)]; exact h2)
  · rw [if_neg q]
    refine yab_of (fun j hj => ?_) (Nat.le_refl 4) (fun z => absurd z (Nat.lt_irrefl 4))
    rw [yr_wd l j (lt8 h)]
    intro e
    exact q (by rw [← e]; exact getD_mem (by omega))
theorem mab_mE {n t : Nat} {Y : Nat → List Nat} (h : okY n t Y) (ht : t ≤ 4) {s g : Nat} (hs : s < 4) : ∀ f m, m + f = 5 → mab (mE Y) s g (Y s).length f m = if g ∈ (Y s).drop m then m + fi g ((Y s).drop m) else 9
  | 0, m, e => by
    have := (h.1 s).1
    rw [List.drop_eq_nil_of_le (by omega), if_neg (fun q => nomatch q)]; rfl
  | f + 1, m, e => by
    have ih := mab_mE h ht (g := g) hs f (m + 1) (by omega)
    have hl := (h.1 s).1
    rw [mab_s]
    by_cases q : (Y s).length ≤ m
    · rw [if_pos q, List.drop_eq_nil_of_le q, if_neg (fun q => nomatch q)]
    · rw [if_neg q]
      have hd : (Y s).drop m = (Y s).getD m 0 :: (Y s).drop (m + 1) := by
        rcases getD_drop (Y s) m with ⟨z, -⟩ | ⟨r, z1, z2⟩
        · exact absurd (List.drop_eq_nil_iff.mp z) (by omega)
        · rw [z1, z2]
      have hv : yr (mE Y) (4 * s + ((Y s).length - 1 - m)) = (Y s).getD m 0 := by
        rw [yr_mE h ht hs (by omega), List.getD_eq_getElem?_getD, List.getElem?_reverse (by omega), List.getD_eq_getElem?_getD, show (Y s).length - 1 - ((Y s).length - 1 - m) = m by omega]
      rw [hv, hd]
      unfold fi
      by_cases e1 : (Y s).getD m 0 = g
      · rw [if_pos e1, if_pos (by rw [e1]; exact List.mem_cons_self), if_pos e1]; rfl
      · rw [if_neg e1, if_neg e1, ih]
        by_cases e2 : g ∈ (Y s).drop (m + 1)
        · rw [if_pos e2, if_pos (List.mem_cons_of_mem _ e2), if_pos e2]; omega
        · rw [if_neg e2, if_neg (fun z => (List.mem_cons.mp z).elim (fun y => e1 y.symm) e2)]
theorem mabv_mE {n t : Nat} {Y : Nat → List Nat} (h : okY n t Y) (ht : t ≤ 4) {s : Nat} (hs : s < 4) : mabv (mE Y) s t = fi (mn Y) (Y s) := by
  unfold mabv
  rw [ylo_mE h ht, mht_mE h ht hs, mab_mE h ht hs 5 0 rfl, List.drop_zero]
  by_cases q : mn Y ∈ Y s
  · rw [if_pos q, Nat.zero_add]
  · rw [if_neg q, fi_out q]
def lexs (Y : Nat → List Nat) (a q : Nat) : Prop := fi (mn Y) (Y a) < fi (mn Y) (Y q) ∨ (fi (mn Y) (Y a) = fi (mn Y) (Y q) ∧ a ≤ q)
theorem ysrc_spec {n t : Nat} {Y : Nat → List Nat} (h : okY n t Y) (ht : t ≤ 4) (h1 : 1 ≤ mn Y) : ∀ s, s ≤ 4 → ((ysrc (cE Y) (mn Y) s).1 = 4 ∧ ∀ q, q < s → mn Y ∉ Y q) ∨ ((ysrc (cE Y) (mn Y) s).2 < s ∧ mn Y ∈ Y (ysrc (cE Y) (mn Y) s).2 ∧ (ysrc (cE Y) (mn Y) s).1 = fi (mn Y) (Y (ysrc (cE Y) (mn Y) s).2) ∧ ∀ q, q < s → mn Y ∈ Y q → lexs Y (ysrc (cE Y) (mn Y) s).2 q)
  | 0, _ => Or.inl ⟨rfl, fun q hq => absurd hq (Nat.not_lt_zero q)⟩
  | s + 1, hs => by
    have ih := ysrc_spec h ht h1 s (by omega)
    have hl := (h.1 s).1
    rw [ysrc_s, yw_cE h ht (by omega), yab_wd (h.1 s) ht h1]
    by_cases m : mn Y ∈ Y s
    · have hf := (fi_in (Y s) m).1
      rw [if_pos m]
      by_cases c : fi (mn Y) (Y s) < (ysrc (cE Y) (mn Y) s).1
      · rw [if_pos c]
        refine Or.inr ⟨Nat.lt_succ_self s, m, rfl, fun q hq hm => ?_⟩
        show lexs Y s q
        by_cases e : q = s
        · rw [e]; exact Or.inr ⟨rfl, Nat.le_refl _⟩
        · rcases ih with ⟨-, i2⟩ | ⟨-, -, i3, i4⟩
          · exact absurd hm (i2 q (by omega))
          · rw [i3] at c
            rcases i4 q (by omega) hm with z | z
            · exact Or.inl (by omega)
            · exact Or.inl (by omega)
      · rw [if_neg c]
        rcases ih with ⟨i1, -⟩ | ⟨i1, i2, i3, i4⟩
        · omega
        · refine Or.inr ⟨by omega, i2, i3, fun q hq hm => ?_⟩
          by_cases e : q = s
          · subst e
            rw [i3] at c
            unfold lexs
            omega
          · exact i4 q (by omega) hm
    · rw [if_neg m]
      have hle := (ysrc_le (cE Y) (mn Y) s).1
      rw [if_neg (by omega)]
      rcases ih with ⟨i1, i2⟩ | ⟨i1, i2, i3, i4⟩
      · refine Or.inl ⟨i1, fun q hq => ?_⟩
        by_cases e : q = s
        · subst e; exact m
        · exact i2 q (by omega)
      · refine Or.inr ⟨by omega, i2, i3, fun q hq hm => ?_⟩
        by_cases e : q = s
        · subst e; exact absurd hm m
        · exact i4 q (by omega) hm
theorem msrc_spec {n t : Nat} {Y : Nat → List Nat} (h : okY n t Y) (ht : t ≤ 4) : ∀ k, k < 4 → ∀ q, q ≤ k → lexs Y (msrc (mE Y) t k) q
  | 0, _, q, hq => by rw [show q = 0 by omega]; exact Or.inr ⟨rfl, Nat.le_refl _⟩
  | k + 1, hk, q, hq => by
    have ih := msrc_spec h ht k (by omega)
    have hm := msrc_le (mE Y) t k
    rw [msrc_s, mabv_mE h ht hk, mabv_mE h ht (by omega)]
    by_cases c : fi (mn Y) (Y (k + 1)) < fi (mn Y) (Y (msrc (mE Y) t k))
    · rw [if_pos c]
      by_cases e : q = k + 1
      · rw [e]; exact Or.inr ⟨rfl, Nat.le_refl _⟩
      · have := ih q (by omega)
        unfold lexs at this ⊢
        omega
    · rw [if_neg c]
      by_cases e : q = k + 1
      · subst e
        unfold lexs
        omega
      · exact ih q (by omega)
theorem src_eq {n t : Nat} {Y : Nat → List Nat} (h : okY n t Y) (ht : t ≤ 4) (hn : 2 ≤ n ∧ n ≤ 4) (h1 : 1 ≤ mn Y) (hex : ∃ s, s < n ∧ mn Y ∈ Y s) : ∃ a, a < n ∧ mn Y ∈ Y a ∧ (∀ q, q < n → mn Y ∈ Y q → fi (mn Y) (Y a) ≤ fi (mn Y) (Y q)) ∧ (ysrc (cE Y) (mn Y) n).2 = a ∧ msrc (mE Y) t (n - 1) = a := by
  obtain ⟨s, hs, hm⟩ := hex
  have hc := ysrc_spec h ht h1 n hn.2
  have hmm := msrc_spec h ht (n - 1) (by omega)
  have hle := msrc_le (mE Y) t (n - 1)
  rcases hc with ⟨-, c2⟩ | ⟨c1, c2, -, c4⟩
  · exact absurd hm (c2 s hs)
  · refine ⟨(ysrc (cE Y) (mn Y) n).2, c1, c2, fun q hq hqm => ?_, rfl, ?_⟩
    · have := c4 q hq hqm
      unfold lexs at this
      omega
    · have f1 := (fi_in _ c2).1
      have l1 := (h.1 (ysrc (cE Y) (mn Y) n).2).1
      have z := hmm (ysrc (cE Y) (mn Y) n).2 (by omega)
      have hin : mn Y ∈ Y (msrc (mE Y) t (n - 1)) := by
        by_cases q : mn Y ∈ Y (msrc (mE Y) t (n - 1))
        · exact q
        · have := fi_out q
          unfold lexs at z
          omega
      have z2 := c4 _ (by omega) hin
      unfold lexs at z z2
      omega
