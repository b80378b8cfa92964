/-! the rule's target -/
def cand (n t fr : Nat) (Y : Nat → List Nat) (q : Nat) : Prop := q < n ∧ q ≠ fr ∧ (Y q).length ≠ t
def fitL (Y : Nat → List Nat) (k q : Nat) : Prop := lmin (Y k) < lmin (Y q) ∨ (lmin (Y k) = lmin (Y q) ∧ k ≤ q)
def opnL (Y : Nat → List Nat) (k q : Nat) : Prop := lmin (Y q) < lmin (Y k) ∨ (lmin (Y q) = lmin (Y k) ∧ k ≤ q)
theorem ytg_fit {n t : Nat} {Y : Nat → List Nat} (h : okY n t Y) (ht : t ≤ 4) (ht0 : 0 < t) (fr rk : Nat) : ∀ s, s ≤ n → s ≤ 4 → ((ytg (cE Y) fr t rk s).1.1 = none ∧ ∀ q, q < s → cand n t fr Y q → ¬ rk ≤ lmin (Y q)) ∨ ∃ k, (ytg (cE Y) fr t rk s).1 = (some k, lmin (Y k)) ∧ k < s ∧ cand n t fr Y k ∧ rk ≤ lmin (Y k) ∧ ∀ q, q < s → cand n t fr Y q → rk ≤ lmin (Y q) → fitL Y k q
  | 0, _, _ => Or.inl ⟨rfl, fun q hq => absurd hq (Nat.not_lt_zero q)⟩
  | s + 1, hs, h4 => by
    have ih := ytg_fit h ht ht0 fr rk s (by omega) (by omega)
    rw [ytg_s]
    by_cases c : s = fr ∨ yr (yw (cE Y) s) (t - 1) ≠ 0
    · rw [if_pos c]
      have nc : ∀ q, q < s + 1 → cand n t fr Y q → q < s := fun q hq hc => by
        rcases Nat.lt_or_ge q s with z | z
        · exact z
        · have : q = s := by omega
          subst this
          rcases c with c | c
          · exact absurd c hc.2.1
          · exact absurd ((full_iff h ht ht0 (by omega)).mp c) hc.2.2
      rcases ih with ⟨i1, i2⟩ | ⟨k, i1, i2, i3, i4, i5⟩
      · exact Or.inl ⟨i1, fun q hq hc => i2 q (nc q hq hc) hc⟩
      · exact Or.inr ⟨k, i1, by omega, i3, i4, fun q hq hc => i5 q (nc q hq hc) hc⟩
    · rw [if_neg c]
      have hc : cand n t fr Y s := ⟨by omega, fun e => c (Or.inl e), fun e => c (Or.inr ((full_iff h ht ht0 (by omega)).mpr e))⟩
      show ((yfit rk (ylo (yw (cE Y) s) 4) s (ytg (cE Y) fr t rk s).1).1 = none ∧ _) ∨ ∃ k, yfit rk (ylo (yw (cE Y) s) 4) s (ytg (cE Y) fr t rk s).1 = _ ∧ _
      rw [yw_cE h ht (by omega), ylo_wd (h.1 s) ht]
      unfold yfit
      rcases ih with ⟨i1, i2⟩ | ⟨k, i1, i2, i3, i4, i5⟩
      · by_cases v : rk ≤ lmin (Y s)
        · rw [if_pos ⟨v, Or.inl i1⟩]
          refine Or.inr ⟨s, rfl, by omega, hc, v, fun q hq hcq hv => ?_⟩
          by_cases e : q = s
          · rw [e]; exact Or.inr ⟨rfl, Nat.le_refl _⟩
          · exact absurd hv (i2 q (by omega) hcq)
        · rw [if_neg (fun z => v z.1)]
          refine Or.inl ⟨i1, fun q hq hcq => ?_⟩
          by_cases e : q = s
          · rw [e]; exact v
          · exact i2 q (by omega) hcq
      · rw [i1]
        by_cases v : rk ≤ lmin (Y s) ∧ lmin (Y s) < lmin (Y k)
        · rw [if_pos ⟨v.1, Or.inr v.2⟩]
          refine Or.inr ⟨s, rfl, by omega, hc, v.1, fun q hq hcq hv => ?_⟩
          by_cases e : q = s
          · rw [e]; exact Or.inr ⟨rfl, Nat.le_refl _⟩
          · have := i5 q (by omega) hcq hv
            unfold fitL at this ⊢
            omega
        · rw [if_neg (fun z => v ⟨z.1, z.2.elim (fun e => nomatch e) id⟩)]
          refine Or.inr ⟨k, rfl, by omega, i3, i4, fun q hq hcq hv => ?_⟩
          by_cases e : q = s
          · subst e
            unfold fitL
            omega
          · exact i5 q (by omega) hcq hv
theorem ytg_opn {n t : Nat} {Y : Nat → List Nat} (h : okY n t Y) (ht : t ≤ 4) (ht0 : 0 < t) (fr rk : Nat) : ∀ s, s ≤ n → s ≤ 4 → ((ytg (cE Y) fr t rk s).2.1 = none ∧ ∀ q, q < s → ¬ cand n t fr Y q) ∨ ∃ k, (ytg (cE Y) fr t rk s).2 = (some k, lmin (Y k)) ∧ k < s ∧ cand n t fr Y k ∧ ∀ q, q < s → cand n t fr Y q → opnL Y k q
  | 0, _, _ => Or.inl ⟨rfl, fun q hq => absurd hq (Nat.not_lt_zero q)⟩
  | s + 1, hs, h4 => by
    have ih := ytg_opn h ht ht0 fr rk s (by omega) (by omega)
    rw [ytg_s]
    by_cases c : s = fr ∨ yr (yw (cE Y) s) (t - 1) ≠ 0
    · rw [if_pos c]
      have nc : ∀ q, q < s + 1 → cand n t fr Y q → q < s := fun q hq hc => by
        rcases Nat.lt_or_ge q s with z | z
        · exact z
        · have : q = s := by omega
          subst this
          rcases c with c | c
          · exact absurd c hc.2.1
          · exact absurd ((full_iff h ht ht0 (by omega)).mp c) hc.2.2
      rcases ih with ⟨i1, i2⟩ | ⟨k, i1, i2, i3, i5⟩
      · exact Or.inl ⟨i1, fun q hq hc => i2 q (nc q hq hc) hc⟩
      · exact Or.inr ⟨k, i1, by omega, i3, fun q hq hc => i5 q (nc q hq hc) hc⟩
    · rw [if_neg c]
      have hc : cand n t fr Y s := ⟨by omega, fun e => c (Or.inl e), fun e => c (Or.inr ((full_iff h ht ht0 (by omega)).mpr e))⟩
      show ((yopn (ylo (yw (cE Y) s) 4) s (ytg (cE Y) fr t rk s).2).1 = none ∧ _) ∨ ∃ k, yopn (ylo (yw (cE Y) s) 4) s (ytg (cE Y) fr t rk s).2 = _ ∧ _
      rw [yw_cE h ht (by omega), ylo_wd (h.1 s) ht]
      unfold yopn
      rcases ih with ⟨i1, i2⟩ | ⟨k, i1, i2, i3, i5⟩
      · rw [if_pos (Or.inl i1)]
        refine Or.inr ⟨s, rfl, by omega, hc, fun q hq hcq => ?_⟩
        by_cases e : q = s
        · rw [e]; exact Or.inr ⟨rfl, Nat.le_refl _⟩
        · exact absurd hcq (i2 q (by omega))
      · rw [i1]
        by_cases v : lmin (Y k) < lmin (Y s)
        · rw [if_pos (Or.inr v)]
          refine Or.inr ⟨s, rfl, by omega, hc, fun q hq hcq => ?_⟩
          by_cases e : q = s
          · rw [e]; exact Or.inr ⟨rfl, Nat.le_refl _⟩
          · have := i5 q (by omega) hcq
            unfold opnL at this ⊢
            omega
        · rw [if_neg (fun z => v (z.elim (fun e => nomatch e) id))]
          refine Or.inr ⟨k, rfl, by omega, i3, fun q hq hcq => ?_⟩
          by_cases e : q = s
          · subst e
            unfold opnL
            omega
          · exact i5 q (by omega) hcq
theorem mlo_spec (x s : Nat) : ∀ k, (∀ j, j < k → yr x (4 * s + j) ≠ 0 → mlo x s k ≤ yr x (4 * s + j)) ∧ mlo x s k ≤ 9 ∧ (mlo x s k = 9 ∨ ∃ j, j < k ∧ yr x (4 * s + j) = mlo x s k ∧ yr x (4 * s + j) ≠ 0)
  | 0 => ⟨fun j hj => absurd hj (Nat.not_lt_zero j), Nat.le_refl 9, Or.inl rfl⟩
  | k + 1 => by
    obtain ⟨h1, h2, h3⟩ := mlo_spec x s k
    rw [mlo_s]
    by_cases c : 0 < yr x (4 * s + k) ∧ yr x (4 * s + k) < mlo x s k
    · rw [if_pos c]
      refine ⟨fun j hj hne => ?_, by omega, Or.inr ⟨k, by omega, rfl, by omega⟩⟩
      by_cases e : j = k
      · rw [e]; exact Nat.le_refl _
      · have := h1 j (by omega) hne; omega
    · rw [if_neg c]
      refine ⟨fun j hj hne => ?_, h2, h3.imp id (fun ⟨j, a, b⟩ => ⟨j, by omega, b⟩)⟩
      by_cases e : j = k
      · subst e; omega
      · exact h1 j (by omega) hne
def up7 (v : Nat) : Nat := if v = 7 then 9 else v
theorem lmin_ne {t : Nat} {l : List Nat} (h : okl t l) (hne : l ≠ []) : lmin l ∈ l ∧ lmin l ≤ 6 := by
  cases l with
  | nil => exact absurd rfl hne
  | cons a r =>
    have h1 := lmin_le (a :: r) a List.mem_cons_self
    have h2 := (h.2 a List.mem_cons_self).2
    rcases lmin_in (a :: r) with q | q
    · omega
    · exact ⟨q, by omega⟩
theorem mlo_mE {n t : Nat} {Y : Nat → List Nat} (h : okY n t Y) (ht : t ≤ 4) {s : Nat} (hs : s < 4) : mlo (mE Y) s t = up7 (lmin (Y s)) := by
  obtain ⟨h1, h2, h3⟩ := mlo_spec (mE Y) s t
  have hk := h.1 s
  have hd : ∀ j, j < t → yr (mE Y) (4 * s + j) = (Y s).reverse.getD j 0 := fun j hj => yr_mE h ht hs (by omega)
  unfold up7
  by_cases e : Y s = []
  · rw [e, if_pos (show lmin [] = 7 from rfl)]
    rcases h3 with q | ⟨j, hj, a, b⟩
    · exact q
    · rw [hd j hj, e] at b
      exact absurd (by simp) b
  · obtain ⟨m1, m2⟩ := lmin_ne hk e
    rw [if_neg (by omega)]
    obtain ⟨j, hj, hv⟩ := mem_getD (List.mem_reverse.mpr m1)
    rw [List.length_reverse] at hj
    have hl := hk.1
    have r1 := (hk.2 _ m1).1
    have up := h1 j (by omega) (by rw [hd j (by omega), hv]; omega)
    rw [hd j (by omega), hv] at up
    rcases h3 with q | ⟨i, hi, a, b⟩
    · omega
    · rw [hd i hi] at a b
      have hm : (Y s).reverse.getD i 0 ∈ Y s := List.mem_reverse.mp (getD_mem b)
      have := lmin_le _ _ hm
      omega
theorem mtg_fit {n t : Nat} {Y : Nat → List Nat} (h : okY n t Y) (ht : t ≤ 4) (hn : n ≤ 4) {fr rk : Nat} (hr : rk ≤ 6) : ∀ i, i ≤ n → ((mtg (mE Y) fr rk n t i).1 = none ∧ ∀ q, n - i ≤ q → cand n t fr Y q → ¬ rk ≤ lmin (Y q)) ∨ ∃ k, (mtg (mE Y) fr rk n t i).1 = some k ∧ n - i ≤ k ∧ cand n t fr Y k ∧ rk ≤ lmin (Y k) ∧ ∀ q, n - i ≤ q → cand n t fr Y q → rk ≤ lmin (Y q) → fitL Y k q
  | 0, _ => Or.inl ⟨rfl, fun q hq hc => by have := hc.1; omega⟩
  | i + 1, hi => by
    have ih := mtg_fit h ht hn (fr := fr) hr i (by omega)
    have h7 : ∀ q, lmin (Y q) ≤ 7 := fun q => lmin_7 _
    rw [mtg_s, mht_mE h ht (show n - 1 - i < 4 by omega)]
    by_cases c : n - 1 - i = fr ∨ (Y (n - 1 - i)).length = t
    · rw [if_pos c]
      have nc : ∀ q, n - (i + 1) ≤ q → cand n t fr Y q → n - i ≤ q := fun q hq hc => by
        by_cases z : n - i ≤ q
        · exact z
        · have : q = n - 1 - i := by omega
          rw [this] at hc
          rcases c with c | c
          · exact absurd c hc.2.1
          · exact absurd c hc.2.2
      rcases ih with ⟨i1, i2⟩ | ⟨k, i1, i2, i3, i4, i5⟩
      · exact Or.inl ⟨i1, fun q hq hc => i2 q (nc q hq hc) hc⟩
      · exact Or.inr ⟨k, i1, by omega, i3, i4, fun q hq hc => i5 q (nc q hq hc) hc⟩
    · rw [if_neg c]
      have hc : cand n t fr Y (n - 1 - i) := ⟨by omega, fun e => c (Or.inl e), fun e => c (Or.inr e)⟩
      show ((mfit (mE Y) t rk (n - 1 - i) (mtg (mE Y) fr rk n t i).1) = none ∧ _) ∨ ∃ k, mfit (mE Y) t rk (n - 1 - i) (mtg (mE Y) fr rk n t i).1 = _ ∧ _
      unfold mfit
      rw [mlo_mE h ht (show n - 1 - i < 4 by omega)]
      have hs7 := h7 (n - 1 - i)
      have hup : rk ≤ up7 (lmin (Y (n - 1 - i))) ↔ rk ≤ lmin (Y (n - 1 - i)) := by
        unfold up7
        by_cases z : lmin (Y (n - 1 - i)) = 7
        · rw [if_pos z]; omega
        · rw [if_neg z]
      have h9 : up7 (lmin (Y (n - 1 - i))) ≤ 9 := by
        unfold up7
        by_cases z : lmin (Y (n - 1 - i)) = 7
        · rw [if_pos z]; omega
        · rw [if_neg z]; omega
      rcases ih with ⟨i1, i2⟩ | ⟨k, i1, i2, i3, i4, i5⟩
      · rw [i1]
        by_cases v : rk ≤ lmin (Y (n - 1 - i))
        · rw [if_pos ⟨hup.mpr v, show _ ≤ 100 by omega⟩]
          refine Or.inr ⟨n - 1 - i, rfl, by omega, hc, v, fun q hq hcq hv => ?_⟩
          by_cases e : q = n - 1 - i
          · rw [e]; exact Or.inr ⟨rfl, Nat.le_refl _⟩
          · exact absurd hv (i2 q (by omega) hcq)
        · rw [if_neg (fun z => v (hup.mp z.1))]
          refine Or.inl ⟨rfl, fun q hq hcq => ?_⟩
          by_cases e : q = n - 1 - i
          · rw [e]; exact v
          · exact i2 q (by omega) hcq
      · rw [i1]
        have hk4 := i3.1
        have hk7 := h7 k
        have hle : up7 (lmin (Y (n - 1 - i))) ≤ mq1 (mE Y) t (some k) ↔ lmin (Y (n - 1 - i)) ≤ lmin (Y k) := by
          show _ ≤ mlo (mE Y) k t ↔ _
          rw [mlo_mE h ht (show k < 4 by omega)]
          unfold up7
          by_cases z : lmin (Y (n - 1 - i)) = 7
          · rw [if_pos z]
            by_cases y : lmin (Y k) = 7
            · rw [if_pos y]; omega
            · rw [if_neg y]; omega
          · rw [if_neg z]
            by_cases y : lmin (Y k) = 7
            · rw [if_pos y]; omega
            · rw [if_neg y]
        by_cases v : rk ≤ lmin (Y (n - 1 - i)) ∧ lmin (Y (n - 1 - i)) ≤ lmin (Y k)
        · rw [if_pos ⟨hup.mpr v.1, hle.mpr v.2⟩]
          refine Or.inr ⟨n - 1 - i, rfl, by omega, hc, v.1, fun q hq hcq hv => ?_⟩
          by_cases e : q = n - 1 - i
          · rw [e]; exact Or.inr ⟨rfl, Nat.le_refl _⟩
          · have := i5 q (by omega) hcq hv
            unfold fitL at this ⊢
            omega
        · rw [if_neg (fun z => v ⟨hup.mp z.1, hle.mp z.2⟩)]
          refine Or.inr ⟨k, rfl, by omega, i3, i4, fun q hq hcq hv => ?_⟩
          by_cases e : q = n - 1 - i
          · rw [e] at hv ⊢
            unfold fitL
            omega
          · exact i5 q (by omega) hcq hv
theorem mtg_opn {n t : Nat} {Y : Nat → List Nat} (h : okY n t Y) (ht : t ≤ 4) (hn : n ≤ 4) {fr rk : Nat} : ∀ i, i ≤ n → ((mtg (mE Y) fr rk n t i).2 = none ∧ ∀ q, n - i ≤ q → ¬ cand n t fr Y q) ∨ ∃ k, (mtg (mE Y) fr rk n t i).2 = some k ∧ n - i ≤ k ∧ cand n t fr Y k ∧ ∀ q, n - i ≤ q → cand n t fr Y q → opnL Y k q
  | 0, _ => Or.inl ⟨rfl, fun q hq hc => by have := hc.1; omega⟩
  | i + 1, hi => by
    have ih := mtg_opn h ht hn (fr := fr) (rk := rk) i (by omega)
    have h7 : ∀ q, lmin (Y q) ≤ 7 := fun q => lmin_7 _
    rw [mtg_s, mht_mE h ht (show n - 1 - i < 4 by omega)]
    by_cases c : n - 1 - i = fr ∨ (Y (n - 1 - i)).length = t
    · rw [if_pos c]
      have nc : ∀ q, n - (i + 1) ≤ q → cand n t fr Y q → n - i ≤ q := fun q hq hc => by
        by_cases z : n - i ≤ q
        · exact z
        · have : q = n - 1 - i := by omega
          rw [this] at hc
          rcases c with c | c
          · exact absurd c hc.2.1
          · exact absurd c hc.2.2
      rcases ih with ⟨i1, i2⟩ | ⟨k, i1, i2, i3, i5⟩
      · exact Or.inl ⟨i1, fun q hq hc => i2 q (nc q hq hc) hc⟩
      · exact Or.inr ⟨k, i1, by omega, i3, fun q hq hc => i5 q (nc q hq hc) hc⟩
    · rw [if_neg c]
      have hc : cand n t fr Y (n - 1 - i) := ⟨by omega, fun e => c (Or.inl e), fun e => c (Or.inr e)⟩
      show ((mopn (mE Y) t (n - 1 - i) (mtg (mE Y) fr rk n t i).2) = none ∧ _) ∨ ∃ k, mopn (mE Y) t (n - 1 - i) (mtg (mE Y) fr rk n t i).2 = _ ∧ _
      unfold mopn
      rw [mlo_mE h ht (show n - 1 - i < 4 by omega)]
      have hs7 := h7 (n - 1 - i)
      rcases ih with ⟨i1, i2⟩ | ⟨k, i1, i2, i3, i5⟩
      · rw [i1, if_pos (show mq0 (mE Y) t none ≤ up7 (lmin (Y (n - 1 - i))) from Nat.zero_le _)]
        refine Or.inr ⟨n - 1 - i, rfl, by omega, hc, fun q hq hcq => ?_⟩
        by_cases e : q = n - 1 - i
        · rw [e]; exact Or.inr ⟨rfl, Nat.le_refl _⟩
        · exact absurd hcq (i2 q (by omega))
      · rw [i1]
        have hk4 := i3.1
        have hk7 := h7 k
        have hle : mq0 (mE Y) t (some k) ≤ up7 (lmin (Y (n - 1 - i))) ↔ lmin (Y k) ≤ lmin (Y (n - 1 - i)) := by
          show mlo (mE Y) k t ≤ _ ↔ _
          rw [mlo_mE h ht (show k < 4 by omega)]
          unfold up7
          by_cases z : lmin (Y (n - 1 - i)) = 7
          · rw [if_pos z]
            by_cases y : lmin (Y k) = 7
            · rw [if_pos y]; omega
            · rw [if_neg y]; omega
          · rw [if_neg z]
            by_cases y : lmin (Y k) = 7
            · rw [if_pos y]; omega
            · rw [if_neg y]
        by_cases v : lmin (Y k) ≤ lmin (Y (n - 1 - i))
        · rw [if_pos (hle.mpr v)]
          refine Or.inr ⟨n - 1 - i, rfl, by omega, hc, fun q hq hcq => ?_⟩
          by_cases e : q = n - 1 - i
          · rw [e]; exact Or.inr ⟨rfl, Nat.le_refl _⟩
          · have := i5 q (by omega) hcq
            unfold opnL at this ⊢
            omega
        · rw [if_neg (fun z => v (hle.mp z))]
          refine Or.inr ⟨k, rfl, by omega, i3, fun q hq hcq => ?_⟩
          by_cases e : q = n - 1 - i
          · rw [e]
            unfold opnL
            omega
          · exact i5 q (by omega) hcq
theorem tgt_eq {n t : Nat} {Y : Nat → List Nat} (h : okY n t Y) (ht : 2 ≤ t ∧ t ≤ 4) (hn : n ≤ 4) {fr rk : Nat} (hr : rk ≤ 6) (he : yr (yw (cE Y) fr) 0 = rk) : ytgt (cE Y) fr n t = mtgt (mE Y) fr rk n t ∧ ∀ k, ytgt (cE Y) fr n t = some k → cand n t fr Y k := by
  have c1 := ytg_fit h ht.2 (by omega) fr rk n (Nat.le_refl n) hn
  have c2 := ytg_opn h ht.2 (by omega) fr rk n (Nat.le_refl n) hn
  have m1 := mtg_fit h ht.2 hn (fr := fr) hr n (Nat.le_refl n)
  have m2 := mtg_opn h ht.2 hn (fr := fr) (rk := rk) n (Nat.le_refl n)
  have e1 : (ytg (cE Y) fr t rk n).1.1 = (mtg (mE Y) fr rk n t n).1 := by
    rcases c1 with ⟨a1, a2⟩ | ⟨k, a1, a2, a3, a4, a5⟩ <;> rcases m1 with ⟨b1, b2⟩ | ⟨l, b1, b2, b3, b4, b5⟩
    · rw [a1, b1]
    · exact absurd b4 (a2 l b3.1 b3)
    · exact absurd a4 (b2 k (by omega) a3)
    · rw [a1, b1]
      have x1 := a5 l b3.1 b3 b4
      have x2 := b5 k (by omega) a3 a4
      unfold fitL at x1 x2
      show some k = some l
      congr 1
      omega
  have e2 : (ytg (cE Y) fr t rk n).2.1 = (mtg (mE Y) fr rk n t n).2 := by
    rcases c2 with ⟨a1, a2⟩ | ⟨k, a1, a2, a3, a5⟩ <;> rcases m2 with ⟨b1, b2⟩ | ⟨l, b1, b2, b3, b5⟩
    · rw [a1, b1]
    · exact absurd b3 (a2 l b3.1)
    · exact absurd a3 (b2 k (by omega))
    · rw [a1, b1]
      have x1 := a5 l b3.1 b3
      have x2 := b5 k (by omega) a3
      unfold opnL at x1 x2
      show some k = some l
      congr 1
      omega
  unfold ytgt mtgt
  rw [he, e1, e2]
  refine ⟨rfl, fun k hk => ?_⟩
  rw [← e1, ← e2] at hk
  split at hk
  · rcases c2 with ⟨a1, a2⟩ | ⟨l, a1, a2, a3, a5⟩
    · rw [a1] at hk; cases hk
    · rw [a1] at hk; cases hk; exact a3
  · rcases c1 with ⟨a1, a2⟩ | ⟨l, a1, a2, a3, a4, a5⟩
    · rw [a1] at hk; cases hk
    · rw [a1] at hk; cases hk; exact a3
/-! the rule's end -/
theorem lv_of_nf {Y : Nat → List Nat} (h : nf Y) : lv Y = Y := (lv_eq (l := []) rfl h).symm
theorem lv_less {Y : Nat → List Nat} (h : ¬ nf Y) : bxY (lv Y) < bxY Y := by
  cases hf : ftp Y with
  | none => exact absurd (ftp_none hf) h
  | some s =>
    have ht := ftp_some hf
    have hb := bx_rm ht.1 (tp_ne ht)
    unfold lv
    rw [← hb, lvf_some hf, lvf_lv (Nat.le_refl _)]
    have := lv_bx (rm Y s)
    omega
theorem rule_eq {n t : Nat} (hn : 2 ≤ n ∧ n ≤ 4) (ht : 2 ≤ t ∧ t ≤ 4) : ∀ (f made : Nat) (Y : Nat → List Nat), okY n t Y → bxY Y ≤ 6 → nf Y → ((bxY Y = 0 ∧ 0 < f) ∨ ∃ a, a < n ∧ mn Y ∈ Y a ∧ 4 * bxY Y + fi (mn Y) (Y a) < f) → mrl n t f made (mE Y) = some (yrl n t f made (cE Y))
  | 0, made, Y, _, _, _, h => by
    rcases h with ⟨-, h⟩ | ⟨a, -, -, h⟩
    · exact absurd h (Nat.lt_irrefl 0)
    · omega
  | f + 1, made, Y, hY, hb, hnf, h => by
    by_cases he : ∀ s, s < 4 → Y s = []
    · rw [mrl_s, if_pos ((mE_0 hY ht.2).mpr he)]
      show _ = some (if cE Y = 0 then some made else _)
      rw [if_pos ((cE_0 hY ht.2).mpr he)]
    · have hbx : bxY Y ≠ 0 := fun z => he (fun s hs => by
        unfold bxY at z
        apply List.eq_nil_of_length_eq_zero
        rcases (show s = 0 ∨ s = 1 ∨ s = 2 ∨ s = 3 by omega) with rfl | rfl | rfl | rfl <;> omega)
      obtain ⟨a0, ha0, hm0, hf0⟩ := h.resolve_left (fun z => hbx z.1)
      have h1 : 1 ≤ mn Y := ((hY.1 a0).2 _ hm0).1
      obtain ⟨a, ha, hma, hmin, hsc, hsm⟩ := src_eq hY ht.2 hn h1 ⟨a0, ha0, hm0⟩
      have hfa := hmin a0 ha0 hm0
      have hne : Y a ≠ [] := fun z => by rw [z] at hma; exact nomatch hma
      have hlen : (Y a).length ≠ 0 := fun z => hne (List.eq_nil_of_length_eq_zero z)
      obtain ⟨x, l, hxl⟩ : ∃ x l, Y a = x :: l := by
        cases hq : Y a with
        | nil => exact absurd hq hne
        | cons x l => exact ⟨x, l, rfl⟩
      have htop : yr (mE Y) (4 * a + ((Y a).length - 1)) = x := mtop_mE hY ht.2 (by omega) hxl
      have htopc : yr (yw (cE Y) a) 0 = x := by rw [yr_top hY ht.2 (by omega), hxl]; rfl
      have hx6 : x ≤ 6 := ((hY.1 a).2 x (by rw [hxl]; exact List.mem_cons_self)).2
      obtain ⟨htg, hcd⟩ := tgt_eq hY ht hn.2 (fr := a) hx6 htopc
      rw [mrl_s, if_neg (fun z => he ((mE_0 hY ht.2).mp z)), hsm, mht_mE hY ht.2 (show a < 4 by omega), if_neg hlen, htop, ← htg]
      show _ = some (if cE Y = 0 then some made else _)
      rw [if_neg (fun z => he ((cE_0 hY ht.2).mp z)), ylo_cE hY ht.2, hsc]
      cases hq : ytgt (cE Y) a n t with
      | none => rfl
      | some q =>
        obtain ⟨q1, q2, q3⟩ := hcd q hq
        have hl := (hY.1 q).1
        have hok := okY_mv hY (Ne.symm q2) q1 hne (by omega)
        have hbm := bx_mv (Y := Y) (a := a) (b := q) (by omega) (by omega) hne
        show mrl n t f (made + 1) (mleft n t (mmv (mE Y) a q t)) = some (yrl n t f (made + 1) (yaf 6 (yshift (cE Y) a q)))
        rw [mmv_mE hY ht.2 hn.2 (by omega) (Ne.symm q2) q1 hne (by omega), yshift_cE hY ht.2 hn.2 (by omega) (Ne.symm q2) q1 hne (by omega), mleft_lv hok ht.2 hn.2, yaf_lv hok ht.2 (by omega)]
        have hlb := lv_bx (mv Y a q)
        refine rule_eq hn ht f (made + 1) (lv (mv Y a q)) (lv_ok hok) (by omega) (lv_nf _) ?_
        have hxm : x ≠ mn Y := fun z => hnf a ⟨by omega, by rw [hxl, z]; rfl⟩
        have hml : mn Y ∈ l := by
          rw [hxl] at hma
          exact (List.mem_cons.mp hma).resolve_left (fun z => hxm z.symm)
        have hfi : fi (mn Y) (Y a) = fi (mn Y) l + 1 := by
          rw [hxl]
          show (if x = mn Y then 0 else if mn Y ∈ l then fi (mn Y) l + 1 else 9) = _
          rw [if_neg hxm, if_pos hml]
        by_cases hnm : nf (mv Y a q)
        · rw [lv_of_nf hnm]
          have hta : mv Y a q a = l := by
            unfold mv
            rw [pu_n (Ne.symm q2), rm_s, hxl]
            rfl
          have hmn : mn (mv Y a q) = mn Y := by
            refine mn_uni (fun s r hs hr => ?_) (mn_7 Y) (Or.inr ⟨a, by omega, by rw [hta]; exact hml⟩)
            by_cases e : s = q
            · subst e
              unfold mv at hr
              rw [pu_s] at hr
              rcases List.mem_cons.mp hr with z | z
              · rw [z, hxl]; exact mn_le (show a < 4 by omega) (by rw [hxl]; exact List.mem_cons_self)
              · exact mn_le hs (mem_rm z)
            · unfold mv at hr
              rw [pu_n e] at hr
              exact mn_le hs (mem_rm hr)
          refine Or.inr ⟨a, ha, by rw [hmn, hta]; exact hml, ?_⟩
          rw [hmn, hta]
          omega
        · have hls := lv_less hnm
          by_cases hz : bxY (lv (mv Y a q)) = 0
          · exact Or.inl ⟨hz, by omega⟩
          · have hokl := lv_ok hok
            have hex : ∃ s, s < 4 ∧ lv (mv Y a q) s ≠ [] := by
              unfold bxY at hz
              by_cases z0 : lv (mv Y a q) 0 = []
              · by_cases z1 : lv (mv Y a q) 1 = []
                · by_cases z2 : lv (mv Y a q) 2 = []
                  · refine ⟨3, by omega, fun z3 => hz ?_⟩
                    rw [z0, z1, z2, z3]; rfl
                  · exact ⟨2, by omega, z2⟩
                · exact ⟨1, by omega, z1⟩
              · exact ⟨0, by omega, z0⟩
            obtain ⟨s, hs, hsn⟩ := hex
            obtain ⟨g1, g2⟩ := lmin_ne (hokl.1 s) hsn
            have hle := mn_le hs g1
            rcases mn_in (lv (mv Y a q)) with z | ⟨s', hs', hin⟩
            · omega
            · have hsn' : s' < n := Nat.lt_of_not_le (fun z => by rw [hokl.2 s' z] at hin; exact nomatch hin)
              have h3 := (fi_in _ hin).1
              have h4 := (hokl.1 s').1
              exact Or.inr ⟨s', hsn', hin, by omega⟩
