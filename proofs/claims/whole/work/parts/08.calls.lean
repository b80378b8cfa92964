/-! arguments that are any ints; what the simple calls answer -/
theorem stk_nat {n : Nat} {i : Int32} (hn : n < 1000) (h : ¬ i < 0 ∧ i < nI n) : ∃ s, s < n ∧ i = nI s := by
  obtain ⟨j, hj, rfl⟩ := nI_of h.1
  exact ⟨j, (nI_ltI hj (by omega)).mp h.2, rfl⟩
theorem stk_of {n s : Nat} (hs : s < n) (hn : n < 1000) : ¬ nI s < 0 ∧ nI s < nI n := ⟨nI_pos (by omega), nI_lt hs (by omega)⟩
theorem rng_nat {g : Int32} (h1 : ¬ g < nI 1) (h2 : ¬ nI 20 < g) : ∃ j, 1 ≤ j ∧ j ≤ 20 ∧ g = nI j := by
  have h0 : ¬ g < 0 := fun q => h1 (by
    rw [Int32.lt_iff_toInt_lt] at q ⊢
    have a : (nI 1).toInt = 1 := by decide
    have b : (0 : Int32).toInt = 0 := by decide
    omega)
  obtain ⟨j, hj, rfl⟩ := nI_of h0
  refine ⟨j, ?_, ?_, rfl⟩
  · exact Nat.le_of_not_lt (fun q => h1 (nI_lt q (by decide)))
  · exact Nat.le_of_not_lt (fun q => h2 (nI_lt q hj))
theorem tn {s : Nat} (h : s < 2147483648) : (nI s).toNatClampNeg = s := nI_clamp h
/-- how put ends: 0, or which exception -/
def kput (n t : Nat) (G : Nat → Nat) (i g : Int32) : Nat :=
  if ¬ (¬ i < 0 ∧ i < nI n) then 1 else if g < nI 1 ∨ nI 20 < g then 2 else if fz (fun j => G (4 * i.toNatClampNeg + j)) t 0 = t ∨ bxs G 16 = 6 then 3 else 0
def vput (t : Nat) (G : Nat → Nat) (i : Int32) : Nat := fz (fun j => G (4 * i.toNatClampNeg + j)) t 0 + 1
def gput (t : Nat) (G : Nat → Nat) (i g : Int32) : Nat → Nat := upN G (4 * i.toNatClampNeg + fz (fun j => G (4 * i.toNatClampNeg + j)) t 0) g.toNatClampNeg
def koff (n t : Nat) (G : Nat → Nat) (i : Int32) : Nat :=
  if ¬ (¬ i < 0 ∧ i < nI n) then 1 else if fz (fun j => G (4 * i.toNatClampNeg + j)) t 0 = 0 then 2 else 0
def voff (t : Nat) (G : Nat → Nat) (i : Int32) : Nat := G (4 * i.toNatClampNeg + (fz (fun j => G (4 * i.toNatClampNeg + j)) t 0 - 1))
def goff (t : Nat) (G : Nat → Nat) (i : Int32) : Nat → Nat := upN G (4 * i.toNatClampNeg + (fz (fun j => G (4 * i.toNatClampNeg + j)) t 0 - 1)) 0
def kat (n t : Nat) (i j : Int32) : Nat := if (¬ i < 0 ∧ i < nI n) ∧ (¬ j < 0 ∧ j < nI t) then 0 else 1
def ktr (n : Nat) (i j : Int32) : Nat := if (¬ i < 0 ∧ i < nI n) ∧ (¬ j < 0 ∧ j < nI n) then 0 else 1
def vtr (a b : Nat) : Nat := 2 + (a - b + (b - a))
def kmv (kp my : Nat) (i j : Int32) : Nat := if kp ≠ 0 ∧ (¬ i < 0 ∧ i < nI my) ∧ (¬ j < 0 ∧ j < nI 3) then 0 else 1
def vmv (F T M : Nat → Nat) (i j : Nat) : Nat := if j = 0 then F i else if j = 1 then T i else M i
/-- which groups are there, numbered -/
def nwr (G GO : Nat → Nat) : Nat → Nat × (Nat → Nat)
  | 0 => (0, GO)
  | k + 1 => if anb (fun j => decide (G j = k + 1)) 16 = true then ((nwr G GO k).1 + 1, upN (nwr G GO k).2 ((nwr G GO k).1 + 1) (k + 1)) else nwr G GO k
theorem nwr_s (G GO : Nat → Nat) (k : Nat) : nwr G GO (k + 1) = if anb (fun j => decide (G j = k + 1)) 16 = true then ((nwr G GO k).1 + 1, upN (nwr G GO k).2 ((nwr G GO k).1 + 1) (k + 1)) else nwr G GO k := rfl
theorem nwr_mono (G GO : Nat → Nat) {a b : Nat} (h : a ≤ b) : (nwr G GO a).1 ≤ (nwr G GO b).1 := by
  induction h with
  | refl => exact Nat.le_refl _
  | step _ ih =>
    rw [nwr_s]
    split
    · exact Nat.le_succ_of_le ih
    · exact ih
theorem nwr_lt (G GO : Nat → Nat) (h : ∀ j, GO j < 2147483648) : ∀ k, k ≤ 20 → ∀ j, (nwr G GO k).2 j < 2147483648
  | 0, _, j => h j
  | k + 1, hk, j => by
    have ih := nwr_lt G GO h k (by omega) j
    rw [nwr_s]
    split
    · show upN _ _ _ j < _
      unfold upN
      split <;> omega
    · exact ih
def nwv (G GO : Nat → Nat) (r k : Nat) : Nat := if 0 < G k then rkf GO (G k) r else 0
def nwy (G GO : Nat → Nat) (r : Nat) : Nat → Nat
  | 0 => 0
  | k + 1 => nwy G GO r k + nwv G GO r k * 2 ^ (k * 3)
theorem nwv_lt {G GO : Nat → Nat} {r : Nat} (hr : r ≤ 6) (k : Nat) : nwv G GO r k < 8 := by
  unfold nwv
  have := rkf_le GO (G k) r
  split <;> omega
theorem nwy_lt {G GO : Nat → Nat} {r : Nat} (hr : r ≤ 6) : ∀ k, nwy G GO r k < 2 ^ (k * 3)
  | 0 => by show 0 < 2 ^ 0; decide
  | k + 1 => by
    have ih := nwy_lt (G := G) (GO := GO) hr k
    have hv := nwv_lt (G := G) (GO := GO) hr k
    unfold nwy
    rw [show (k + 1) * 3 = k * 3 + 3 by omega, Nat.pow_add]
    have : nwv G GO r k * 2 ^ (k * 3) ≤ 7 * 2 ^ (k * 3) := Nat.mul_le_mul_right _ (by omega)
    omega
theorem nwy_48 {G GO : Nat → Nat} {r : Nat} (hr : r ≤ 6) : nwy G GO r 16 < 2 ^ 48 := nwy_lt hr 16
theorem nwy_or {G GO : Nat → Nat} {r k : Nat} (hr : r ≤ 6) (hk : k < 16) : lN (nwy G GO r k) ||| lN (nwv G GO r k * 2 ^ (3 * k)) = lN (nwy G GO r (k + 1)) := by
  have h1 := nwy_lt (G := G) (GO := GO) hr k
  have h2 := nwv_lt (G := G) (GO := GO) hr k
  have hj : 2 ^ (k * 3) ≤ 2 ^ 45 := Nat.pow_le_pow_right (by decide) (by omega)
  have hm : nwv G GO r k * 2 ^ (k * 3) ≤ 7 * 2 ^ 45 := Nat.mul_le_mul (by omega) hj
  rw [Nat.mul_comm 3]
  refine lN_or (w := 3) ?_ h2 (by omega) (by omega)
  rw [Nat.div_eq_of_lt h1]
theorem kput0 {n t : Nat} {G : Nat → Nat} {i g : Int32} (hn : n ≤ 4) (h : kput n t G i g = 0) : ∃ s g0, s < n ∧ i = nI s ∧ 1 ≤ g0 ∧ g0 ≤ 20 ∧ g = nI g0 ∧ fz (fun j => G (4 * s + j)) t 0 < t ∧ bxs G 16 ≠ 6 := by
  unfold kput at h
  split at h
  · exact absurd h (by decide)
  · next h1 =>
    split at h
    · exact absurd h (by decide)
    · next h2 =>
      split at h
      · exact absurd h (by decide)
      · next h3 =>
        obtain ⟨s, hs, rfl⟩ := stk_nat (by omega) (Classical.byContradiction h1)
        obtain ⟨g0, a, b, rfl⟩ := rng_nat (fun q => h2 (Or.inl q)) (fun q => h2 (Or.inr q))
        rw [tn (by omega)] at h3
        have := (fz_ok (fun j => G (4 * s + j)) t 0).2.1
        exact ⟨s, g0, hs, rfl, a, b, rfl, by rcases Nat.lt_or_ge (fz (fun j => G (4 * s + j)) t 0) t with q | q; exact q; exact absurd (Or.inl (by omega)) h3, fun q => h3 (Or.inr q)⟩
theorem kput_le {n t : Nat} {G : Nat → Nat} {i g : Int32} : kput n t G i g ≤ 3 := by
  unfold kput
  repeat (first | omega | split)
theorem koff0 {n t : Nat} {G : Nat → Nat} {i : Int32} (hn : n ≤ 4) (h : koff n t G i = 0) : ∃ s, s < n ∧ i = nI s ∧ fz (fun j => G (4 * s + j)) t 0 ≠ 0 := by
  unfold koff at h
  split at h
  · exact absurd h (by decide)
  · next h1 =>
    split at h
    · exact absurd h (by decide)
    · next h2 =>
      obtain ⟨s, hs, rfl⟩ := stk_nat (by omega) (Classical.byContradiction h1)
      rw [tn (by omega)] at h2
      exact ⟨s, hs, rfl, h2⟩
theorem koff_le {n t : Nat} {G : Nat → Nat} {i : Int32} : koff n t G i ≤ 2 := by
  unfold koff
  repeat (first | omega | split)
theorem kat0 {n t : Nat} {i j : Int32} (hn : n ≤ 4) (ht : t ≤ 4) (h : kat n t i j = 0) : ∃ a b, a < n ∧ i = nI a ∧ b < t ∧ j = nI b := by
  unfold kat at h
  split at h
  · next q =>
    obtain ⟨a, h1, e1⟩ := stk_nat (by omega) q.1
    obtain ⟨b, h2, e2⟩ := stk_nat (by omega) q.2
    exact ⟨a, b, h1, e1, h2, e2⟩
  · exact absurd h (by decide)
theorem kat_le {n t : Nat} {i j : Int32} : kat n t i j ≤ 1 := by
  unfold kat
  split <;> omega
theorem ktr0 {n : Nat} {i j : Int32} (hn : n ≤ 4) (h : ktr n i j = 0) : ∃ a b, a < n ∧ i = nI a ∧ b < n ∧ j = nI b := kat0 hn hn h
theorem kmv0 {kp my : Nat} {i j : Int32} (hm : my ≤ 31) (h : kmv kp my i j = 0) : kp ≠ 0 ∧ ∃ a b, a < my ∧ i = nI a ∧ b < 3 ∧ j = nI b := by
  unfold kmv at h
  split at h
  · next q =>
    obtain ⟨a, h1, e1⟩ := stk_nat (by omega) q.2.1
    obtain ⟨b, h2, e2⟩ := stk_nat (by omega) q.2.2
    exact ⟨q.1, a, b, h1, e1, h2, e2⟩
  · exact absurd h (by decide)
theorem kmv_le {kp my : Nat} {i j : Int32} : kmv kp my i j ≤ 1 := by
  unfold kmv
  split <;> omega
/-- travel of the first k moves -/
def trs (F T : Nat → Nat) : Nat → Nat
  | 0 => 0
  | k + 1 => trs F T k + vtr (F k) (T k)
/-- count's answer, by what the reference holds -/
def vct (n t kp ma my bx tr : Nat) (w : Int32) : Int32 :=
  if w = nI 0 then nI bx else if w = nI 1 then nI n else if w = nI 2 then nI t else if w = nI 3 then (if kp = 0 then -1 else nI my) else if w = nI 4 then (if kp = 0 then -1 else nI tr) else if w = nI 5 then (if kp = 0 then -1 else nI ma) else -1
theorem sw6 (x : Int32) : x = nI 0 ∨ x = nI 1 ∨ x = nI 2 ∨ x = nI 3 ∨ x = nI 4 ∨ x = nI 5 ∨ ((x.toInt < 0 ∨ 5 < x.toInt) ∧ x ≠ nI 0 ∧ x ≠ nI 1 ∧ x ≠ nI 2 ∧ x ≠ nI 3 ∧ x ≠ nI 4 ∧ x ≠ nI 5) := by
  have e : ∀ k : Nat, k < 6 → (x.toInt = (k : Int) → x = nI k) := fun k hk h => Int32.toInt_inj.mp (h.trans (nI_toInt (by omega)).symm)
  rcases (show x.toInt < 0 ∨ x.toInt = 0 ∨ x.toInt = 1 ∨ x.toInt = 2 ∨ x.toInt = 3 ∨ x.toInt = 4 ∨ x.toInt = 5 ∨ 5 < x.toInt by omega) with h | h | h | h | h | h | h | h
  · refine Or.inr (Or.inr (Or.inr (Or.inr (Or.inr (Or.inr ⟨Or.inl h, ?_⟩)))))
    refine ⟨?_, ?_, ?_, ?_, ?_, ?_⟩ <;> (rintro rfl; rw [nI_toInt (by decide)] at h; omega)
  · exact Or.inl (e 0 (by omega) h)
  · exact Or.inr (Or.inl (e 1 (by omega) h))
  · exact Or.inr (Or.inr (Or.inl (e 2 (by omega) h)))
  · exact Or.inr (Or.inr (Or.inr (Or.inl (e 3 (by omega) h))))
  · exact Or.inr (Or.inr (Or.inr (Or.inr (Or.inl (e 4 (by omega) h)))))
  · exact Or.inr (Or.inr (Or.inr (Or.inr (Or.inr (Or.inl (e 5 (by omega) h))))))
  · refine Or.inr (Or.inr (Or.inr (Or.inr (Or.inr (Or.inr ⟨Or.inr h, ?_⟩)))))
    refine ⟨?_, ?_, ?_, ?_, ?_, ?_⟩ <;> (rintro rfl; rw [nI_toInt (by decide)] at h; omega)
