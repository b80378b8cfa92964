/-! the groups that are there, numbered -/
def al (A : Nat → List Nat) : List Nat := A 0 ++ (A 1 ++ (A 2 ++ A 3))
def cn (L : List Nat) : Nat → Nat
  | 0 => 0
  | k + 1 => cn L k + bn (k + 1 ∈ L)
theorem cn_s (L : List Nat) (k : Nat) : cn L (k + 1) = cn L k + bn (k + 1 ∈ L) := rfl
theorem cn_mono (L : List Nat) {a b : Nat} (h : a ≤ b) : cn L a ≤ cn L b := by
  induction h with
  | refl => exact Nat.le_refl _
  | step _ ih => rw [cn_s]; omega
theorem cn_lt {L : List Nat} {a b : Nat} (h : a < b) (hb : b ∈ L) : cn L a < cn L b := by
  cases b with
  | zero => omega
  | succ k =>
    rw [cn_s, bn_t hb]
    have := cn_mono L (show a ≤ k by omega)
    omega
theorem cn_pos {L : List Nat} {b : Nat} (h : 1 ≤ b) (hb : b ∈ L) : 1 ≤ cn L b := by
  have := cn_lt (a := 0) (show 0 < b by omega) hb
  omega
theorem cn_lt_iff {L : List Nat} {a b : Nat} (ha : a ∈ L) (hb : b ∈ L) : cn L a < cn L b ↔ a < b := by
  refine ⟨fun h => ?_, fun h => cn_lt h hb⟩
  rcases Nat.lt_trichotomy a b with q | q | q
  · exact q
  · rw [q] at h; omega
  · have := cn_lt q ha; omega
theorem cn_inj {L : List Nat} {a b : Nat} (ha : a ∈ L) (hb : b ∈ L) (h : cn L a = cn L b) : a = b := by
  rcases Nat.lt_trichotomy a b with q | q | q
  · have := cn_lt q hb; omega
  · exact q
  · have := cn_lt q ha; omega
def le9 (k : Nat) : List Nat → Nat
  | [] => 0
  | a :: r => bn (a ≤ k) + le9 k r
theorem le9_len (k : Nat) : ∀ L, le9 k L ≤ L.length
  | [] => Nat.le_refl 0
  | a :: r => by
    have := le9_len k r
    show bn (a ≤ k) + le9 k r ≤ r.length + 1
    by_cases h : a ≤ k
    · rw [bn_t h]; omega
    · rw [bn_f h]; omega
theorem le9_s (k : Nat) : ∀ L, le9 k L ≤ le9 (k + 1) L ∧ (k + 1 ∈ L → le9 k L + 1 ≤ le9 (k + 1) L)
  | [] => ⟨Nat.le_refl _, fun h => nomatch h⟩
  | a :: r => by
    have ih := le9_s k r
    show bn (a ≤ k) + le9 k r ≤ bn (a ≤ k + 1) + le9 (k + 1) r ∧ (_ → bn (a ≤ k) + le9 k r + 1 ≤ bn (a ≤ k + 1) + le9 (k + 1) r)
    by_cases h : a ≤ k
    · rw [bn_t h, bn_t (show a ≤ k + 1 by omega)]
      refine ⟨by omega, fun q => ?_⟩
      rcases List.mem_cons.mp q with e | e
      · omega
      · have := ih.2 e; omega
    · rw [bn_f h]
      by_cases h2 : a ≤ k + 1
      · rw [bn_t h2]; exact ⟨by omega, fun _ => by omega⟩
      · rw [bn_f h2]
        refine ⟨by omega, fun q => ?_⟩
        rcases List.mem_cons.mp q with e | e
        · omega
        · have := ih.2 e; omega
theorem cn_le9 (L : List Nat) : ∀ k, cn L k ≤ le9 k L
  | 0 => Nat.zero_le _
  | k + 1 => by
    have ih := cn_le9 L k
    have h := le9_s k L
    rw [cn_s]
    by_cases q : k + 1 ∈ L
    · rw [bn_t q]; have := h.2 q; omega
    · rw [bn_f q]; omega
theorem cn_len (L : List Nat) (k : Nat) : cn L k ≤ L.length := Nat.le_trans (cn_le9 L k) (le9_len k L)
theorem al_len (A : Nat → List Nat) : (al A).length = bxY A := by
  unfold al bxY
  simp only [List.length_append]
  omega
theorem cn_6 {n t : Nat} {A : Nat → List Nat} (h : ab n t A) (k : Nat) : cn (al A) k ≤ 6 := by
  have := cn_len (al A) k
  rw [al_len] at this
  have := h.2.2
  omega
theorem cn_sur (L : List Nat) : ∀ k i, 1 ≤ i → i ≤ cn L k → ∃ g, 1 ≤ g ∧ g ≤ k ∧ g ∈ L ∧ cn L g = i
  | 0, i, h1, h2 => by have : cn L 0 = 0 := rfl; omega
  | k + 1, i, h1, h2 => by
    rw [cn_s] at h2
    by_cases q : i ≤ cn L k
    · obtain ⟨g, a, b, c⟩ := cn_sur L k i h1 q
      exact ⟨g, a, by omega, c⟩
    · by_cases r : k + 1 ∈ L
      · rw [bn_t r] at h2
        exact ⟨k + 1, by omega, by omega, r, by rw [cn_s, bn_t r]; omega⟩
      · rw [bn_f r] at h2; omega
theorem mem_al {n t : Nat} {A : Nat → List Nat} (h : ab n t A) (hn : n ≤ 4) {g : Nat} : g ∈ al A ↔ ∃ s, g ∈ A s := by
  constructor
  · intro q
    obtain ⟨s, -, hs⟩ := mem4.mp q
    exact ⟨s, hs⟩
  · rintro ⟨s, hs⟩
    refine mem4.mpr ⟨s, ?_, hs⟩
    rcases Nat.lt_or_ge s 4 with q | q
    · exact q
    · rw [h.2.1 s (by omega)] at hs; exact nomatch hs
theorem al_rng {n t : Nat} {A : Nat → List Nat} (h : ab n t A) {g : Nat} (hg : g ∈ al A) : 1 ≤ g ∧ g ≤ 20 := by
  obtain ⟨s, -, hs⟩ := mem4.mp hg
  exact (h.1 s).2 g hs
theorem cel_mem {n t w : Nat} {A : Nat → List Nat} (h : ab n t A) (hn : n ≤ 4) (htw : t ≤ w) (hw0 : 0 < w) (hnw : n * w ≤ 16) {g : Nat} (hg : 1 ≤ g) : (∃ j, j < 16 ∧ cel w A j = g) ↔ g ∈ al A := by
  rw [mem_al h hn]
  constructor
  · rintro ⟨j, -, hj⟩
    unfold cel at hj
    refine ⟨j / w, ?_⟩
    by_cases q : j % w < (A (j / w)).length
    · have := (ab_pos h q).2.2; rwa [hj] at this
    · rw [getD_out (by rw [List.length_reverse]; omega)] at hj; omega
  · rintro ⟨s, hs⟩
    have hsn : s < n := Nat.lt_of_not_le (fun q => by rw [h.2.1 s q] at hs; exact nomatch hs)
    obtain ⟨j, hj, e⟩ := mem_getD (List.mem_reverse.mpr hs)
    rw [List.length_reverse] at hj
    have hl := (h.1 s).1
    have := Nat.mul_le_mul_right w (show s + 1 ≤ n by omega)
    rw [Nat.succ_mul] at this
    exact ⟨s * w + j, by omega, by rw [cel_at (by omega)]; exact e⟩
/-- what a numbering does -/
def num (L : List Nat) (GO : Nat → Nat) : Prop := ∀ g, g ∈ L → GO (cn L g) = g
theorem nwr_cn {n t : Nat} {A : Nat → List Nat} (h : ab n t A) (hn : n ≤ 4) (ht : t ≤ 4) (GO : Nat → Nat) : ∀ k, (nwr (cel 4 A) GO k).1 = cn (al A) k ∧ ∀ g, g ∈ al A → g ≤ k → (nwr (cel 4 A) GO k).2 (cn (al A) g) = g
  | 0 => ⟨rfl, fun g hg hk => by have := (al_rng h hg).1; omega⟩
  | k + 1 => by
    obtain ⟨i1, i2⟩ := nwr_cn h hn ht GO k
    have hi : anb (fun j => decide (cel 4 A j = k + 1)) 16 = true ↔ k + 1 ∈ al A := by
      rw [anb_iff, ← cel_mem h hn ht (by decide) (by omega) (show 1 ≤ k + 1 by omega)]
      simp only [decide_eq_true_eq]
    rw [nwr_s, cn_s]
    by_cases q : k + 1 ∈ al A
    · rw [if_pos (hi.mpr q), bn_t q]
      refine ⟨by show _ + 1 = _; rw [i1], fun g hg hk => ?_⟩
      show upN _ _ _ _ = g
      rcases Nat.lt_or_ge g (k + 1) with z | z
      · have h3 := cn_mono (al A) (show g ≤ k by omega)
        rw [upN_n (by rw [i1]; omega), i2 g hg (by omega)]
      · have : g = k + 1 := by omega
        subst this
        rw [cn_s, bn_t q, i1, upN_s]
    · rw [if_neg (fun z => q (hi.mp z)), bn_f q]
      exact ⟨i1, fun g hg hk => i2 g hg (by
        rcases Nat.lt_or_ge g (k + 1) with z | z
        · omega
        · have : g = k + 1 := by omega
          subst this; exact absurd hg q)⟩
theorem nwr_num {n t : Nat} {A : Nat → List Nat} (h : ab n t A) (hn : n ≤ 4) (ht : t ≤ 4) (GO : Nat → Nat) : num (al A) (nwr (cel 4 A) GO 20).2 := fun g hg => (nwr_cn h hn ht GO 20).2 g hg (al_rng h hg).2
theorem nwr_6 {n t : Nat} {A : Nat → List Nat} (h : ab n t A) (hn : n ≤ 4) (ht : t ≤ 4) (GO : Nat → Nat) : (nwr (cel 4 A) GO 20).1 ≤ 6 := by
  rw [(nwr_cn h hn ht GO 20).1]; exact cn_6 h 20
theorem rkf_cn {L : List Nat} {GO : Nat → Nat} (hN : num L GO) {g : Nat} (hg : g ∈ L) (h1 : 1 ≤ g) (K : Nat) : ∀ r, r ≤ cn L K → rkf GO g r = 1 + min r (cn L g - 1)
  | 0, _ => by show 1 = _; omega
  | r + 1, hr => by
    have ih := rkf_cn hN hg h1 K r (by omega)
    obtain ⟨x, x1, -, x3, x4⟩ := cn_sur L K (r + 1) (by omega) hr
    have hx := hN x x3
    rw [x4] at hx
    have hp := cn_pos h1 hg
    show rkf GO g r + bn (GO (r + 1) < g) = _
    rw [ih, hx]
    by_cases q : x < g
    · have := (cn_lt_iff x3 hg).mpr q
      rw [bn_t q]; omega
    · have : ¬ cn L x < cn L g := fun z => q ((cn_lt_iff x3 hg).mp z)
      rw [bn_f q]; omega
theorem rkf_al {n t : Nat} {A : Nat → List Nat} (h : ab n t A) (hn : n ≤ 4) (ht : t ≤ 4) (GO : Nat → Nat) {g : Nat} (hg : g ∈ al A) : rkf (nwr (cel 4 A) GO 20).2 g (nwr (cel 4 A) GO 20).1 = cn (al A) g := by
  have hr := al_rng h hg
  rw [(nwr_cn h hn ht GO 20).1, rkf_cn (nwr_num h hn ht GO) hg hr.1 20 _ (Nat.le_refl _)]
  have := cn_pos hr.1 hg
  have := cn_mono (al A) hr.2
  omega
/-- the class's numbering -/
theorem lr1_al {P R0 : Nat → Nat} (hR : ∀ g, g < 21 → R0 g = 0) {g : Nat} (h1 : 1 ≤ g) (h2 : g < 21) : ∀ k, lr1 P R0 k g ≠ 0 ↔ ∃ j, j < k ∧ P j = g
  | 0 => ⟨fun q => absurd (hR g h2) q, fun ⟨j, hj, _⟩ => absurd hj (Nat.not_lt_zero j)⟩
  | k + 1 => by
    have ih := lr1_al (P := P) hR h1 h2 k
    rw [lr1_s]
    by_cases e : P k = g
    · rw [if_pos (by omega), e, upN_s]
      exact ⟨fun _ => ⟨k, by omega, e⟩, fun _ => by decide⟩
    · have : (if 0 < P k ∧ P k < 21 then upN (lr1 P R0 k) (P k) 1 else lr1 P R0 k) g = lr1 P R0 k g := by
        split
        · exact upN_n (fun z => e z.symm)
        · rfl
      rw [this, ih]
      exact ⟨fun ⟨j, a, b⟩ => ⟨j, by omega, b⟩, fun ⟨j, a, b⟩ => ⟨j, by
        rcases Nat.lt_or_ge j k with z | z
        · exact z
        · have : j = k := by omega
          subst this; exact absurd b e, b⟩⟩
theorem lr2_cn {L : List Nat} {R1 G0 : Nat → Nat} (hR : ∀ g, 1 ≤ g → g < 21 → (R1 g ≠ 0 ↔ g ∈ L)) (h6 : ∀ k, cn L k ≤ 6) (hL : ∀ g, g ∈ L → 1 ≤ g) : ∀ k, k ≤ 20 → (lr2 R1 G0 k).1 = cn L k ∧ (∀ g, k < g → (lr2 R1 G0 k).2.1 g = R1 g) ∧ ∀ g, g ∈ L → g ≤ k → (lr2 R1 G0 k).2.1 g = cn L g ∧ (lr2 R1 G0 k).2.2 (cn L g) = g
  | 0, _ => ⟨rfl, fun _ _ => rfl, fun g hg hk => by have := hL g hg; omega⟩
  | k + 1, hk => by
    obtain ⟨i1, i2, i3⟩ := lr2_cn (G0 := G0) hR h6 hL k (by omega)
    have h7 := h6 (k + 1)
    rw [cn_s] at h7
    rw [lr2_s, i2 (k + 1) (by omega), i1, cn_s]
    by_cases q : k + 1 ∈ L
    · rw [bn_t q] at h7 ⊢
      rw [if_pos ⟨(hR (k + 1) (by omega) (by omega)).mpr q, by omega⟩]
      refine ⟨rfl, fun g hg => ?_, fun g hg hgk => ?_⟩
      · show upN _ _ _ g = _
        rw [upN_n (by omega), i2 g (by omega)]
      · show upN _ _ _ g = _ ∧ upN _ _ _ _ = g
        rcases Nat.lt_or_ge g (k + 1) with z | z
        · have h3 := cn_mono L (show g ≤ k by omega)
          rw [upN_n (by omega), upN_n (by omega)]
          exact i3 g hg (by omega)
        · have : g = k + 1 := by omega
          subst this
          rw [cn_s, bn_t q, upN_s, upN_s]
          exact ⟨rfl, rfl⟩
    · rw [bn_f q, if_neg (fun z => q ((hR (k + 1) (by omega) (by omega)).mp z.1))]
      exact ⟨i1, fun g hg => i2 g (by omega), fun g hg hgk => i3 g hg (by
        rcases Nat.lt_or_ge g (k + 1) with z | z
        · omega
        · have : g = k + 1 := by omega
          subst this; exact absurd hg q)⟩
theorem lrn_al {n t : Nat} {A : Nat → List Nat} (h : ab n t A) (hn : n ≤ 4) (ht : 2 ≤ t ∧ t ≤ 4) (RK GP : Nat → Nat) : num (al A) (lrn (cel t A) RK GP).2.2 ∧ ∀ g, g ∈ al A → rkc (lrn (cel t A) RK GP).2.1 g = cn (al A) g := by
  have hnt : n * t ≤ 16 := Nat.mul_le_mul hn ht.2
  have hR : ∀ g, 1 ≤ g → g < 21 → (lr1 (cel t A) (zr 21 0 RK) 16 g ≠ 0 ↔ g ∈ al A) := fun g h1 h2 => by
    exact (lr1_al (P := cel t A) (R0 := zr 21 0 RK) (fun g hg => if_pos hg) h1 h2 16).trans (cel_mem h hn (Nat.le_refl t) (by omega) hnt h1)
  have hl := lr2_cn (G0 := GP) hR (cn_6 h) (fun g hg => (al_rng h hg).1) 20 (Nat.le_refl 20)
  unfold lrn
  revert hl
  generalize lr2 (lr1 (cel t A) (zr 21 0 RK) 16) GP 20 = Z
  intro hl
  refine ⟨fun g hg => (hl.2.2 g hg (al_rng h hg).2).2, fun g hg => ?_⟩
  have hr := al_rng h hg
  unfold rkc
  rw [if_pos (by omega)]
  exact (hl.2.2 g hg hr.2).1
/-- the yard of ranks -/
def yd (A : Nat → List Nat) : Nat → List Nat := fun s => (A s).map (cn (al A))
theorem yd_ok {n t : Nat} {A : Nat → List Nat} (h : ab n t A) (hn : n ≤ 4) : okY n t (yd A) ∧ bxY (yd A) ≤ 6 := by
  refine ⟨⟨fun s => ⟨by unfold yd; rw [List.length_map]; exact (h.1 s).1, fun r hr => ?_⟩, fun s hs => by unfold yd; rw [h.2.1 s hs]; rfl⟩, ?_⟩
  · obtain ⟨g, hg, rfl⟩ := List.mem_map.mp hr
    exact ⟨cn_pos ((h.1 s).2 g hg).1 ((mem_al h hn).mpr ⟨s, hg⟩), cn_6 h _⟩
  · have := h.2.2
    unfold bxY at this ⊢
    unfold yd
    simpa only [List.length_map] using this
theorem yd_getD {n t : Nat} {A : Nat → List Nat} (s j : Nat) : (yd A s).reverse.getD j 0 = if j < (A s).length then cn (al A) ((A s).reverse.getD j 0) else 0 := by
  unfold yd
  rw [← List.map_reverse, List.getD_eq_getElem?_getD, List.getD_eq_getElem?_getD, List.getElem?_map]
  by_cases q : j < (A s).length
  · rw [if_pos q, List.getElem?_eq_getElem (by rw [List.length_reverse]; exact q)]; rfl
  · rw [if_neg q, List.getElem?_eq_none (by rw [List.length_reverse]; omega)]; rfl
theorem yr_nwy {G GO : Nat → Nat} {r : Nat} (hr : r ≤ 6) : ∀ K k, k < K → yr (nwy G GO r K) k = nwv G GO r k
  | 0, k, h => absurd h (Nat.not_lt_zero k)
  | K + 1, k, h => by
    have h1 := nwy_lt (G := G) (GO := GO) hr K
    have h2 := nwv_lt (G := G) (GO := GO) hr K
    show yr (nwy G GO r K + nwv G GO r K * 2 ^ (K * 3)) k = _
    rcases Nat.lt_or_ge k K with q | q
    · rw [← yr_nwy hr K k q]
      unfold yr
      rw [show nwv G GO r K * 2 ^ (K * 3) = 2 ^ (k * 3) * (8 * (nwv G GO r K * 2 ^ ((K - k - 1) * 3))) by
        rw [show K * 3 = k * 3 + 3 + (K - k - 1) * 3 by omega, Nat.pow_add, Nat.pow_add]
        generalize 2 ^ (k * 3) = a
        generalize 2 ^ ((K - k - 1) * 3) = b
        generalize nwv G GO r K = v
        show v * (a * 8 * b) = a * (8 * (v * b))
        rw [Nat.mul_comm v, Nat.mul_assoc, Nat.mul_assoc, Nat.mul_comm b v], Nat.add_mul_div_left _ _ (Nat.two_pow_pos _), Nat.add_mul_mod_self_left]
    · have : k = K := by omega
      subst this
      unfold yr
      rw [Nat.add_mul_div_right _ _ (Nat.two_pow_pos _), Nat.div_eq_of_lt h1, Nat.zero_add, Nat.mod_eq_of_lt h2]
theorem nwy_mE {n t : Nat} {A : Nat → List Nat} (h : ab n t A) (hn : n ≤ 4) (ht : t ≤ 4) (GO : Nat → Nat) : nwy (cel 4 A) (nwr (cel 4 A) GO 20).2 (nwr (cel 4 A) GO 20).1 16 = mE (yd A) := by
  have hy := yd_ok h hn
  refine dig16 (nwy_48 (nwr_6 h hn ht GO)) (mE_lt hy.1 ht) (fun s j hs hj => ?_)
  rw [yr_nwy (nwr_6 h hn ht GO) 16 _ (by omega), yr_mE hy.1 ht hs hj, yd_getD (n := n) (t := t)]
  unfold nwv
  rw [cel_4 hj]
  by_cases q : j < (A s).length
  · have hp := ab_pos h q
    rw [if_pos q, if_pos (show 0 < _ from hp.1), rkf_al h hn ht GO ((mem_al h hn).mpr ⟨s, hp.2.2⟩)]
  · rw [if_neg q, if_neg (by rw [getD_out (by rw [List.length_reverse]; omega)]; omega)]
