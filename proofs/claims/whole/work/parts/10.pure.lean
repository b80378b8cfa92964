/-! the yard itself: stacks as lists of ranks, the top first -/
def wd : List Nat → Nat
  | [] => 0
  | a :: l => a + 8 * wd l
def okl (t : Nat) (l : List Nat) : Prop := l.length ≤ t ∧ ∀ r ∈ l, 1 ≤ r ∧ r ≤ 6
def okY (n t : Nat) (Y : Nat → List Nat) : Prop := (∀ s, okl t (Y s)) ∧ ∀ s, n ≤ s → Y s = []
def cE (Y : Nat → List Nat) : Nat := wd (Y 0) + 4096 * wd (Y 1) + 16777216 * wd (Y 2) + 68719476736 * wd (Y 3)
def rvY (Y : Nat → List Nat) : Nat → List Nat := fun s => (Y s).reverse
def mE (Y : Nat → List Nat) : Nat := cE (rvY Y)
theorem okl_tail {t a : Nat} {l : List Nat} (h : okl t (a :: l)) : okl t l := ⟨Nat.le_of_succ_le (by have := h.1; simpa using this), fun r hr => h.2 r (List.mem_cons_of_mem _ hr)⟩
theorem okl_mono {t u : Nat} {l : List Nat} (h : okl t l) (hu : t ≤ u) : okl u l := ⟨Nat.le_trans h.1 hu, h.2⟩
theorem okl_rev {t : Nat} {l : List Nat} (h : okl t l) : okl t l.reverse := ⟨by rw [List.length_reverse]; exact h.1, fun r hr => h.2 r (List.mem_reverse.mp hr)⟩
theorem okY_rev {n t : Nat} {Y : Nat → List Nat} (h : okY n t Y) : okY n t (rvY Y) := ⟨fun s => okl_rev (h.1 s), fun s hs => by unfold rvY; rw [h.2 s hs]; rfl⟩
theorem wd_lt : ∀ (l : List Nat), (∀ r ∈ l, r < 8) → wd l < 8 ^ l.length
  | [], _ => by show 0 < 8 ^ 0; decide
  | a :: l, h => by
    have ih := wd_lt l (fun r hr => h r (List.mem_cons_of_mem _ hr))
    have ha := h a List.mem_cons_self
    show a + 8 * wd l < 8 ^ (l.length + 1)
    rw [Nat.pow_succ]
    omega
theorem wd_4096 {t : Nat} {l : List Nat} (h : okl t l) (ht : t ≤ 4) : wd l < 4096 := by
  have h1 := wd_lt l (fun r hr => by have := h.2 r hr; omega)
  have h2 : 8 ^ l.length ≤ 8 ^ 4 := Nat.pow_le_pow_right (by decide) (Nat.le_trans h.1 ht)
  have : (8 : Nat) ^ 4 = 4096 := by decide
  omega
theorem yr_wd : ∀ (l : List Nat) (j : Nat), (∀ r ∈ l, r < 8) → yr (wd l) j = l.getD j 0
  | [], j, _ => by show 0 / 2 ^ (j * 3) % 8 = _; simp
  | a :: l, 0, h => by
    have ha := h a List.mem_cons_self
    show (a + 8 * wd l) / 2 ^ (0 * 3) % 8 = a
    simp
    omega
  | a :: l, j + 1, h => by
    have ha := h a List.mem_cons_self
    have ih := yr_wd l j (fun r hr => h r (List.mem_cons_of_mem _ hr))
    show (a + 8 * wd l) / 2 ^ ((j + 1) * 3) % 8 = l.getD j 0
    rw [← ih]
    unfold yr
    rw [show (j + 1) * 3 = 3 + j * 3 by omega, Nat.pow_add, ← Nat.div_div_eq_div_mul]
    congr 2
    omega
theorem yr_0 (j : Nat) : yr 0 j = 0 := by unfold yr; simp
/-- words of a yard -/
theorem yw_cE {n t : Nat} {Y : Nat → List Nat} (h : okY n t Y) (ht : t ≤ 4) {s : Nat} (hs : s < 4) : yw (cE Y) s = wd (Y s) := by
  have h0 := wd_4096 (h.1 0) ht
  have h1 := wd_4096 (h.1 1) ht
  have h2 := wd_4096 (h.1 2) ht
  have h3 := wd_4096 (h.1 3) ht
  refine s4 (P := fun s => yw (cE Y) s = wd (Y s)) hs ?_ ?_ ?_ ?_ <;> simp only [yw, cE] <;> omega
theorem cE_lt {n t : Nat} {Y : Nat → List Nat} (h : okY n t Y) (ht : t ≤ 4) : cE Y < 2 ^ 48 := by
  have h0 := wd_4096 (h.1 0) ht
  have h1 := wd_4096 (h.1 1) ht
  have h2 := wd_4096 (h.1 2) ht
  have h3 := wd_4096 (h.1 3) ht
  unfold cE
  omega
theorem yw_ext {x y : Nat} (hx : x < 2 ^ 48) (hy : y < 2 ^ 48) (h : ∀ s, s < 4 → yw x s = yw y s) : x = y := by
  have h0 := h 0 (by decide)
  have h1 := h 1 (by decide)
  have h2 := h 2 (by decide)
  have h3 := h 3 (by decide)
  simp only [yw] at h0 h1 h2 h3
  omega
theorem yr_yw {x s j : Nat} (hs : s < 4) (hj : j < 4) : yr (yw x s) j = yr x (4 * s + j) := by
  unfold yr yw
  rw [show (4 * s + j) * 3 = s * 12 + j * 3 by omega, Nat.pow_add, ← Nat.div_div_eq_div_mul]
  generalize x / 2 ^ (s * 12) = z
  refine s4 (P := fun j => z % 4096 / 2 ^ (j * 3) % 8 = z / 2 ^ (j * 3) % 8) hj ?_ ?_ ?_ ?_ <;> omega
theorem lt8 {t : Nat} {l : List Nat} (h : okl t l) : ∀ r ∈ l, r < 8 := fun r hr => by have := h.2 r hr; omega
/-- digits of a yard -/
theorem yr_cE {n t : Nat} {Y : Nat → List Nat} (h : okY n t Y) (ht : t ≤ 4) {s j : Nat} (hs : s < 4) (hj : j < 4) : yr (cE Y) (4 * s + j) = (Y s).getD j 0 := by
  rw [← yr_yw hs hj, yw_cE h ht hs, yr_wd _ _ (lt8 (h.1 s))]
theorem dig_ext : ∀ (n x y : Nat), x < 8 ^ n → y < 8 ^ n → (∀ k, k < n → yr x k = yr y k) → x = y
  | 0, x, y, hx, hy, _ => by
    have e : (8 : Nat) ^ 0 = 1 := rfl
    omega
  | n + 1, x, y, hx, hy, h => by
    have h0 := h 0 (Nat.zero_lt_succ n)
    have e0 : ∀ z, yr z 0 = z % 8 := fun z => by unfold yr; simp
    rw [e0, e0] at h0
    have es : ∀ z k, yr (z / 8) k = yr z (k + 1) := fun z k => by
      unfold yr
      rw [show (k + 1) * 3 = 3 + k * 3 by omega, Nat.pow_add, ← Nat.div_div_eq_div_mul]
    have h1 : x / 8 = y / 8 := by
      refine dig_ext n (x / 8) (y / 8) ?_ ?_ (fun k hk => ?_)
      · rw [Nat.pow_succ] at hx; omega
      · rw [Nat.pow_succ] at hy; omega
      · rw [es, es]; exact h (k + 1) (by omega)
    omega
theorem dig16 {x y : Nat} (hx : x < 2 ^ 48) (hy : y < 2 ^ 48) (h : ∀ s j, s < 4 → j < 4 → yr x (4 * s + j) = yr y (4 * s + j)) : x = y := by
  refine dig_ext 16 x y (by have : (8 : Nat) ^ 16 = 2 ^ 48 := by decide
                            omega) (by have : (8 : Nat) ^ 16 = 2 ^ 48 := by decide
                                       omega) (fun k hk => ?_)
  have := h (k / 4) (k % 4) (by omega) (by omega)
  rwa [show 4 * (k / 4) + k % 4 = k by omega] at this
/-- a top box taken away, a box laid, a move -/
def rm (Y : Nat → List Nat) (s : Nat) : Nat → List Nat := fun q => if q = s then (Y s).tail else Y q
def pu (Y : Nat → List Nat) (s r : Nat) : Nat → List Nat := fun q => if q = s then r :: Y s else Y q
def mv (Y : Nat → List Nat) (a b : Nat) : Nat → List Nat := pu (rm Y a) b ((Y a).headD 0)
theorem rm_s (Y : Nat → List Nat) (s : Nat) : rm Y s s = (Y s).tail := if_pos rfl
theorem rm_n {Y : Nat → List Nat} {s q : Nat} (h : q ≠ s) : rm Y s q = Y q := if_neg h
theorem pu_s (Y : Nat → List Nat) (s r : Nat) : pu Y s r s = r :: Y s := if_pos rfl
theorem pu_n {Y : Nat → List Nat} {s q r : Nat} (h : q ≠ s) : pu Y s r q = Y q := if_neg h
theorem okY_rm {n t : Nat} {Y : Nat → List Nat} (h : okY n t Y) (s : Nat) : okY n t (rm Y s) := by
  refine ⟨fun q => ?_, fun q hq => ?_⟩
  · by_cases e : q = s
    · subst e
      rw [rm_s]
      have := h.1 q
      cases hl : Y q with
      | nil => exact ⟨Nat.zero_le _, fun r hr => by cases hr⟩
      | cons a l => rw [hl] at this; exact okl_tail this
    · rw [rm_n e]; exact h.1 q
  · by_cases e : q = s
    · subst e
      rw [rm_s, h.2 q hq]; rfl
    · rw [rm_n e]; exact h.2 q hq
theorem okY_pu {n t : Nat} {Y : Nat → List Nat} (h : okY n t Y) {s r : Nat} (hs : s < n) (hl : (Y s).length < t) (hr : 1 ≤ r ∧ r ≤ 6) : okY n t (pu Y s r) := by
  refine ⟨fun q => ?_, fun q hq => ?_⟩
  · by_cases e : q = s
    · subst e
      rw [pu_s]
      refine ⟨by rw [List.length_cons]; omega, fun x hx => ?_⟩
      rcases List.mem_cons.mp hx with rfl | hx
      · exact hr
      · exact (h.1 q).2 x hx
    · rw [pu_n e]; exact h.1 q
  · rw [pu_n (by omega)]; exact h.2 q hq
theorem okY_mv {n t : Nat} {Y : Nat → List Nat} (h : okY n t Y) {a b : Nat} (hab : a ≠ b) (hb : b < n) (ha : Y a ≠ []) (hl : (Y b).length < t) : okY n t (mv Y a b) := by
  refine okY_pu (okY_rm h a) hb (by rw [rm_n (Ne.symm hab)]; exact hl) ?_
  cases hY : Y a with
  | nil => exact absurd hY ha
  | cons x l => exact (h.1 a).2 x (by rw [hY]; exact List.mem_cons_self)
theorem wd_tail (l : List Nat) (h : ∀ r ∈ l, r < 8) : wd l.tail = wd l / 8 := by
  cases l with
  | nil => rfl
  | cons a l =>
    have := h a List.mem_cons_self
    show wd l = (a + 8 * wd l) / 8
    omega
theorem ylift_cE {n t : Nat} {Y : Nat → List Nat} (h : okY n t Y) (ht : t ≤ 4) {s : Nat} (hs : s < 4) : ylift (cE Y) s = cE (rm Y s) := by
  have hx := cE_lt h ht
  refine yw_ext (ylift_lt hx hs) (cE_lt (okY_rm h s) ht) (fun q hq => ?_)
  unfold ylift
  rw [yw_yww hx hs hq, yw_cE (okY_rm h s) ht hq]
  have hw := wd_4096 (h.1 s) ht
  by_cases e : q = s
  · subst e
    rw [if_pos rfl, rm_s, wd_tail _ (lt8 (h.1 q)), yw_cE h ht hq]
    omega
  · rw [if_neg e, rm_n e, yw_cE h ht hq]
theorem ylaid_cE {n t : Nat} {Y : Nat → List Nat} (h : okY n t Y) (ht : t ≤ 4) {s r : Nat} (hs : s < n) (hn : n ≤ 4) (hl : (Y s).length < t) (hr : 1 ≤ r ∧ r ≤ 6) : ylaid (cE Y) s r = cE (pu Y s r) := by
  have hx := cE_lt h ht
  have hs4 : s < 4 := by omega
  have hok := okY_pu h hs hl hr
  refine yw_ext (ylaid_lt hx hs4 r) (cE_lt hok ht) (fun q hq => ?_)
  unfold ylaid
  rw [yw_yww hx hs4 hq, yw_cE hok ht hq]
  by_cases e : q = s
  · subst e
    have hw := wd_4096 (hok.1 q) ht
    rw [pu_s] at hw ⊢
    rw [if_pos rfl, yw_cE h ht hq]
    show (wd (Y q) * 8 + r) % 4096 = r + 8 * wd (Y q)
    have : wd (r :: Y q) = r + 8 * wd (Y q) := rfl
    omega
  · rw [if_neg e, pu_n e, yw_cE h ht hq]
theorem yr_top {n t : Nat} {Y : Nat → List Nat} (h : okY n t Y) (ht : t ≤ 4) {s : Nat} (hs : s < 4) : yr (yw (cE Y) s) 0 = (Y s).headD 0 := by
  rw [yw_cE h ht hs, yr_wd _ _ (lt8 (h.1 s))]
  cases Y s <;> rfl
theorem yshift_cE {n t : Nat} {Y : Nat → List Nat} (h : okY n t Y) (ht : t ≤ 4) (hn : n ≤ 4) {a b : Nat} (ha4 : a < 4) (hab : a ≠ b) (hb : b < n) (ha : Y a ≠ []) (hl : (Y b).length < t) : yshift (cE Y) a b = cE (mv Y a b) := by
  unfold yshift mv
  rw [ylift_cE h ht ha4, yr_top h ht ha4]
  refine ylaid_cE (okY_rm h a) ht hb hn (by rw [rm_n (Ne.symm hab)]; exact hl) ?_
  cases hY : Y a with
  | nil => exact absurd hY ha
  | cons x l => exact (h.1 a).2 x (by rw [hY]; exact List.mem_cons_self)
