/-! what the class's search rests on -/
def hI (man n t : Nat) (E : Nat → Nat) : Prop := (∀ j, E j < 2 ^ 54) ∧ ∀ q, q < 1024 → E q ≠ 0 → ∀ Y, okY n t Y → ysrt (cE Y) = E q / 2 ^ 5 → way man n t (E q % 32) Y = none
theorem ysrt_lt (x : Nat) : ysrt x < 2 ^ 48 := by
  have a0 := yw_lt x 0
  have a1 := yw_lt x 1
  have a2 := yw_lt x 2
  have a3 := yw_lt x 3
  have c1 := mnm (mnm a0 a1) (mnm a2 a3)
  have c2 := mnm (mxm (mnm a0 a1) (mnm a2 a3)) (mnm (mxm a0 a1) (mxm a2 a3))
  have c3 := mxm (mxm (mnm a0 a1) (mnm a2 a3)) (mnm (mxm a0 a1) (mxm a2 a3))
  have c4 := mxm (mxm a0 a1) (mxm a2 a3)
  unfold ysrt
  revert c1 c2 c3 c4
  generalize min (min (yw x 0) (yw x 1)) (min (yw x 2) (yw x 3)) = e1
  generalize min (max (min (yw x 0) (yw x 1)) (min (yw x 2) (yw x 3))) (min (max (yw x 0) (yw x 1)) (max (yw x 2) (yw x 3))) = e2
  generalize max (max (min (yw x 0) (yw x 1)) (min (yw x 2) (yw x 3))) (min (max (yw x 0) (yw x 1)) (max (yw x 2) (yw x 3))) = e3
  generalize max (max (yw x 0) (yw x 1)) (max (yw x 2) (yw x 3)) = e4
  intro c1 c2 c3 c4
  omega
def hcknow (E : Nat → Nat) (k m : Nat) : Prop := ∃ q, q < 1024 ∧ E q ≠ 0 ∧ E q / 2 ^ 5 = k ∧ m ≤ E q % 32
theorem hI_know {man n t : Nat} {E : Nat → Nat} (h : hI man n t E) {Y : Nat → List Nat} (hY : okY n t Y) {m : Nat} (hk : hcknow E (ysrt (cE Y)) m) : way man n t m Y = none := by
  obtain ⟨q, h1, h2, h3, h4⟩ := hk
  exact way_le h4 (h.2 q h1 h2 Y hY h3.symm)
theorem hI_learn {man n t : Nat} {E : Nat → Nat} (hn : n ≤ 4) (ht : t ≤ 4) (h : hI man n t E) {Y : Nat → List Nat} (hY : okY n t Y) {m q : Nat} (hm : m < 32) (hw : way man n t m Y = none) : hI man n t (upN E q (ysrt (cE Y) * 32 + m)) := by
  have hl := ysrt_lt (cE Y)
  refine ⟨fun j => ?_, fun p hp hne Z hZ he => ?_⟩
  · unfold upN
    split
    · omega
    · exact h.1 j
  · by_cases e : p = q
    · subst e
      rw [upN_s] at he ⊢
      rw [show (ysrt (cE Y) * 32 + m) % 32 = m by omega]
      exact way_key hn ht hY hZ (by rw [he]; omega) m hw
    · rw [upN_n e] at hne he ⊢
      exact h.2 p hp hne Z hZ he
theorem hI_0 {man n t : Nat} {E : Nat → Nat} (h : ∀ j, E j < 2 ^ 54) : hI man n t (zr 1024 0 E) := by
  refine ⟨fun j => ?_, fun q hq hne => ?_⟩
  · have := h j
    unfold zr
    split <;> omega
  · exact absurd (by unfold zr; rw [if_pos hq]) hne
/-- the moves as the rows hold them -/
def wst (man n t : Nat) (F T M : Nat → Nat) : Nat → List Nat → (Nat → List Nat) → Prop
  | _, [], _ => True
  | d, m :: w, Y => (F d = m / 4 ∧ T d = m % 4 ∧ M d = (Y (m / 4)).headD 0) ∧ wst man n t F T M (d + 1) w (chd man n t Y m)
theorem wst_congr {man n t : Nat} {F T M F' T' M' : Nat → Nat} : ∀ (w : List Nat) (d : Nat) (Y : Nat → List Nat), (∀ j, d ≤ j → F' j = F j ∧ T' j = T j ∧ M' j = M j) → wst man n t F T M d w Y → wst man n t F' T' M' d w Y
  | [], _, _, _, _ => trivial
  | m :: w, d, Y, h, q => by
    obtain ⟨a, b, c⟩ := h d (Nat.le_refl d)
    exact ⟨⟨a.trans q.1.1, b.trans q.1.2.1, c.trans q.1.2.2⟩, wst_congr w (d + 1) _ (fun j hj => h j (by omega)) q.2⟩
/-- earlier moves lead nowhere -/
def flt (man n t k : Nat) (Y : Nat → List Nat) (p : Nat) : Prop := ∀ m, m < 16 → m < p → mayb man n t Y (m / 4) (m % 4) = true → way man n t k (chd man n t Y m) = none
theorem flt_0 {man n t k : Nat} {Y : Nat → List Nat} : flt man n t k Y 0 := fun m _ h => absurd h (Nat.not_lt_zero m)
theorem flt_s {man n t k : Nat} {Y : Nat → List Nat} {p : Nat} (h : flt man n t k Y p) (h2 : mayb man n t Y (p / 4) (p % 4) = true → way man n t k (chd man n t Y p) = none) : flt man n t k Y (p + 1) := fun m hm hp h3 => by
  by_cases e : m = p
  · subst e; exact h2 h3
  · exact h m hm (by omega) h3
theorem flt_row {man n t k : Nat} {Y : Nat → List Nat} {a : Nat} (h : flt man n t k Y (4 * a + n)) : flt man n t k Y (4 * (a + 1) + 0) := fun m hm hp h3 => by
  by_cases e : m < 4 * a + n
  · exact h m hm e h3
  · have := (mayb_iff.mp h3).2.1
    omega
theorem flt_skip {man n t k : Nat} {Y : Nat → List Nat} {a : Nat} (h : flt man n t k Y (4 * a + 0)) (h2 : ∀ b, mayb man n t Y a b ≠ true) : flt man n t k Y (4 * (a + 1) + 0) := fun m hm hp h3 => by
  by_cases e : m < 4 * a
  · exact h m hm (by omega) h3
  · rw [show m / 4 = a by omega] at h3
    exact absurd h3 (h2 _)
theorem flt_end {man n t k : Nat} {Y : Nat → List Nat} (hb : blk Y ≠ 0) (h : flt man n t k Y (4 * n + 0)) : way man n t (k + 1) Y = none := by
  rw [way_none_iff hb]
  intro m hm h3
  refine h m hm ?_ h3
  have := (mayb_iff.mp h3).1
  omega
theorem flt_hit {man n t k : Nat} {Y : Nat → List Nat} {p : Nat} {v : List Nat} (hb : blk Y ≠ 0) (h : flt man n t k Y p) (hp : p < 16) (h1 : mayb man n t Y (p / 4) (p % 4) = true) (h2 : way man n t k (chd man n t Y p) = some v) : way man n t (k + 1) Y = some (p :: v) := by
  rw [way_s, if_neg hb]
  exact ffo_first (wfn_of h1 h2) 16 0 (Nat.zero_le p) (by omega) (fun i _ hi => wfn_none.mpr (h i (by omega) hi))
/-- the class's tests of a move -/
theorem wd_0 {t : Nat} {l : List Nat} (h : okl t l) : wd l ≠ 0 ↔ l ≠ [] := by
  cases l with
  | nil => exact ⟨fun q => absurd rfl q, fun q => absurd rfl q⟩
  | cons a l =>
    have := h.2 a List.mem_cons_self
    refine ⟨fun _ => List.cons_ne_nil _ _, fun _ q => ?_⟩
    have : a + 8 * wd l = 0 := q
    omega
theorem ylo_wd {t : Nat} {l : List Nat} (h : okl t l) (ht : t ≤ 4) : ylo (wd l) 4 = lmin l := by
  obtain ⟨h1, h2, h3⟩ := ylo_spec (wd l) 4
  have a : lmin l ≤ ylo (wd l) 4 := by
    rcases h3 with q | ⟨j, hj, e, hne⟩
    · have := lmin_7 l; omega
    · rw [yr_wd _ _ (lt8 h)] at e hne
      rw [← e]
      exact lmin_le _ _ (getD_mem hne)
  have b : ylo (wd l) 4 ≤ lmin l := by
    rcases lmin_in l with q | q
    · omega
    · obtain ⟨j, hj, e⟩ := mem_getD q
      have hp := h.2 _ q
      have := h1 j (by have := h.1; omega) (by rw [yr_wd _ _ (lt8 h)]; omega)
      rw [yr_wd _ _ (lt8 h)] at this
      omega
  omega
theorem opn_iff {n t m0 a : Nat} {Y : Nat → List Nat} (h : okY n t Y) (ht : t ≤ 4) (ha : a < 4) : (yw (cE Y) a ≠ 0 ∧ (m0 ≠ 0 ∨ ylo (yw (cE Y) a) 4 = ylo (cE Y) 16)) ↔ (Y a ≠ [] ∧ (0 < m0 ∨ mn Y ∈ Y a)) := by
  rw [yw_cE h ht ha, wd_0 (h.1 a), ylo_wd (h.1 a) ht, ylo_cE h ht]
  constructor
  · rintro ⟨h1, h2⟩
    refine ⟨h1, h2.imp (fun q => by omega) (fun q => ?_)⟩
    rcases lmin_in (Y a) with z | z
    · cases hY : Y a with
      | nil => exact absurd hY h1
      | cons r l =>
        have h3 := lmin_le (Y a) r (by rw [hY]; exact List.mem_cons_self)
        have h4 := (h.1 a).2 r (by rw [hY]; exact List.mem_cons_self)
        omega
    · rw [← q]; exact z
  · rintro ⟨h1, h2⟩
    refine ⟨h1, h2.imp (fun q => by omega) (fun q => ?_)⟩
    have h3 := lmin_le (Y a) _ q
    have h4 : mn Y ≤ lmin (Y a) := by
      rcases lmin_in (Y a) with z | z
      · have := mn_7 Y; omega
      · exact mn_le ha z
    omega
theorem full_iff {n t b : Nat} {Y : Nat → List Nat} (h : okY n t Y) (ht : t ≤ 4) (ht0 : 0 < t) (hb : b < 4) : yr (yw (cE Y) b) (t - 1) ≠ 0 ↔ (Y b).length = t := by
  have hl := (h.1 b).1
  rw [yw_cE h ht hb, yr_wd _ _ (lt8 (h.1 b))]
  constructor
  · intro q
    rcases Nat.lt_or_ge (t - 1) (Y b).length with z | z
    · omega
    · exact absurd (getD_out z) q
  · intro q
    exact getD_pos (h.1 b) (by omega)
theorem bx_mv {Y : Nat → List Nat} {a b : Nat} (ha : a < 4) (hb : b < 4) (hne : Y a ≠ []) : bxY (mv Y a b) = bxY Y := by
  have h1 := bx_rm ha hne
  have h2 : bxY (pu (rm Y a) b ((Y a).headD 0)) = bxY (rm Y a) + 1 := by
    unfold bxY
    have e : (pu (rm Y a) b ((Y a).headD 0) b).length = (rm Y a b).length + 1 := by rw [pu_s]; rfl
    rcases (show b = 0 ∨ b = 1 ∨ b = 2 ∨ b = 3 by omega) with rfl | rfl | rfl | rfl
    · rw [pu_n (show 1 ≠ 0 by decide), pu_n (show 2 ≠ 0 by decide), pu_n (show 3 ≠ 0 by decide)]; omega
    · rw [pu_n (show 0 ≠ 1 by decide), pu_n (show 2 ≠ 1 by decide), pu_n (show 3 ≠ 1 by decide)]; omega
    · rw [pu_n (show 0 ≠ 2 by decide), pu_n (show 1 ≠ 2 by decide), pu_n (show 3 ≠ 2 by decide)]; omega
    · rw [pu_n (show 0 ≠ 3 by decide), pu_n (show 1 ≠ 3 by decide), pu_n (show 2 ≠ 3 by decide)]; omega
  unfold mv
  omega
/-- a child is a yard like its parent -/
theorem chd_ok {man n t : Nat} (hn : n ≤ 4) {Y : Nat → List Nat} (h : okY n t Y) {a b : Nat} (hm : mayb man n t Y a b = true) : okY n t (chd man n t Y (4 * a + b)) ∧ bxY (chd man n t Y (4 * a + b)) ≤ bxY Y ∧ (man ≠ 2 → nf (chd man n t Y (4 * a + b))) := by
  obtain ⟨h1, h2, h3, h4, h5, -⟩ := mayb_iff.mp hm
  have hl := (h.1 b).1
  have hok := okY_mv h h3 h2 h4 (by omega)
  have hbx := bx_mv (Y := Y) (a := a) (b := b) (by omega) (by omega) h4
  unfold chd stl
  rw [show (4 * a + b) / 4 = a by omega, show (4 * a + b) % 4 = b by omega]
  split
  · next e => exact ⟨hok, by omega, fun q => absurd e q⟩
  · have := lv_bx (mv Y a b)
    exact ⟨lv_ok hok, by omega, fun _ => lv_nf _⟩
theorem chd_cE {man n t : Nat} (hn : n ≤ 4) (ht : t ≤ 4) {Y : Nat → List Nat} (h : okY n t Y) (hb : bxY Y ≤ 6) {a b : Nat} (hm : mayb man n t Y a b = true) : (if man = 2 then yshift (cE Y) a b else yaf 6 (yshift (cE Y) a b)) = cE (chd man n t Y (4 * a + b)) := by
  obtain ⟨h1, h2, h3, h4, h5, -⟩ := mayb_iff.mp hm
  have hl := (h.1 b).1
  have hok := okY_mv h h3 h2 h4 (by omega)
  have hbx := bx_mv (Y := Y) (a := a) (b := b) (by omega) (by omega) h4
  unfold chd stl
  rw [show (4 * a + b) / 4 = a by omega, show (4 * a + b) % 4 = b by omega, yshift_cE h ht hn (by omega) h3 h2 h4 (by omega)]
  split
  · rfl
  · exact yaf_lv hok ht (by omega)
theorem chd_mE {man n t : Nat} (hn : n ≤ 4) (ht : t ≤ 4) {Y : Nat → List Nat} (h : okY n t Y) {a b : Nat} (hm : mayb man n t Y a b = true) : (if man = 2 then mmv (mE Y) a b t else mleft n t (mmv (mE Y) a b t)) = mE (chd man n t Y (4 * a + b)) := by
  obtain ⟨h1, h2, h3, h4, h5, -⟩ := mayb_iff.mp hm
  have hl := (h.1 b).1
  have hok := okY_mv h h3 h2 h4 (by omega)
  unfold chd stl
  rw [show (4 * a + b) / 4 = a by omega, show (4 * a + b) % 4 = b by omega, mmv_mE h ht hn (by omega) h3 h2 h4 (by omega)]
  split
  · rfl
  · exact mleft_lv hok ht hn
