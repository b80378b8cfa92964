/-! ways -/
def mayb (man n t : Nat) (Y : Nat → List Nat) (a b : Nat) : Bool := decide (a < n ∧ b < n ∧ a ≠ b ∧ Y a ≠ [] ∧ (Y b).length ≠ t ∧ (0 < man ∨ mn Y ∈ Y a))
theorem mayb_iff {man n t : Nat} {Y : Nat → List Nat} {a b : Nat} : mayb man n t Y a b = true ↔ a < n ∧ b < n ∧ a ≠ b ∧ Y a ≠ [] ∧ (Y b).length ≠ t ∧ (0 < man ∨ mn Y ∈ Y a) := by
  unfold mayb
  rw [decide_eq_true_iff]
def stl (man : Nat) (Y : Nat → List Nat) : Nat → List Nat := if man = 2 then Y else lv Y
def ffo {α : Type} (f : Nat → Option α) : Nat → Nat → Option α
  | 0, _ => none
  | k + 1, m => match f m with
    | some v => some v
    | none => ffo f k (m + 1)
theorem ffo_some {α : Type} {f : Nat → Option α} {k m : Nat} {v : α} (h : f m = some v) : ffo f (k + 1) m = some v := by
  show (match f m with | some v => some v | none => ffo f k (m + 1)) = _
  rw [h]
theorem ffo_none {α : Type} {f : Nat → Option α} {k m : Nat} (h : f m = none) : ffo f (k + 1) m = ffo f k (m + 1) := by
  show (match f m with | some v => some v | none => ffo f k (m + 1)) = _
  rw [h]
theorem ffo_all {α : Type} {f : Nat → Option α} : ∀ k m, ffo f k m = none ↔ ∀ j, m ≤ j → j < m + k → f j = none
  | 0, m => ⟨fun _ j h1 h2 => by omega, fun _ => rfl⟩
  | k + 1, m => by
    cases h : f m with
    | some v =>
      rw [ffo_some h]
      exact ⟨fun q => (nomatch q), fun q => by have := q m (Nat.le_refl m) (by omega); rw [h] at this; cases this⟩
    | none =>
      rw [ffo_none h, ffo_all k (m + 1)]
      constructor
      · intro q j h1 h2
        by_cases e : j = m
        · subst e; exact h
        · exact q j (by omega) (by omega)
      · exact fun q j h1 h2 => q j (by omega) (by omega)
theorem ffo_first {α : Type} {f : Nat → Option α} {j : Nat} {v : α} (h : f j = some v) : ∀ k m, m ≤ j → j < m + k → (∀ i, m ≤ i → i < j → f i = none) → ffo f k m = some v
  | 0, m, h1, h2, _ => by omega
  | k + 1, m, h1, h2, h3 => by
    by_cases e : m = j
    · subst e; exact ffo_some h
    · rw [ffo_none (h3 m (Nat.le_refl m) (by omega))]
      exact ffo_first h k (m + 1) (by omega) (by omega) (fun i a b => h3 i (by omega) b)
theorem ffo_get {α : Type} {f : Nat → Option α} {v : α} : ∀ k m, ffo f k m = some v → ∃ j, m ≤ j ∧ j < m + k ∧ f j = some v ∧ ∀ i, m ≤ i → i < j → f i = none
  | 0, m, h => by cases h
  | k + 1, m, h => by
    cases e : f m with
    | some w =>
      rw [ffo_some e] at h
      cases h
      exact ⟨m, Nat.le_refl m, by omega, e, fun i a b => by omega⟩
    | none =>
      rw [ffo_none e] at h
      obtain ⟨j, a, b, c, d⟩ := ffo_get k (m + 1) h
      refine ⟨j, by omega, by omega, c, fun i p q => ?_⟩
      by_cases z : i = m
      · subst z; exact e
      · exact d i (by omega) q
/-- the child by a move, if it may be made -/
def chd (man n t : Nat) (Y : Nat → List Nat) (m : Nat) : Nat → List Nat := stl man (mv Y (m / 4) (m % 4))
def way (man n t : Nat) : Nat → (Nat → List Nat) → Option (List Nat)
  | 0, Y => if blk Y = 0 then some [] else none
  | k + 1, Y => if blk Y = 0 then some [] else ffo (fun m => if mayb man n t Y (m / 4) (m % 4) = true then (way man n t k (chd man n t Y m)).map (fun w => m :: w) else none) 16 0
def wfn (man n t k : Nat) (Y : Nat → List Nat) : Nat → Option (List Nat) := fun m => if mayb man n t Y (m / 4) (m % 4) = true then (way man n t k (chd man n t Y m)).map (fun w => m :: w) else none
theorem way_s (man n t k : Nat) (Y : Nat → List Nat) : way man n t (k + 1) Y = if blk Y = 0 then some [] else ffo (wfn man n t k Y) 16 0 := rfl
theorem way_0 (man n t : Nat) (Y : Nat → List Nat) : way man n t 0 Y = if blk Y = 0 then some [] else none := rfl
theorem way_done {man n t k : Nat} {Y : Nat → List Nat} (h : blk Y = 0) : way man n t k Y = some [] := by
  cases k with
  | zero => rw [way_0, if_pos h]
  | succ k => rw [way_s, if_pos h]
theorem wfn_none {man n t k : Nat} {Y : Nat → List Nat} {m : Nat} : wfn man n t k Y m = none ↔ (mayb man n t Y (m / 4) (m % 4) = true → way man n t k (chd man n t Y m) = none) := by
  unfold wfn
  by_cases h : mayb man n t Y (m / 4) (m % 4) = true
  · rw [if_pos h, Option.map_eq_none_iff]
    exact ⟨fun q _ => q, fun q => q h⟩
  · rw [if_neg h]
    exact ⟨fun _ q => absurd q h, fun _ => rfl⟩
theorem wfn_some {man n t k : Nat} {Y : Nat → List Nat} {m : Nat} {w : List Nat} (h : wfn man n t k Y m = some w) : mayb man n t Y (m / 4) (m % 4) = true ∧ ∃ v, way man n t k (chd man n t Y m) = some v ∧ w = m :: v := by
  unfold wfn at h
  by_cases q : mayb man n t Y (m / 4) (m % 4) = true
  · rw [if_pos q] at h
    obtain ⟨v, a, b⟩ := Option.map_eq_some_iff.mp h
    exact ⟨q, v, a, b.symm⟩
  · rw [if_neg q] at h; cases h
theorem wfn_of {man n t k : Nat} {Y : Nat → List Nat} {m : Nat} {v : List Nat} (h : mayb man n t Y (m / 4) (m % 4) = true) (hv : way man n t k (chd man n t Y m) = some v) : wfn man n t k Y m = some (m :: v) := by
  unfold wfn
  rw [if_pos h, hv]
  rfl
theorem way_none_iff {man n t k : Nat} {Y : Nat → List Nat} (hb : blk Y ≠ 0) : way man n t (k + 1) Y = none ↔ ∀ m, m < 16 → mayb man n t Y (m / 4) (m % 4) = true → way man n t k (chd man n t Y m) = none := by
  rw [way_s, if_neg hb, ffo_all]
  constructor
  · intro h m hm
    exact wfn_none.mp (h m (Nat.zero_le m) (by omega))
  · intro h m _ hm
    exact wfn_none.mpr (h m (by omega))
theorem blk_chd (man n t : Nat) (Y : Nat → List Nat) (m : Nat) : blk Y ≤ blk (chd man n t Y m) + 1 := by
  have h := blk_mv Y (m / 4) (m % 4)
  unfold chd stl
  split
  · exact h
  · rw [blk_lv]; exact h
theorem way_blk {man n t : Nat} : ∀ (k : Nat) (Y : Nat → List Nat), k < blk Y → way man n t k Y = none
  | 0, Y, h => by rw [way_0, if_neg (by omega)]
  | k + 1, Y, h => by
    rw [way_none_iff (by omega)]
    intro m _ _
    have := blk_chd man n t Y m
    exact way_blk k _ (by omega)
theorem way_mono {man n t : Nat} : ∀ (k : Nat) (Y : Nat → List Nat), way man n t (k + 1) Y = none → way man n t k Y = none
  | 0, Y, h => by
    by_cases hb : blk Y = 0
    · rw [way_done hb] at h; cases h
    · rw [way_0, if_neg hb]
  | k + 1, Y, h => by
    by_cases hb : blk Y = 0
    · rw [way_done hb] at h; cases h
    · rw [way_none_iff hb] at h ⊢
      exact fun m hm h1 => way_mono k _ (h m hm h1)
theorem way_le {man n t a b : Nat} (h : a ≤ b) {Y : Nat → List Nat} : way man n t b Y = none → way man n t a Y = none := by
  induction h with
  | refl => exact id
  | step _ ih => exact fun q => ih (way_mono _ Y q)
theorem way_len {man n t : Nat} : ∀ (k : Nat) (Y : Nat → List Nat) (w : List Nat), way man n t k Y = some w → w.length ≤ k ∧ way man n t w.length Y ≠ none
  | 0, Y, w, h => by
    rw [way_0] at h
    split at h
    · next hb => cases h; exact ⟨Nat.le_refl 0, by rw [way_done hb]; exact Option.some_ne_none _⟩
    · cases h
  | k + 1, Y, w, h => by
    by_cases hb : blk Y = 0
    · rw [way_done hb] at h
      cases h
      exact ⟨Nat.zero_le _, by rw [way_done hb]; exact Option.some_ne_none _⟩
    · rw [way_s, if_neg hb] at h
      obtain ⟨j, -, hj, hf, -⟩ := ffo_get 16 0 h
      obtain ⟨hm, v, hv, rfl⟩ := wfn_some hf
      obtain ⟨h1, h2⟩ := way_len k _ v hv
      refine ⟨by rw [List.length_cons]; omega, fun q => ?_⟩
      rw [List.length_cons, way_none_iff hb] at q
      exact h2 (q j (by omega) hm)
/-- the least number of moves: its way has just so many -/
theorem way_exact {man n t k : Nat} {Y : Nat → List Nat} {w : List Nat} (h : way man n t k Y = some w) (hl : ∀ j, j < k → way man n t j Y = none) : w.length = k := by
  obtain ⟨h1, h2⟩ := way_len k Y w h
  rcases Nat.lt_or_ge w.length k with q | q
  · exact absurd (hl _ q) h2
  · omega
/-! stacks changed about -/
def sw (τ : Nat → Nat) (Y : Nat → List Nat) : Nat → List Nat := fun s => Y (τ s)
def tau (n : Nat) (τ : Nat → Nat) : Prop := (∀ s, τ (τ s) = s) ∧ (∀ s, s < 4 → τ s < 4) ∧ ∀ s, s < n → τ s < n
theorem tau_lt {n : Nat} {τ : Nat → Nat} (h : tau n τ) (s : Nat) : τ s < n ↔ s < n := ⟨fun q => by have := h.2.2 _ q; rwa [h.1] at this, h.2.2 s⟩
theorem sw_sw {n : Nat} {τ : Nat → Nat} (h : tau n τ) (Y : Nat → List Nat) : sw τ (sw τ Y) = Y := by
  funext s
  show Y (τ (τ s)) = Y s
  rw [h.1]
theorem mn_sw {n : Nat} {τ : Nat → Nat} (h : tau n τ) (Y : Nat → List Nat) : mn (sw τ Y) = mn Y := by
  refine mn_uni (fun s r hs hr => mn_le (h.2.1 s hs) hr) (mn_7 Y) ?_
  rcases mn_in Y with q | ⟨s, hs, hr⟩
  · exact Or.inl q
  · exact Or.inr ⟨τ s, h.2.1 s hs, by show mn Y ∈ Y (τ (τ s)); rw [h.1]; exact hr⟩
theorem rm_sw {n : Nat} {τ : Nat → Nat} (h : tau n τ) (Y : Nat → List Nat) (s : Nat) : rm (sw τ Y) s = sw τ (rm Y (τ s)) := by
  funext q
  show (if q = s then (Y (τ s)).tail else Y (τ q)) = if τ q = τ s then (Y (τ s)).tail else Y (τ q)
  by_cases e : q = s
  · rw [if_pos e, if_pos (by rw [e])]
  · rw [if_neg e, if_neg (fun z => e (by have := congrArg τ z; rwa [h.1, h.1] at this))]
theorem pu_sw {n : Nat} {τ : Nat → Nat} (h : tau n τ) (Y : Nat → List Nat) (s r : Nat) : pu (sw τ Y) s r = sw τ (pu Y (τ s) r) := by
  funext q
  show (if q = s then r :: Y (τ s) else Y (τ q)) = if τ q = τ s then r :: Y (τ s) else Y (τ q)
  by_cases e : q = s
  · rw [if_pos e, if_pos (by rw [e])]
  · rw [if_neg e, if_neg (fun z => e (by have := congrArg τ z; rwa [h.1, h.1] at this))]
theorem mv_sw {n : Nat} {τ : Nat → Nat} (h : tau n τ) (Y : Nat → List Nat) (a b : Nat) : mv (sw τ Y) a b = sw τ (mv Y (τ a) (τ b)) := by
  unfold mv
  rw [rm_sw h, pu_sw h]
  rfl
theorem tp_sw {n : Nat} {τ : Nat → Nat} (h : tau n τ) {Y : Nat → List Nat} {s : Nat} (ht : tp Y s) : tp (sw τ Y) (τ s) := by
  refine ⟨h.2.1 s ht.1, ?_⟩
  show (Y (τ (τ s))).head? = _
  rw [h.1, mn_sw h]
  exact ht.2
theorem rn_sw {n : Nat} {τ : Nat → Nat} (h : tau n τ) : ∀ (l : List Nat) (Y Z : Nat → List Nat), rn l Y Z → rn (l.map τ) (sw τ Y) (sw τ Z)
  | [], Y, Z, h1 => by cases h1; rfl
  | s :: l, Y, Z, h1 => ⟨tp_sw h h1.1, by rw [rm_sw h, h.1]; exact rn_sw h l _ Z h1.2⟩
theorem lv_sw {n : Nat} {τ : Nat → Nat} (h : tau n τ) (Y : Nat → List Nat) : lv (sw τ Y) = sw τ (lv Y) := by
  obtain ⟨l, h1, h2⟩ := lv_run Y
  refine (lv_eq (rn_sw h l Y _ h1) (fun s hs => ?_)).symm
  have := tp_sw h hs
  rw [sw_sw h] at this
  exact h2 _ this
theorem sum4 {f : Nat → Nat} {n : Nat} {τ : Nat → Nat} (h : tau n τ) : f (τ 0) + f (τ 1) + f (τ 2) + f (τ 3) = f 0 + f 1 + f 2 + f 3 := by
  have h0 := h.2.1 0 (by decide)
  have h1 := h.2.1 1 (by decide)
  have h2 := h.2.1 2 (by decide)
  have h3 := h.2.1 3 (by decide)
  have i : ∀ a b, τ a = τ b → a = b := fun a b e => by have := congrArg τ e; rwa [h.1, h.1] at this
  have d01 : τ 0 ≠ τ 1 := fun q => absurd (i 0 1 q) (by decide)
  have d02 : τ 0 ≠ τ 2 := fun q => absurd (i 0 2 q) (by decide)
  have d03 : τ 0 ≠ τ 3 := fun q => absurd (i 0 3 q) (by decide)
  have d12 : τ 1 ≠ τ 2 := fun q => absurd (i 1 2 q) (by decide)
  have d13 : τ 1 ≠ τ 3 := fun q => absurd (i 1 3 q) (by decide)
  have d23 : τ 2 ≠ τ 3 := fun q => absurd (i 2 3 q) (by decide)
  generalize τ 0 = a at *
  generalize τ 1 = b at *
  generalize τ 2 = c at *
  generalize τ 3 = d at *
  clear i h
  rcases (show a = 0 ∨ a = 1 ∨ a = 2 ∨ a = 3 by omega) with rfl | rfl | rfl | rfl <;> rcases (show b = 0 ∨ b = 1 ∨ b = 2 ∨ b = 3 by omega) with rfl | rfl | rfl | rfl <;> (first | exact absurd rfl d01 | skip) <;> rcases (show c = 0 ∨ c = 1 ∨ c = 2 ∨ c = 3 by omega) with rfl | rfl | rfl | rfl <;> (first | exact absurd rfl d02 | exact absurd rfl d12 | skip) <;> rcases (show d = 0 ∨ d = 1 ∨ d = 2 ∨ d = 3 by omega) with rfl | rfl | rfl | rfl <;> (first | exact absurd rfl d03 | exact absurd rfl d13 | exact absurd rfl d23 | omega)
theorem blk_sw {n : Nat} {τ : Nat → Nat} (h : tau n τ) (Y : Nat → List Nat) : blk (sw τ Y) = blk Y := sum4 (f := fun s => blkl (Y s)) h
theorem mayb_sw {man n t : Nat} {τ : Nat → Nat} (h : tau n τ) (Y : Nat → List Nat) (a b : Nat) : mayb man n t (sw τ Y) a b = mayb man n t Y (τ a) (τ b) := by
  have e : (mayb man n t (sw τ Y) a b = true) ↔ (mayb man n t Y (τ a) (τ b) = true) := by
    rw [mayb_iff, mayb_iff, tau_lt h, tau_lt h, mn_sw h]
    have : a ≠ b ↔ τ a ≠ τ b := ⟨fun q z => q (by have := congrArg τ z; rwa [h.1, h.1] at this), fun q z => q (by rw [z])⟩
    rw [this]
    exact Iff.rfl
  by_cases p : mayb man n t Y (τ a) (τ b) = true
  · rw [p, e.mpr p]
  · rw [Bool.eq_false_iff.mpr p, Bool.eq_false_iff.mpr (fun q => p (e.mp q))]
theorem chd_sw {man n t : Nat} {τ : Nat → Nat} (h : tau n τ) (Y : Nat → List Nat) {a b : Nat} (hb : b < 4) (hτb : τ b < 4) : chd man n t (sw τ Y) (4 * a + b) = sw τ (chd man n t Y (4 * τ a + τ b)) := by
  unfold chd stl
  rw [show (4 * a + b) / 4 = a by omega, show (4 * a + b) % 4 = b by omega, show (4 * τ a + τ b) / 4 = τ a by omega, show (4 * τ a + τ b) % 4 = τ b by omega, mv_sw h]
  split
  · rfl
  · rw [lv_sw h]
theorem way_sw {man n t : Nat} (hn : n ≤ 4) {τ : Nat → Nat} (h : tau n τ) : ∀ (k : Nat) (Y : Nat → List Nat), way man n t k Y = none → way man n t k (sw τ Y) = none
  | 0, Y, q => by
    rw [way_0] at q ⊢
    rw [blk_sw h]
    exact q
  | k + 1, Y, q => by
    by_cases hb : blk Y = 0
    · rw [way_done hb] at q; cases q
    · rw [way_none_iff hb] at q
      rw [way_none_iff (by rw [blk_sw h]; exact hb)]
      intro m hm h1
      rw [mayb_sw h] at h1
      have ha := (mayb_iff.mp h1).1
      have hb2 := (mayb_iff.mp h1).2.1
      have e1 : (4 * τ (m / 4) + τ (m % 4)) / 4 = τ (m / 4) := by omega
      have e2 : (4 * τ (m / 4) + τ (m % 4)) % 4 = τ (m % 4) := by omega
      have := q (4 * τ (m / 4) + τ (m % 4)) (by omega) (by rw [e1, e2]; exact h1)
      have c := chd_sw (man := man) (t := t) h Y (a := m / 4) (b := m % 4) (by omega) (by omega)
      rw [show 4 * (m / 4) + m % 4 = m by omega] at c
      rw [c]
      exact way_sw hn h k _ this
