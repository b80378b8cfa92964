/-! leaving: any order comes to the same end -/
def bxY (Y : Nat → List Nat) : Nat := (Y 0).length + (Y 1).length + (Y 2).length + (Y 3).length
/-- the stack's top is of the next rank -/
def tp (Y : Nat → List Nat) (s : Nat) : Prop := s < 4 ∧ (Y s).head? = some (mn Y)
def nf (Y : Nat → List Nat) : Prop := ∀ s, ¬ tp Y s
theorem tp_cons {Y : Nat → List Nat} {s : Nat} (h : tp Y s) : ∃ l, Y s = mn Y :: l := by
  cases hY : Y s with
  | nil => have := h.2; rw [hY] at this; cases this
  | cons a l => have := h.2; rw [hY] at this; cases this; exact ⟨l, rfl⟩
theorem bx_rm {Y : Nat → List Nat} {s : Nat} (hs : s < 4) (hne : Y s ≠ []) : bxY (rm Y s) + 1 = bxY Y := by
  cases hY : Y s with
  | nil => exact absurd hY hne
  | cons a l =>
    have hlen : (Y s).length = l.length + 1 := by rw [hY]; rfl
    have e : (rm Y s s).length = l.length := by rw [rm_s, hY]; rfl
    unfold bxY
    rcases (show s = 0 ∨ s = 1 ∨ s = 2 ∨ s = 3 by omega) with rfl | rfl | rfl | rfl
    · rw [rm_n (show 1 ≠ 0 by decide), rm_n (show 2 ≠ 0 by decide), rm_n (show 3 ≠ 0 by decide)]; omega
    · rw [rm_n (show 0 ≠ 1 by decide), rm_n (show 2 ≠ 1 by decide), rm_n (show 3 ≠ 1 by decide)]; omega
    · rw [rm_n (show 0 ≠ 2 by decide), rm_n (show 1 ≠ 2 by decide), rm_n (show 3 ≠ 2 by decide)]; omega
    · rw [rm_n (show 0 ≠ 3 by decide), rm_n (show 1 ≠ 3 by decide), rm_n (show 2 ≠ 3 by decide)]; omega
theorem tp_ne {Y : Nat → List Nat} {s : Nat} (h : tp Y s) : Y s ≠ [] := by
  obtain ⟨l, e⟩ := tp_cons h
  rw [e]
  exact List.cons_ne_nil _ _
theorem mem_rm {Y : Nat → List Nat} {s q r : Nat} (h : r ∈ rm Y s q) : r ∈ Y q := by
  by_cases e : q = s
  · subst e
    rw [rm_s] at h
    exact List.mem_of_mem_tail h
  · rwa [rm_n e] at h
theorem rm_comm (Y : Nat → List Nat) {a b : Nat} (h : a ≠ b) : rm (rm Y a) b = rm (rm Y b) a := by
  funext q
  by_cases e1 : q = a
  · subst e1
    rw [rm_n h, rm_s, rm_s, rm_n h]
  · by_cases e2 : q = b
    · subst e2
      rw [rm_s, rm_n e1, rm_n e1, rm_s]
    · rw [rm_n e2, rm_n e1, rm_n e1, rm_n e2]
theorem tp_rm {Y : Nat → List Nat} {a b : Nat} (h : a ≠ b) (hb : tp Y b) : tp (rm Y a) b ∧ mn (rm Y a) = mn Y := by
  have e : rm Y a b = Y b := rm_n (Ne.symm h)
  obtain ⟨l, hl⟩ := tp_cons hb
  have hm : mn (rm Y a) = mn Y := mn_uni (fun s r hs hr => mn_le hs (mem_rm hr)) (mn_7 Y) (Or.inr ⟨b, hb.1, by rw [e, hl]; exact List.mem_cons_self⟩)
  exact ⟨⟨hb.1, by rw [e, hm]; exact hb.2⟩, hm⟩
/-- a row of stacks that boxes leave from -/
def rn : List Nat → (Nat → List Nat) → (Nat → List Nat) → Prop
  | [], Y, Z => Z = Y
  | s :: l, Y, Z => tp Y s ∧ rn l (rm Y s) Z
theorem rn_app : ∀ (l m : List Nat) (Y Z V : Nat → List Nat), rn l Y Z → rn m Z V → rn (l ++ m) Y V
  | [], m, Y, Z, V, h1, h2 => by cases h1; exact h2
  | s :: l, m, Y, Z, V, h1, h2 => ⟨h1.1, rn_app l m _ Z V h1.2 h2⟩
theorem rn_ok {n t : Nat} : ∀ (l : List Nat) (Y Z : Nat → List Nat), okY n t Y → rn l Y Z → okY n t Z
  | [], Y, Z, h, h1 => by cases h1; exact h
  | s :: l, Y, Z, h, h1 => rn_ok l _ Z (okY_rm h s) h1.2
theorem rn_mem : ∀ (l : List Nat) (Y Z : Nat → List Nat), rn l Y Z → ∀ s r, r ∈ Z s → r ∈ Y s
  | [], Y, Z, h, s, r, hr => by cases h; exact hr
  | q :: l, Y, Z, h, s, r, hr => mem_rm (rn_mem l _ Z h.2 s r hr)
/-- the first such stack -/
def ftp (Y : Nat → List Nat) : Option Nat := (List.range 4).find? (fun s => (Y s).head? == some (mn Y))
theorem ftp_some {Y : Nat → List Nat} {s : Nat} (h : ftp Y = some s) : tp Y s := by
  have h1 := List.mem_of_find?_eq_some h
  have h2 := List.find?_some h
  exact ⟨List.mem_range.mp h1, by simpa using h2⟩
theorem ftp_none {Y : Nat → List Nat} (h : ftp Y = none) : nf Y := by
  intro s hs
  have := List.find?_eq_none.mp h s (List.mem_range.mpr hs.1)
  simp [hs.2] at this
def lvf : Nat → (Nat → List Nat) → Nat → List Nat
  | 0, Y => Y
  | k + 1, Y => match ftp Y with
    | none => Y
    | some s => lvf k (rm Y s)
theorem lvf_none {k : Nat} {Y : Nat → List Nat} (h : ftp Y = none) : lvf (k + 1) Y = Y := by
  show (match ftp Y with | none => Y | some s => lvf k (rm Y s)) = Y
  rw [h]
theorem lvf_some {k s : Nat} {Y : Nat → List Nat} (h : ftp Y = some s) : lvf (k + 1) Y = lvf k (rm Y s) := by
  show (match ftp Y with | none => Y | some s => lvf k (rm Y s)) = _
  rw [h]
theorem nf_empty {Y : Nat → List Nat} (h : bxY Y = 0) : nf Y := by
  intro s hs
  have hne := tp_ne hs
  have := bx_rm hs.1 hne
  omega
theorem lvf_run : ∀ (k : Nat) (Y : Nat → List Nat), bxY Y ≤ k → ∃ l, rn l Y (lvf k Y) ∧ nf (lvf k Y)
  | 0, Y, h => ⟨[], rfl, nf_empty (Y := Y) (by omega)⟩
  | k + 1, Y, h => by
    cases hf : ftp Y with
    | none => rw [lvf_none hf]; exact ⟨[], rfl, ftp_none hf⟩
    | some s =>
      have ht := ftp_some hf
      have hb := bx_rm ht.1 (tp_ne ht)
      obtain ⟨l, h1, h2⟩ := lvf_run k (rm Y s) (by omega)
      rw [lvf_some hf]
      exact ⟨s :: l, ⟨ht, h1⟩, h2⟩
theorem nf_end : ∀ (k : Nat) (Y : Nat → List Nat), bxY Y ≤ k → ∀ (l m : List Nat) (Z V : Nat → List Nat), rn l Y Z → nf Z → rn m Y V → nf V → Z = V
  | k, Y, h, [], [], Z, V, h1, _, h2, _ => by cases h1; cases h2; rfl
  | k, Y, h, [], s :: m, Z, V, h1, hZ, h2, _ => by cases h1; exact absurd h2.1 (hZ s)
  | k, Y, h, s :: l, [], Z, V, h1, _, h2, hV => by cases h2; exact absurd h1.1 (hV s)
  | 0, Y, h, s :: l, q :: m, Z, V, h1, _, _, _ => by
    have := bx_rm h1.1.1 (tp_ne h1.1)
    omega
  | k + 1, Y, h, s :: l, q :: m, Z, V, h1, hZ, h2, hV => by
    have b1 := bx_rm h1.1.1 (tp_ne h1.1)
    have b2 := bx_rm h2.1.1 (tp_ne h2.1)
    by_cases e : s = q
    · subst e
      exact nf_end k (rm Y s) (by omega) l m Z V h1.2 hZ h2.2 hV
    · have t1 := (tp_rm e h2.1).1
      have t2 := (tp_rm (Ne.symm e) h1.1).1
      have b3 := bx_rm t1.1 (tp_ne t1)
      obtain ⟨j, r1, r2⟩ := lvf_run k (rm (rm Y s) q) (by omega)
      have a1 := nf_end k (rm Y s) (by omega) l (q :: j) Z _ h1.2 hZ ⟨t1, r1⟩ r2
      have a2 := nf_end k (rm Y q) (by omega) m (s :: j) V _ h2.2 hV ⟨t2, by rw [← rm_comm Y e]; exact r1⟩ r2
      exact a1.trans a2.symm
/-- what is left behind leaving -/
def lv (Y : Nat → List Nat) : Nat → List Nat := lvf (bxY Y) Y
theorem lv_run (Y : Nat → List Nat) : ∃ l, rn l Y (lv Y) ∧ nf (lv Y) := lvf_run _ Y (Nat.le_refl _)
theorem lv_nf (Y : Nat → List Nat) : nf (lv Y) := (lv_run Y).choose_spec.2
theorem lv_eq {Y Z : Nat → List Nat} {l : List Nat} (h : rn l Y Z) (hZ : nf Z) : Z = lv Y := by
  obtain ⟨m, h1, h2⟩ := lv_run Y
  exact nf_end _ Y (Nat.le_refl _) l m Z _ h hZ h1 h2
theorem lvf_lv {k : Nat} {Y : Nat → List Nat} (h : bxY Y ≤ k) : lvf k Y = lv Y := by
  obtain ⟨l, h1, h2⟩ := lvf_run k Y h
  exact lv_eq h1 h2
theorem lv_ok {n t : Nat} {Y : Nat → List Nat} (h : okY n t Y) : okY n t (lv Y) := by
  obtain ⟨l, h1, -⟩ := lv_run Y
  exact rn_ok l Y _ h h1
theorem rn_bx : ∀ (l : List Nat) (Y Z : Nat → List Nat), rn l Y Z → bxY Z ≤ bxY Y
  | [], Y, Z, h => by cases h; exact Nat.le_refl _
  | s :: l, Y, Z, h => by
    have := rn_bx l _ Z h.2
    have := bx_rm h.1.1 (tp_ne h.1)
    omega
theorem lv_bx (Y : Nat → List Nat) : bxY (lv Y) ≤ bxY Y := by
  obtain ⟨l, h1, -⟩ := lv_run Y
  exact rn_bx l Y _ h1
/-! the class's way of leaving -/
theorem yst_cE {n t : Nat} {Y : Nat → List Nat} (h : okY n t Y) (ht : t ≤ 4) : yst (cE Y) (ylo (cE Y) 16) = ftp Y := by
  unfold yst ftp
  rw [ylo_cE h ht]
  have hm : 1 ≤ mn Y := by
    rcases mn_in Y with q | ⟨s, hs, hr⟩
    · omega
    · exact ((h.1 s).2 _ hr).1
  have key : ∀ s, s < 4 → (decide (yr (yw (cE Y) s) 0 = mn Y)) = ((Y s).head? == some (mn Y)) := by
    intro s hs
    rw [yr_top h ht hs]
    cases hY : Y s with
    | nil =>
      show decide (0 = mn Y) = (none == some (mn Y))
      have : ¬ 0 = mn Y := by omega
      simp [this]
    | cons a l =>
      show decide (a = mn Y) = (some a == some (mn Y))
      by_cases q : a = mn Y
      · simp [q]
      · simp [q]
  simp only [List.range, List.range.loop, List.find?]
  rw [key 0 (by decide), key 1 (by decide), key 2 (by decide), key 3 (by decide)]
theorem yaf_cE {n t : Nat} (ht : t ≤ 4) : ∀ (k : Nat) (Y : Nat → List Nat), okY n t Y → yaf k (cE Y) = cE (lvf k Y)
  | 0, Y, _ => rfl
  | k + 1, Y, h => by
    show (match yst (cE Y) (ylo (cE Y) 16) with | none => cE Y | some s => yaf k (ylift (cE Y) s)) = _
    rw [yst_cE h ht]
    cases hf : ftp Y with
    | none => rw [lvf_none hf]
    | some s =>
      rw [lvf_some hf]
      show yaf k (ylift (cE Y) s) = _
      rw [ylift_cE h ht (ftp_some hf).1, yaf_cE ht k (rm Y s) (okY_rm h s)]
theorem yaf_lv {n t : Nat} {Y : Nat → List Nat} (h : okY n t Y) (ht : t ≤ 4) (hb : bxY Y ≤ 6) : yaf 6 (cE Y) = cE (lv Y) := by
  rw [yaf_cE ht 6 Y h, lvf_lv hb]
/-! the reference's way of leaving -/
theorem mps_mE {n t : Nat} (ht : t ≤ 4) (hn : n ≤ 4) {Y : Nat → List Nat} (h : okY n t Y) : ∀ s, s ≤ n → ∃ l Z, rn l Y Z ∧ (mps (mn Y) t (mE Y) s).1 = mE Z ∧ ((mps (mn Y) t (mE Y) s).2 = 0 → Z = Y ∧ ∀ q, q < s → (Y q).head? ≠ some (mn Y))
  | 0, _ => ⟨[], Y, rfl, rfl, fun _ => ⟨rfl, fun q hq => absurd hq (Nat.not_lt_zero q)⟩⟩
  | s + 1, hs => by
    obtain ⟨l, Z, h1, h2, h3⟩ := mps_mE ht hn h s (Nat.le_of_succ_le hs)
    have hZ := rn_ok l Y Z h h1
    have hs4 : s < 4 := by omega
    rw [mps_s, h2, mht_mE hZ ht hs4]
    by_cases c : 0 < (Z s).length ∧ yr (mE Z) (4 * s + ((Z s).length - 1)) = mn Y
    · rw [if_pos c]
      cases hc : Z s with
      | nil => rw [hc] at c; exact absurd c.1 (by decide)
      | cons a m =>
        rw [hc] at c
        have e := mtop_mE hZ ht hs4 hc
        rw [hc] at e
        have ea : a = mn Y := by rw [← e]; exact c.2
        have hmZ : mn Z = mn Y := mn_uni (fun q r hq hr => mn_le hq (rn_mem l Y Z h1 q r hr)) (mn_7 Y) (Or.inr ⟨s, hs4, by rw [hc, ea]; exact List.mem_cons_self⟩)
        have htp : tp Z s := ⟨hs4, by rw [hc, hmZ, ea]; rfl⟩
        refine ⟨l ++ [s], rm Z s, rn_app l [s] Y Z _ h1 ⟨htp, rfl⟩, ?_, fun q => absurd (show (1 : Nat) = 0 from q) (by decide)⟩
        show mwo (mE Z) _ = _
        have := mwo_mE hZ ht hs4 (tp_ne htp)
        rw [hc] at this
        exact this
    · rw [if_neg c]
      refine ⟨l, Z, h1, h2, fun q0 => ?_⟩
      obtain ⟨e, hq⟩ := h3 q0
      subst e
      refine ⟨rfl, fun q hlt => ?_⟩
      by_cases e2 : q = s
      · rw [e2]
        intro hh
        cases hc : Z s with
        | nil => rw [hc] at hh; cases hh
        | cons a m =>
          rw [hc] at hh
          cases hh
          refine c ⟨by rw [hc]; exact Nat.succ_pos _, ?_⟩
          exact mtop_mE hZ ht hs4 hc
      · exact hq q (by omega)
theorem mleft_mE {n t : Nat} (ht : t ≤ 4) (hn : n ≤ 4) : ∀ (f : Nat) (Y : Nat → List Nat), mE Y < f → okY n t Y → ∃ l Z, rn l Y Z ∧ nf Z ∧ mleft n t (mE Y) = mE Z
  | 0, Y, hf, _ => absurd hf (Nat.not_lt_zero _)
  | f + 1, Y, hf, h => by
    obtain ⟨l, Z, h1, h2, h3⟩ := mps_mE ht hn h n (Nat.le_refl n)
    rw [mleft_eq, ylo_mE h ht]
    split
    · next c =>
      obtain ⟨e, hq⟩ := h3 c
      subst e
      refine ⟨l, Z, h1, fun s hs => ?_, h2⟩
      by_cases q : s < n
      · exact hq s q hs.2
      · have := h.2 s (by omega)
        exact tp_ne hs this
    · next c =>
      have hlt := (mps_ok (mn Y) t (mE Y) n).2.2 c
      rw [h2] at hlt ⊢
      obtain ⟨l2, Z2, a, b, c2⟩ := mleft_mE ht hn f Z (by omega) (rn_ok l Y Z h h1)
      exact ⟨l ++ l2, Z2, rn_app l l2 Y Z Z2 h1 a, b, c2⟩
theorem mleft_lv {n t : Nat} {Y : Nat → List Nat} (h : okY n t Y) (ht : t ≤ 4) (hn : n ≤ 4) : mleft n t (mE Y) = mE (lv Y) := by
  obtain ⟨l, Z, a, b, c⟩ := mleft_mE ht hn (mE Y + 1) Y (Nat.lt_succ_self _) h
  rw [c, lv_eq a b]
