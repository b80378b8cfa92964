/-! the reference's table and its depth-first search -/
theorem mE_inj {n t : Nat} (hn : n ≤ 4) (ht : t ≤ 4) {Y Z : Nat → List Nat} (hY : okY n t Y) (hZ : okY n t Z) (h : mE Y = mE Z) : Y = Z := by
  funext s
  by_cases hs : s < 4
  · have h1 := yw_cE (okY_rev hY) ht hs
    have h2 := yw_cE (okY_rev hZ) ht hs
    have e : wd ((Y s).reverse) = wd ((Z s).reverse) := by
      have e1 : yw (mE Y) s = yw (mE Z) s := by rw [h]
      exact h1.symm.trans (e1.trans h2)
    have d1 := dec_wd 4 (Y s).reverse (by rw [List.length_reverse]; exact Nat.le_trans (hY.1 s).1 ht) (okl_rev (hY.1 s)).2
    have d2 := dec_wd 4 (Z s).reverse (by rw [List.length_reverse]; exact Nat.le_trans (hZ.1 s).1 ht) (okl_rev (hZ.1 s)).2
    rw [e, d2] at d1
    exact (List.reverse_inj.mp d1).symm
  · rw [hY.2 s (by omega), hZ.2 s (by omega)]
def tI (man n t : Nat) (bs : List Nat) (V Yd : Nat → Nat) : Prop :=
  (∀ j, V j < 128) ∧ (∀ j, Yd j < 2 ^ 63) ∧
  (∀ q, q < 131072 → 0 < V q → (∃ Z, okY n t Z ∧ cb bs Z ∧ Yd q = mE Z ∧ way man n t (V q - 1) Z = none) ∧ ∃ i, i < 131072 ∧ q = (mhash (Yd q) + i) % 131072 ∧ ∀ j, j < i → 0 < V ((mhash (Yd q) + j) % 131072)) ∧
  ∀ p q, p < 131072 → q < 131072 → 0 < V p → 0 < V q → Yd p = Yd q → p = q
theorem tI_0 {man n t : Nat} {bs : List Nat} {V Yd : Nat → Nat} (hV : ∀ j, V j < 128) (hY : ∀ j, Yd j < 2 ^ 63) : tI man n t bs (zr 131072 0 V) Yd := by
  have z : ∀ q, q < 131072 → ¬ 0 < zr 131072 0 V q := fun q hq => by unfold zr; rw [if_pos hq]; omega
  refine ⟨fun j => ?_, hY, fun q hq h => absurd h (z q hq), fun p q hp _ h => absurd h (z p hp)⟩
  have := hV j
  unfold zr
  split <;> omega
theorem tI_free {man n t : Nat} {bs : List Nat} {V Yd : Nat → Nat} (hl : bs.length ≤ 6) (h : tI man n t bs V Yd) : ∃ q, q < 131072 ∧ V q = 0 := by
  refine Classical.byContradiction (fun hc => ?_)
  have occ : ∀ q, q < 131072 → 0 < V q := fun q hq => Nat.pos_of_ne_zero (fun e => hc ⟨q, hq, e⟩)
  refine not_full (n := n) (t := t) hl (N := 131072) rfl Yd (fun q hq => ?_) (fun p q hp hq e => h.2.2.2 p q hp hq (occ p hp) (occ q hq) e)
  obtain ⟨⟨Z, h1, h2, h3, -⟩, -⟩ := h.2.2.1 q hq (occ q hq)
  exact ⟨Z, h1, h2, h3⟩
theorem tI_place {man n t : Nat} {bs : List Nat} {V Yd : Nat → Nat} (hl : bs.length ≤ 6) (h : tI man n t bs V Yd) (x : Nat) : ∃ i, i < 131072 ∧ (∀ j, j < i → 0 < V ((mhash x + j) % 131072) ∧ Yd ((mhash x + j) % 131072) ≠ x) ∧ (V ((mhash x + i) % 131072) = 0 ∨ Yd ((mhash x + i) % 131072) = x) := by
  obtain ⟨q, hq, hz⟩ := tI_free hl h
  have hh := mhash_lt x
  have ex : ∃ i, V ((mhash x + i) % 131072) = 0 ∨ Yd ((mhash x + i) % 131072) = x := ⟨(q + 131072 - mhash x) % 131072, Or.inl (by rw [show (mhash x + (q + 131072 - mhash x) % 131072) % 131072 = q by omega]; exact hz)⟩
  obtain ⟨i, h1, h2⟩ := pk_least (fun i => V ((mhash x + i) % 131072) = 0 ∨ Yd ((mhash x + i) % 131072) = x) ex
  refine ⟨i, ?_, fun j hj => ?_, h1⟩
  · rcases Nat.lt_or_ge i 131072 with c | c
    · exact c
    · refine absurd (Or.inl ?_) (h2 ((q + 131072 - mhash x) % 131072) (by omega))
      show V ((mhash x + (q + 131072 - mhash x) % 131072) % 131072) = 0
      rw [show (mhash x + (q + 131072 - mhash x) % 131072) % 131072 = q by omega]
      exact hz
  · have := h2 j hj
    exact ⟨Nat.pos_of_ne_zero (fun e => this (Or.inl e)), fun e => this (Or.inr e)⟩
theorem tI_hit {man n t : Nat} {bs : List Nat} {V Yd : Nat → Nat} (hn : n ≤ 4) (ht : t ≤ 4) (h : tI man n t bs V Yd) {Z : Nat → List Nat} (hZ : okY n t Z) {q left : Nat} (hq : q < 131072) (hs : V q = 0 ∨ Yd q = mE Z) (hv : left < V q) : way man n t left Z = none := by
  obtain ⟨⟨Z', h1, -, h3, h4⟩, -⟩ := h.2.2.1 q hq (by omega)
  have e : Z' = Z := mE_inj hn ht h1 hZ (by rw [← h3]; exact hs.resolve_left (by omega))
  rw [e] at h4
  exact way_le (by omega) h4
theorem tI_put {man n t : Nat} {bs : List Nat} {V Yd : Nat → Nat} (ht : t ≤ 4) (h : tI man n t bs V Yd) {Z : Nat → List Nat} (hZ : okY n t Z) (hc : cb bs Z) {i v : Nat} (hi : i < 131072) (hgo : ∀ j, j < i → 0 < V ((mhash (mE Z) + j) % 131072) ∧ Yd ((mhash (mE Z) + j) % 131072) ≠ mE Z) (hs : V ((mhash (mE Z) + i) % 131072) = 0 ∨ Yd ((mhash (mE Z) + i) % 131072) = mE Z) (hv : 0 < v ∧ v < 128) (hw : way man n t (v - 1) Z = none) :
    tI man n t bs (upN V ((mhash (mE Z) + i) % 131072) v) (upN Yd ((mhash (mE Z) + i) % 131072) (mE Z)) := by
  have hx := mE_lt hZ ht
  generalize hq0 : (mhash (mE Z) + i) % 131072 = q0 at *
  have hq : q0 < 131072 := by omega
  have pos : ∀ p, 0 < V p → 0 < upN V q0 v p := fun p hp => by
    unfold upN
    split
    · exact hv.1
    · exact hp
  refine ⟨fun j => ?_, fun j => ?_, fun q hqq hp => ?_, fun a b ha hb pa pb e => ?_⟩
  · have := h.1 j
    unfold upN
    split
    · exact hv.2
    · exact this
  · have := h.2.1 j
    unfold upN
    split
    · omega
    · exact this
  · by_cases c : q = q0
    · subst c
      refine ⟨⟨Z, hZ, hc, upN_s _ _ _, by rw [upN_s]; exact hw⟩, i, hi, ?_, fun j hj => ?_⟩
      · rw [upN_s]; exact hq0.symm
      · rw [upN_s]; exact pos _ (hgo j hj).1
    · rw [upN_n c] at hp
      obtain ⟨⟨Z', a, b, d, f⟩, i', a2, b2, c2⟩ := h.2.2.1 q hqq hp
      refine ⟨⟨Z', a, b, by rw [upN_n c]; exact d, by rw [upN_n c]; exact f⟩, i', a2, ?_, fun j hj => ?_⟩
      · rw [upN_n c]; exact b2
      · rw [upN_n c]; exact pos _ (c2 j hj)
  · have other : ∀ p, p < 131072 → p ≠ q0 → 0 < V p → Yd p = mE Z → False := by
      intro p hp hne hpos he
      obtain ⟨-, i', a2, b2, c2⟩ := h.2.2.1 p hp hpos
      rw [he] at b2 c2
      rcases Nat.lt_trichotomy i' i with z | z | z
      · exact (hgo i' z).2 (by rw [← b2]; exact he)
      · rw [z, hq0] at b2; exact hne b2
      · have h0 := c2 i z
        rw [hq0] at h0
        exact hne (h.2.2.2 p q0 hp hq hpos h0 (by rw [he, hs.resolve_left (by omega)]))
    by_cases c1 : a = q0
    · by_cases c2 : b = q0
      · rw [c1, c2]
      · exfalso
        subst c1
        rw [upN_n c2] at pb
        rw [upN_s, upN_n c2] at e
        exact other b hb c2 pb e.symm
    · by_cases c2 : b = q0
      · exfalso
        subst c2
        rw [upN_n c1] at pa
        rw [upN_s, upN_n c1] at e
        exact other a ha c1 pa e
      · rw [upN_n c1] at pa
        rw [upN_n c2] at pb
        rw [upN_n c1, upN_n c2] at e
        exact h.2.2.2 a b ha hb pa pb e
/-- the moves as the reference's rows hold them, with groups -/
def wsg (man n t : Nat) (GO F T M : Nat → Nat) : Nat → List Nat → (Nat → List Nat) → Prop
  | _, [], _ => True
  | d, m :: w, Y => (F d = m / 4 ∧ T d = m % 4 ∧ M d = GO ((Y (m / 4)).headD 0)) ∧ wsg man n t GO F T M (d + 1) w (chd man n t Y m)
/-- a level that stands open -/
def lvl (man n t lm : Nat) (GO : Nat → Nat) (Z Zn : Nat → List Nat) (i nx f tt mm : Nat) : Prop := 1 ≤ nx ∧ i < lm ∧ blk Z ≠ 0 ∧ mayb man n t Z ((nx - 1) / 4) ((nx - 1) % 4) = true ∧ Zn = chd man n t Z (nx - 1) ∧ (f = (nx - 1) / 4 ∧ tt = (nx - 1) % 4 ∧ mm = GO ((Z ((nx - 1) / 4)).headD 0)) ∧ flt man n t (lm - i - 1) Z (nx - 1)
def nodeI (man n t : Nat) (bs : List Nat) (Z : Nat → List Nat) (at' nx : Nat) : Prop := okY n t Z ∧ cb bs Z ∧ (man ≠ 2 → nf Z) ∧ at' = mE Z ∧ nx ≤ 16
def dfI (man n t lm : Nat) (bs : List Nat) (GO : Nat → Nat) (R : Nat → List Nat) (Zs : Nat → Nat → List Nat) (AT NX F T M : Nat → Nat) (k : Nat) : Prop :=
  Zs 0 = R ∧ (∀ i, i < k → nodeI man n t bs (Zs i) (AT i) (NX i)) ∧ (∀ i, i + 1 < k → lvl man n t lm GO (Zs i) (Zs (i + 1)) i (NX i) (F i) (T i) (M i)) ∧
  (∀ d, d + 1 = k → flt man n t (lm - d - 1) (Zs d) (NX d) ∧ (0 < NX d → blk (Zs d) ≠ 0 ∧ d < lm)) ∧ (k = 0 → way man n t lm R = none) ∧ k ≤ lm + 1
theorem dI_pop {man n t lm : Nat} {bs : List Nat} {GO : Nat → Nat} {R : Nat → List Nat} {Zs : Nat → Nat → List Nat} {AT NX F T M : Nat → Nat} {d : Nat} (h : dfI man n t lm bs GO R Zs AT NX F T M (d + 1)) (hw : way man n t (lm - d) (Zs d) = none) : dfI man n t lm bs GO R Zs AT NX F T M d := by
  obtain ⟨h0, h1, h2, h3, h4, h5⟩ := h
  refine ⟨h0, fun i hi => h1 i (by omega), fun i hi => h2 i (by omega), fun e he => ?_, fun he => ?_, by omega⟩
  · obtain ⟨a, b, c, f, g, -, j⟩ := h2 e (by omega)
    refine ⟨?_, fun _ => ⟨c, b⟩⟩
    have hz : way man n t (lm - e - 1) (chd man n t (Zs e) (NX e - 1)) = none := by
      rw [← g, show lm - e - 1 = lm - d by omega, show e + 1 = d by omega]; exact hw
    have := flt_s j (fun _ => hz)
    rwa [show NX e - 1 + 1 = NX e by omega] at this
  · rw [he] at hw
    rw [← h0]
    exact hw
theorem dI_push {man n t lm : Nat} (hn : n ≤ 4) {bs : List Nat} (hs : bs.Pairwise (fun a b => a ≤ b)) (hl : bs.length ≤ 6) {GO : Nat → Nat} {R : Nat → List Nat} {Zs : Nat → Nat → List Nat} {AT NX F T M : Nat → Nat} {d m : Nat} (h : dfI man n t lm bs GO R Zs AT NX F T M (d + 1)) (hb : blk (Zs d) ≠ 0) (hd : d < lm) (hm : m < 16) (hf : flt man n t (lm - d - 1) (Zs d) m) (hmay : mayb man n t (Zs d) (m / 4) (m % 4) = true) :
    dfI man n t lm bs GO R (fun i => if i = d + 1 then chd man n t (Zs d) m else Zs i) (upN AT (d + 1) (mE (chd man n t (Zs d) m))) (upN (upN NX d (m + 1)) (d + 1) 0) (upN F d (m / 4)) (upN T d (m % 4)) (upN M d (GO ((Zs d (m / 4)).headD 0))) (d + 2) := by
  obtain ⟨h0, h1, h2, h3, h4, h5⟩ := h
  have hdn := h1 d (Nat.lt_succ_self d)
  have hc := chd_ok hn hdn.1 hmay
  rw [show 4 * (m / 4) + m % 4 = m by omega] at hc
  refine ⟨?_, fun i hi => ?_, fun i hi => ?_, fun e he => ?_, fun q => absurd q (by omega), by omega⟩
  · show (if 0 = d + 1 then _ else Zs 0) = R
    rw [if_neg (by omega)]; exact h0
  · by_cases c : i = d + 1
    · subst c
      show nodeI man n t bs (if d + 1 = d + 1 then _ else _) _ _
      rw [if_pos rfl, upN_s, upN_s]
      exact ⟨hc.1, cb_chd hs hl hn hmay hdn.2.1, hc.2.2, rfl, by omega⟩
    · show nodeI man n t bs (if i = d + 1 then _ else _) _ _
      rw [if_neg c, upN_n c, upN_n c]
      obtain ⟨a, b, c2, f, g⟩ := h1 i (by omega)
      refine ⟨a, b, c2, f, ?_⟩
      unfold upN
      split
      · omega
      · exact g
  · show lvl man n t lm GO (if i = d + 1 then _ else Zs i) (if i + 1 = d + 1 then _ else Zs (i + 1)) i _ _ _ _
    rw [if_neg (show i ≠ d + 1 by omega), upN_n (show i ≠ d + 1 by omega)]
    by_cases c : i = d
    · subst c
      rw [if_pos rfl, upN_s, upN_s, upN_s, upN_s]
      exact ⟨by omega, hd, hb, by rw [show m + 1 - 1 = m by omega]; exact hmay, by rw [show m + 1 - 1 = m by omega], by rw [show m + 1 - 1 = m by omega]; exact ⟨rfl, rfl, rfl⟩, by rw [show m + 1 - 1 = m by omega]; exact hf⟩
    · rw [if_neg (by omega), upN_n c, upN_n c, upN_n c, upN_n c]
      exact h2 i (by omega)
  · have e1 : e = d + 1 := by omega
    subst e1
    rw [upN_s]
    exact ⟨flt_0, fun q => absurd q (by omega)⟩
theorem dI_path {man n t lm : Nat} {bs : List Nat} {GO : Nat → Nat} {R : Nat → List Nat} {Zs : Nat → Nat → List Nat} {AT NX F T M : Nat → Nat} {d : Nat} (h : dfI man n t lm bs GO R Zs AT NX F T M (d + 1)) (hb : blk (Zs d) = 0) : ∀ j i, i + j = d → ∃ w, way man n t (lm - i) (Zs i) = some w ∧ w.length = j ∧ wsg man n t GO F T M i w (Zs i)
  | 0, i, e => by
    rw [show i = d by omega]
    exact ⟨[], way_done hb, rfl, trivial⟩
  | j + 1, i, e => by
    obtain ⟨w, h1, h2, h3⟩ := dI_path h hb j (i + 1) (by omega)
    obtain ⟨a, b, c, f, g, k, l⟩ := h.2.2.1 i (by omega)
    have hnx := (h.2.1 i (by omega)).2.2.2.2
    refine ⟨(NX i - 1) :: w, ?_, by rw [List.length_cons, h2], ?_⟩
    · have := flt_hit c l (by omega) f (v := w) (by rw [← g, show lm - i - 1 = lm - (i + 1) by omega]; exact h1)
      rwa [show lm - i - 1 + 1 = lm - i by omega] at this
    · exact ⟨k, by rw [← g]; exact h3⟩
theorem dI_done {man n t lm : Nat} {bs : List Nat} {GO : Nat → Nat} {R : Nat → List Nat} {Zs : Nat → Nat → List Nat} {AT NX F T M : Nat → Nat} {d : Nat} (h : dfI man n t lm bs GO R Zs AT NX F T M (d + 1)) (hb : blk (Zs d) = 0) : ∃ w, way man n t lm R = some w ∧ w.length = d ∧ wsg man n t GO F T M 0 w R := by
  obtain ⟨w, h1, h2, h3⟩ := dI_path h hb d 0 (by omega)
  rw [h.1] at h1 h3
  exact ⟨w, h1, h2, h3⟩
theorem dI_0 {man n t lm : Nat} {bs : List Nat} {GO : Nat → Nat} {R : Nat → List Nat} {AT NX F T M : Nat → Nat} (h1 : okY n t R) (h2 : cb bs R) (h3 : man ≠ 2 → nf R) (h4 : AT 0 = mE R) : dfI man n t lm bs GO R (fun _ => R) AT (upN NX 0 0) F T M 1 := by
  refine ⟨rfl, fun i hi => ?_, fun i hi => absurd hi (by omega), fun d hd => ?_, fun q => absurd q (by decide), by omega⟩
  · rw [show i = 0 by omega, upN_s]
    exact ⟨h1, h2, h3, h4, by omega⟩
  · rw [show d = 0 by omega, upN_s]
    exact ⟨flt_0, fun q => absurd q (by omega)⟩
/-- what falls at every turn -/
def mu (NX : Nat → Nat) : Nat → Nat
  | 0 => 0
  | k + 1 => mu NX k + (17 - NX k) * 18 ^ (31 - k)
theorem mu_s (NX : Nat → Nat) (k : Nat) : mu NX (k + 1) = mu NX k + (17 - NX k) * 18 ^ (31 - k) := rfl
theorem mu_congr {A B : Nat → Nat} : ∀ k, (∀ i, i < k → A i = B i) → mu A k = mu B k
  | 0, _ => rfl
  | k + 1, h => by rw [mu_s, mu_s, mu_congr k (fun i hi => h i (by omega)), h k (Nat.lt_succ_self k)]
theorem mu_pop {NX : Nat → Nat} {d : Nat} (h : NX d ≤ 16) : mu NX d < mu NX (d + 1) := by
  rw [mu_s]
  have : 0 < (17 - NX d) * 18 ^ (31 - d) := Nat.mul_pos (by omega) (Nat.pow_pos (by decide))
  omega
theorem mu_push {NX : Nat → Nat} {d m : Nat} (hd : d < 31) (h1 : NX d ≤ m) (hm : m < 16) : mu (upN (upN NX d (m + 1)) (d + 1) 0) (d + 2) < mu NX (d + 1) := by
  rw [show d + 2 = (d + 1) + 1 from rfl, mu_s, mu_s, mu_s, upN_s, upN_n (show d ≠ d + 1 by omega), upN_s, mu_congr (B := NX) d (fun i hi => by rw [upN_n (by omega), upN_n (by omega)])]
  rw [show 31 - d = (31 - (d + 1)) + 1 by omega, Nat.pow_succ]
  have hp : 0 < 18 ^ (31 - (d + 1)) := Nat.pow_pos (by decide)
  generalize 18 ^ (31 - (d + 1)) = B at *
  have e : (17 - NX d) * (B * 18) = (17 - (m + 1)) * (B * 18) + (m + 1 - NX d) * (B * 18) := by
    rw [← Nat.add_mul]
    congr 1
    omega
  have f : 1 * (B * 18) ≤ (m + 1 - NX d) * (B * 18) := Nat.mul_le_mul_right _ (by omega)
  omega
/-- nothing is left at a node -/
theorem node_none {man n t lm d : Nat} {Z : Nat → List Nat} (hb : blk Z ≠ 0) (hd : d < lm) (h : flt man n t (lm - d - 1) Z 16) : way man n t (lm - d) Z = none := by
  rw [show lm - d = (lm - d - 1) + 1 by omega, way_none_iff hb]
  exact fun m hm h2 => h m hm hm h2
theorem node_zero {man n t lm d : Nat} {Z : Nat → List Nat} (hb : blk Z ≠ 0) (hd : lm ≤ d) : way man n t (lm - d) Z = none := by
  rw [show lm - d = 0 by omega, way_0, if_neg hb]
/-- the reference's test of a move -/
theorem mmay_mE {man n t a b : Nat} (hn : n ≤ 4) {Z : Nat → List Nat} (h : okY n t Z) (ht : t ≤ 4) (ha : a < 4) (hb : b < 4) : mmay man (mE Z) a b n t = mayb man n t Z a b := by
  have hl := (h.1 b).1
  have e : (mmay man (mE Z) a b n t = true) ↔ (mayb man n t Z a b = true) := by
    rw [mmay_iff, mayb_iff, mht_mE h ht ha, mht_mE h ht hb, ylo_mE h ht]
    have e1 : (Z a).length ≠ 0 ↔ Z a ≠ [] := by
      cases Z a with
      | nil => exact ⟨fun q => absurd rfl q, fun q => absurd rfl q⟩
      | cons x l => exact ⟨fun _ => List.cons_ne_nil _ _, fun _ => Nat.succ_ne_zero _⟩
    have e2 : mhn (mE Z) a (mn Z) t = true ↔ mn Z ∈ Z a := by
      unfold mhn
      rw [anb_iff]
      have hm : 1 ≤ mn Z := by
        rcases mn_in Z with q | ⟨s, hs, hr⟩
        · omega
        · exact ((h.1 s).2 _ hr).1
      constructor
      · rintro ⟨j, hj, hd⟩
        have hd := of_decide_eq_true hd
        rw [yr_mE h ht ha (by omega)] at hd
        rw [← hd]
        exact List.mem_reverse.mp (getD_mem (by omega))
      · intro q
        obtain ⟨j, hj, e⟩ := mem_getD (List.mem_reverse.mpr q)
        rw [List.length_reverse] at hj
        have := (h.1 a).1
        exact ⟨j, by omega, decide_eq_true (by rw [yr_mE h ht ha (by omega)]; exact e)⟩
    rw [e1, e2]
  by_cases p : mayb man n t Z a b = true
  · rw [p, e.mpr p]
  · rw [Bool.eq_false_iff.mpr p, Bool.eq_false_iff.mpr (fun q => p (e.mp q))]
