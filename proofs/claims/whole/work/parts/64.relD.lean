/-! ways, step by step -/
def wpath (man n t : Nat) : List Nat → (Nat → List Nat) → Prop
  | [], _ => True
  | m :: w, Y => m < 16 ∧ mayb man n t Y (m / 4) (m % 4) = true ∧ wpath man n t w (chd man n t Y m)
def wend (man n t : Nat) : List Nat → (Nat → List Nat) → Nat → List Nat
  | [], Y => Y
  | m :: w, Y => wend man n t w (chd man n t Y m)
theorem way_path {man n t : Nat} : ∀ (k : Nat) (Y : Nat → List Nat) (w : List Nat), way man n t k Y = some w → wpath man n t w Y
  | 0, Y, w, h => by
    rw [way_0] at h
    split at h
    · cases h; trivial
    · cases h
  | k + 1, Y, w, h => by
    by_cases hb : blk Y = 0
    · rw [way_done hb] at h
      cases h; trivial
    · rw [way_s, if_neg hb] at h
      obtain ⟨q, -, hq, hf, -⟩ := ffo_get 16 0 h
      obtain ⟨hm, v, hv, rfl⟩ := wfn_some hf
      exact ⟨by omega, hm, way_path k _ v hv⟩
theorem wend_snoc {man n t : Nat} (m : Nat) : ∀ (l : List Nat) (Y : Nat → List Nat), wend man n t (l ++ [m]) Y = chd man n t (wend man n t l Y) m
  | [], Y => rfl
  | a :: l, Y => wend_snoc m l (chd man n t Y a)
theorem wend_take {man n t : Nat} (w : List Nat) (Y : Nat → List Nat) {i : Nat} (hi : i < w.length) : wend man n t (w.take (i + 1)) Y = chd man n t (wend man n t (w.take i) Y) (w.getD i 0) := by
  rw [take_snoc w hi, wend_snoc]
theorem wpath_ok {man n t : Nat} (hn : n ≤ 4) {A : Nat → List Nat} : ∀ (w : List Nat) (Y : Nat → List Nat), okY n t Y → bxY Y ≤ 6 → zin A Y → wpath man n t w Y → ∀ i, i ≤ w.length → (okY n t (wend man n t (w.take i) Y) ∧ bxY (wend man n t (w.take i) Y) ≤ 6 ∧ zin A (wend man n t (w.take i) Y)) ∧ (i < w.length → w.getD i 0 < 16 ∧ mayb man n t (wend man n t (w.take i) Y) (w.getD i 0 / 4) (w.getD i 0 % 4) = true)
  | [], Y, h1, h2, h3, _, i, hi => ⟨by rw [List.take_nil]; exact ⟨h1, h2, h3⟩, fun h => absurd h (by simp)⟩
  | m :: w, Y, h1, h2, h3, hp, 0, hi => ⟨⟨h1, h2, h3⟩, fun _ => ⟨hp.1, hp.2.1⟩⟩
  | m :: w, Y, h1, h2, h3, hp, i + 1, hi => by
    have hm := hp.2.1
    have hc := chd_ok hn h1 hm
    rw [show 4 * (m / 4) + m % 4 = m by omega] at hc
    have hz : zin A (chd man n t Y m) := zin_stl man (zin_mv h3 (mayb_iff.mp hm).2.2.2.1)
    have ih := wpath_ok hn w _ hc.1 (by omega) hz hp.2.2 i (by rw [List.length_cons] at hi; omega)
    refine ⟨ih.1, fun h => ?_⟩
    exact ih.2 (by rw [List.length_cons] at h; omega)
theorem wst_at {man n t : Nat} {F T M : Nat → Nat} : ∀ (w : List Nat) (d : Nat) (Y : Nat → List Nat), wst man n t F T M d w Y → ∀ i, i < w.length → F (d + i) = w.getD i 0 / 4 ∧ T (d + i) = w.getD i 0 % 4 ∧ M (d + i) = (wend man n t (w.take i) Y (w.getD i 0 / 4)).headD 0
  | [], _, _, _, i, hi => absurd hi (by simp)
  | m :: w, d, Y, h, 0, hi => h.1
  | m :: w, d, Y, h, i + 1, hi => by
    have := wst_at w (d + 1) _ h.2 i (by rw [List.length_cons] at hi; omega)
    rw [show d + 1 + i = d + (i + 1) by omega] at this
    exact this
theorem wsg_at {man n t : Nat} {GO F T M : Nat → Nat} : ∀ (w : List Nat) (d : Nat) (Y : Nat → List Nat), wsg man n t GO F T M d w Y → ∀ i, i < w.length → F (d + i) = w.getD i 0 / 4 ∧ T (d + i) = w.getD i 0 % 4 ∧ M (d + i) = GO ((wend man n t (w.take i) Y (w.getD i 0 / 4)).headD 0)
  | [], _, _, _, i, hi => absurd hi (by simp)
  | m :: w, d, Y, h, 0, hi => h.1
  | m :: w, d, Y, h, i + 1, hi => by
    have := wsg_at w (d + 1) _ h.2 i (by rw [List.length_cons] at hi; omega)
    rw [show d + 1 + i = d + (i + 1) by omega] at this
    exact this
theorem kpm_at {GP M : Nat → Nat} : ∀ k j, kpm GP M k j = if j < k then gpc GP (M j) else M j
  | 0, j => by rw [if_neg (by omega)]; rfl
  | k + 1, j => by
    show upN (kpm GP M k) k (gpc GP (kpm GP M k k)) j = _
    by_cases e : j = k
    · rw [e, upN_s, if_pos (by omega), kpm_k GP M k k (Nat.le_refl k)]
    · rw [upN_n e, kpm_at k j]
      by_cases v : j < k
      · rw [if_pos v, if_pos (by omega)]
      · rw [if_neg v, if_neg (by omega)]
theorem cpy_at (f g : Nat → Nat) : ∀ k j, cpy f g k j = if j < k then g j else f j
  | 0, j => by rw [if_neg (by omega)]; rfl
  | k + 1, j => by
    show upN (cpy f g k) k (g k) j = _
    by_cases e : j = k
    · rw [e, upN_s, if_pos (by omega)]
    · rw [upN_n e, cpy_at f g k j]
      by_cases v : j < k
      · rw [if_pos v, if_pos (by omega)]
      · rw [if_neg v, if_neg (by omega)]
/-- a legal move is the same for both -/
theorem may_len {n t man : Nat} {Y : Nat → List Nat} (h : okY n t Y) {a b : Nat} (hm : mayb man n t Y a b = true) : a < n ∧ b < n ∧ a ≠ b ∧ Y a ≠ [] ∧ (Y b).length < t := by
  obtain ⟨h1, h2, h3, h4, h5, -⟩ := mayb_iff.mp hm
  have := (h.1 b).1
  exact ⟨h1, h2, h3, h4, by omega⟩
theorem cfo_path {man n t : Nat} (hn : n ≤ 4) (ht : t ≤ 4) {A : Nat → List Nat} (h : ab n t A) {w : List Nat} (hp : wpath man n t w (stl man (yd A))) {F T : Nat → Nat} (hF : ∀ i, i < w.length → F i = w.getD i 0 / 4 ∧ T i = w.getD i 0 % 4) : ∀ i, i ≤ w.length → cfo man F T (cE (yd A)) i = cE (wend man n t (w.take i) (stl man (yd A)))
  | 0, _ => by
    have hy := yd_ok h hn
    show cst man (cE (yd A)) = cE (stl man (yd A))
    exact stl_cE ht hy.1 hy.2
  | i + 1, hi => by
    have ih := cfo_path hn ht h hp hF i (by omega)
    have hy := yd_ok h hn
    have hs := stl_ok (man := man) hy.1 hy.2
    obtain ⟨⟨o1, o2, -⟩, o3⟩ := wpath_ok hn (A := A) w _ hs.1 hs.2.1 (zin_stl man (zin_yd h hn)) hp i (by omega)
    obtain ⟨o4, o5⟩ := o3 (by omega)
    obtain ⟨m1, m2, m3, m4, m5⟩ := may_len o1 o5
    have hok := okY_mv o1 m3 m2 m4 m5
    have hbx := bx_mv (Y := wend man n t (w.take i) (stl man (yd A))) (a := w.getD i 0 / 4) (b := w.getD i 0 % 4) (by omega) (by omega) m4
    show cst man (yshift (cfo man F T (cE (yd A)) i) (F i) (T i)) = _
    rw [ih, (hF i (by omega)).1, (hF i (by omega)).2, yshift_cE o1 ht hn (by omega) m3 m2 m4 m5, wend_take w _ (by omega)]
    exact stl_cE ht hok (by omega)
theorem mfp_path {man n t : Nat} (hn : n ≤ 4) (ht : t ≤ 4) {A : Nat → List Nat} (h : ab n t A) {w : List Nat} (hp : wpath man n t w (stl man (yd A))) {F T : Nat → Nat} (hF : ∀ i, i < w.length → F i = w.getD i 0 / 4 ∧ T i = w.getD i 0 % 4) : ∀ i, i ≤ w.length → mfp man n t F T (if man = 2 then mE (yd A) else mleft n t (mE (yd A))) i = mE (wend man n t (w.take i) (stl man (yd A)))
  | 0, _ => by
    have hy := yd_ok h hn
    exact stl_mE ht hn hy.1
  | i + 1, hi => by
    have ih := mfp_path hn ht h hp hF i (by omega)
    have hy := yd_ok h hn
    have hs := stl_ok (man := man) hy.1 hy.2
    obtain ⟨⟨o1, o2, -⟩, o3⟩ := wpath_ok hn (A := A) w _ hs.1 hs.2.1 (zin_stl man (zin_yd h hn)) hp i (by omega)
    obtain ⟨o4, o5⟩ := o3 (by omega)
    obtain ⟨m1, m2, m3, m4, m5⟩ := may_len o1 o5
    have hok := okY_mv o1 m3 m2 m4 m5
    show (if man = 2 then mmv (mfp man n t F T _ i) (F i) (T i) t else mleft n t (mmv (mfp man n t F T _ i) (F i) (T i) t)) = _
    rw [ih, (hF i (by omega)).1, (hF i (by omega)).2, mmv_mE o1 ht hn (by omega) m3 m2 m4 m5, wend_take w _ (by omega)]
    exact stl_mE ht hn hok
/-- both states hold the same -/
def kept (n t : Nat) (ln mn : Int32) (F T M ST : Nat → Nat) (kp ma my : Nat) (F' T' M' WG : Nat → Nat) : Prop :=
  (kp = 0 ∧ ln = -1) ∨ (kp = 1 ∧ ∃ A0 w, ab n t A0 ∧ w.length = my ∧ wpath ma n t w (stl ma (yd A0)) ∧ ln = nI my ∧ mn = nI ma ∧ (∀ j, j < 16 → ST j = cel t A0 j) ∧ (∀ j, j < 16 → WG j = cel 4 A0 j) ∧ ∀ j, j < my → F j = w.getD j 0 / 4 ∧ T j = w.getD j 0 % 4 ∧ F' j = F j ∧ T' j = T j ∧ M' j = M j ∧ M j < 2147483648)
def bnd (RK E ST GO V Y WG M F' T' M' : Nat → Nat) (my kp ma : Nat) : Prop :=
  (∀ j, RK j < 8) ∧ (∀ j, E j < 2 ^ 54) ∧ (∀ j, ST j < 2147483648) ∧ (∀ j, GO j < 2147483648) ∧ (∀ j, V j < 128) ∧ (∀ j, Y j < 2 ^ 63) ∧ (∀ j, WG j < 2147483648) ∧ (∀ j, F' j < 4 ∧ T' j < 4) ∧ my ≤ 30 ∧ kp < 2 ∧ ma < 3
theorem kept_kpt {n t : Nat} {ln mn : Int32} {F T M ST : Nat → Nat} {kp ma my : Nat} {F' T' M' WG : Nat → Nat} (hn : n ≤ 4) (h : kept n t ln mn F T M ST kp ma my F' T' M' WG) (hm : my ≤ 30) (hma : ma < 3) : kpt ln mn F T := by
  rcases h with h | ⟨-, A0, w, h1, h2, h3, h4, h5, -, -, h8⟩
  · exact Or.inl h.2
  · refine Or.inr ⟨my, ma, hm, hma, h4, h5, fun j hj => ?_⟩
    have hy := yd_ok h1 hn
    have hs := stl_ok (man := ma) hy.1 hy.2
    have := ((wpath_ok hn (A := A0) w _ hs.1 hs.2.1 (zin_stl ma (zin_yd h1 hn)) h3 j (by omega)).2 (by omega)).1
    obtain ⟨a, b, -⟩ := h8 j hj
    omega
