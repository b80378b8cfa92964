/-! packing and unpacking -/
theorem take_snoc (l : List Nat) {k : Nat} (hk : k < l.length) : l.take (k + 1) = l.take k ++ [l.getD k 0] := by
  rw [List.take_add_one, List.getD_eq_getElem?_getD, List.getElem?_eq_getElem hk]
  rfl
def zk (A : Nat → List Nat) (s k : Nat) (Z : Nat → List Nat) : Nat → List Nat := fun q => if q = s then (((A s).reverse.take k).map (cn (al A))).reverse else Z q
theorem pkt_cE {n t : Nat} {A : Nat → List Nat} (h : ab n t A) (hn : n ≤ 4) (ht : t ≤ 4) {RK : Nat → Nat} (hR : ∀ g, g ∈ al A → rkc RK g = cn (al A) g) {s : Nat} (hs : s < n) {Z : Nat → List Nat} (hZ : okY n t Z) (hZs : Z s = []) : ∀ k, k ≤ (A s).length → pkt (cel t A) RK s t (cE Z) k = cE (zk A s k Z) ∧ okY n t (zk A s k Z)
  | 0, _ => by
    have e : zk A s 0 Z = Z := by
      funext q
      unfold zk
      by_cases e : q = s
      · rw [if_pos e, e, hZs]; rfl
      · rw [if_neg e]
    rw [e]
    exact ⟨rfl, hZ⟩
  | k + 1, hk => by
    obtain ⟨i1, i2⟩ := pkt_cE h hn ht hR hs hZ hZs k (by omega)
    have hl := (h.1 s).1
    have hp := ab_pos h (s := s) (j := k) (by omega)
    have hg : (A s).reverse.getD k 0 ∈ al A := (mem_al h hn).mpr ⟨s, hp.2.2⟩
    have hzl : (zk A s k Z s).length = k := by
      unfold zk
      rw [if_pos rfl, List.length_reverse, List.length_map, List.length_take, List.length_reverse]
      omega
    have hr : 1 ≤ cn (al A) ((A s).reverse.getD k 0) ∧ cn (al A) ((A s).reverse.getD k 0) ≤ 6 := ⟨cn_pos hp.1 hg, cn_6 h _⟩
    have e : pu (zk A s k Z) s (cn (al A) ((A s).reverse.getD k 0)) = zk A s (k + 1) Z := by
      funext q
      by_cases e : q = s
      · subst e
        rw [pu_s]
        unfold zk
        rw [if_pos rfl, if_pos rfl, take_snoc _ (by rw [List.length_reverse]; omega), List.map_append, List.reverse_append]
        rfl
      · rw [pu_n e]
        unfold zk
        rw [if_neg e, if_neg e]
    show ylaid (pkt (cel t A) RK s t (cE Z) k) s (rkc RK (cel t A (s * t + k))) = _ ∧ _
    rw [i1, cel_at (by omega), hR _ hg, ylaid_cE i2 ht hs hn (by rw [hzl]; omega) hr, e]
    exact ⟨rfl, e ▸ okY_pu i2 hs (by rw [hzl]; omega) hr⟩
theorem pks_cE {n t : Nat} {A : Nat → List Nat} (h : ab n t A) (hn : n ≤ 4) (ht : t ≤ 4) {RK : Nat → Nat} (hR : ∀ g, g ∈ al A → rkc RK g = cn (al A) g) : ∀ s, s ≤ n → pks (cel t A) RK (hgt A) t s = cE (fun q => if q < s then yd A q else []) ∧ okY n t (fun q => if q < s then yd A q else [])
  | 0, _ => by
    have e : (fun q => if q < 0 then yd A q else []) = fun _ => ([] : List Nat) := by
      funext q
      exact if_neg (Nat.not_lt_zero q)
    rw [e]
    exact ⟨rfl, ⟨fun _ => ⟨Nat.zero_le _, fun _ h => nomatch h⟩, fun _ _ => rfl⟩⟩
  | s + 1, hs => by
    obtain ⟨i1, i2⟩ := pks_cE h hn ht hR s (by omega)
    have hl := (h.1 s).1
    obtain ⟨j1, j2⟩ := pkt_cE h hn ht hR (show s < n by omega) i2 (if_neg (Nat.lt_irrefl s)) (A s).length (Nat.le_refl _)
    have e : zk A s (A s).length (fun q => if q < s then yd A q else []) = fun q => if q < s + 1 then yd A q else [] := by
      funext q
      unfold zk
      by_cases e : q = s
      · rw [if_pos e, if_pos (by omega), e, List.take_of_length_le (by rw [List.length_reverse]; omega), ← List.map_reverse, List.reverse_reverse]
        rfl
      · rw [if_neg e]
        show (if q < s then yd A q else []) = if q < s + 1 then yd A q else []
        by_cases q2 : q < s
        · rw [if_pos q2, if_pos (show q < s + 1 by omega)]
        · rw [if_neg q2, if_neg (show ¬ q < s + 1 by omega)]
    rw [e] at j1 j2
    refine ⟨?_, j2⟩
    show pkt (cel t A) RK s t (pks (cel t A) RK (hgt A) t s) (min (hgt A s) t) = _
    rw [i1, show min (hgt A s) t = (A s).length by unfold hgt; omega]
    exact j1
theorem pks_yd {n t : Nat} {A : Nat → List Nat} (h : ab n t A) (hn : n ≤ 4) (ht : 2 ≤ t ∧ t ≤ 4) (RK GP : Nat → Nat) : pks (cel t A) (lrn (cel t A) RK GP).2.1 (hgt A) t n = cE (yd A) := by
  rw [(pks_cE h hn ht.2 (lrn_al h hn ht RK GP).2 n (Nat.le_refl n)).1]
  congr 1
  funext q
  by_cases hq : q < n
  · exact if_pos hq
  · rw [if_neg hq]
    unfold yd
    rw [h.2.1 q (by omega)]
    rfl
/-- groups back from ranks -/
def gs (GO : Nat → Nat) (Z : Nat → List Nat) : Nat → List Nat := fun s => (Z s).map GO
theorem getD_map_rev (GO : Nat → Nat) (l : List Nat) {j : Nat} (hj : j < l.length) : (l.map GO).reverse.getD j 0 = GO (l.getD (l.length - 1 - j) 0) := by
  rw [List.getD_eq_getElem?_getD, List.getElem?_reverse (by rw [List.length_map]; exact hj), List.getElem?_map, List.length_map, List.getD_eq_getElem?_getD, List.getElem?_eq_getElem (by omega)]
  rfl
theorem ysz_wd {t : Nat} {l : List Nat} (h : okl t l) (ht : t ≤ 4) : ysz (wd l) = l.length := by
  have hl := h.1
  refine ysz_of (fun j hj => ?_) (by omega) (fun h4 => ?_)
  · rw [yr_wd l j (lt8 h)]; exact getD_pos h hj
  · rw [yr_wd l _ (lt8 h), getD_out (Nat.le_refl _)]
theorem upv {n t : Nat} {Z : Nat → List Nat} (hZ : okY n t Z) (ht : t ≤ 4) {GP : Nat → Nat} {s j : Nat} (hs : s < 4) (hj : j < t) : (if j < ysz (yw (cE Z) s) then gpc GP (yr (yw (cE Z) s) (ysz (yw (cE Z) s) - 1 - j)) else 0) = cel t (gs GP Z) (s * t + j) := by
  have hk := hZ.1 s
  rw [cel_at hj, yw_cE hZ ht hs, ysz_wd hk ht]
  unfold gs
  by_cases q : j < (Z s).length
  · rw [if_pos q, getD_map_rev GP _ q, yr_wd _ _ (lt8 hk)]
    have hm := getD_pos hk (j := (Z s).length - 1 - j) (by omega)
    have h6 := hk.2 _ (getD_mem hm)
    unfold gpc
    rw [if_pos (by omega)]
  · rw [if_neg q, getD_out (by rw [List.length_reverse, List.length_map]; omega)]
theorem upt_cel {n t : Nat} {Z : Nat → List Nat} (hZ : okY n t Z) (ht : t ≤ 4) {GP P : Nat → Nat} {s : Nat} (hs : s < 4) : ∀ k, k ≤ t → ∀ q, upt (cE Z) s t GP P k q = if s * t ≤ q ∧ q < s * t + k then cel t (gs GP Z) q else P q
  | 0, _, q => by rw [if_neg (by omega)]; rfl
  | k + 1, hk, q => by
    have ih := upt_cel hZ ht (GP := GP) (P := P) hs k (by omega) q
    show upN (upt (cE Z) s t GP P k) (s * t + k) _ q = _
    by_cases e : q = s * t + k
    · rw [e, upN_s, upv (j := k) hZ ht hs (by omega), if_pos (show s * t ≤ s * t + k ∧ s * t + k < s * t + (k + 1) by omega)]
    · rw [upN_n e, ih]
      by_cases w : s * t ≤ q ∧ q < s * t + k
      · rw [if_pos w, if_pos (by omega)]
      · rw [if_neg w, if_neg (by omega)]
theorem ups_cel {n t : Nat} {Z : Nat → List Nat} (hZ : okY n t Z) (ht : t ≤ 4) {GP P HT : Nat → Nat} : ∀ s, s ≤ 4 → (∀ q, (ups (cE Z) t GP P HT s).1 q = if q < s * t then cel t (gs GP Z) q else P q) ∧ ∀ q, (ups (cE Z) t GP P HT s).2 q = if q < s then hgt (gs GP Z) q else HT q
  | 0, _ => ⟨fun q => by rw [if_neg (by omega)]; rfl, fun q => by rw [if_neg (by omega)]; rfl⟩
  | s + 1, hs => by
    obtain ⟨i1, i2⟩ := ups_cel hZ ht (GP := GP) (P := P) (HT := HT) s (by omega)
    refine ⟨fun q => ?_, fun q => ?_⟩
    · show upt (cE Z) s t GP (ups (cE Z) t GP P HT s).1 t q = _
      rw [upt_cel hZ ht (by omega) t (Nat.le_refl t), i1, Nat.succ_mul]
      by_cases w : s * t ≤ q ∧ q < s * t + t
      · rw [if_pos w, if_pos (by omega)]
      · rw [if_neg w]
        by_cases v : q < s * t
        · rw [if_pos v, if_pos (by omega)]
        · rw [if_neg v, if_neg (by omega)]
    · show upN (ups (cE Z) t GP P HT s).2 s (ysz (yw (cE Z) s)) q = _
      by_cases e : q = s
      · rw [e, upN_s, if_pos (by omega), yw_cE hZ ht (by omega), ysz_wd (hZ.1 s) ht]
        unfold hgt gs
        rw [List.length_map]
      · rw [upN_n e, i2]
        by_cases v : q < s
        · rw [if_pos v, if_pos (by omega)]
        · rw [if_neg v, if_neg (by omega)]
theorem gs_nil {n t : Nat} {Z : Nat → List Nat} (hZ : okY n t Z) (GO : Nat → Nat) {s : Nat} (hs : n ≤ s) : gs GO Z s = [] := by
  unfold gs
  rw [hZ.2 s hs]
  rfl
theorem ups_gs {n t : Nat} {A Z : Nat → List Nat} (h : ab n t A) (hn : n ≤ 4) (ht : 2 ≤ t ∧ t ≤ 4) (hZ : okY n t Z) (GP : Nat → Nat) : (ups (cE Z) t GP (cel t A) (hgt A) n).1 = cel t (gs GP Z) ∧ (ups (cE Z) t GP (cel t A) (hgt A) n).2 = hgt (gs GP Z) := by
  obtain ⟨i1, i2⟩ := ups_cel hZ ht.2 (GP := GP) (P := cel t A) (HT := hgt A) n hn
  refine ⟨funext fun q => ?_, funext fun q => ?_⟩
  · rw [i1]
    by_cases v : q < n * t
    · rw [if_pos v]
    · rw [if_neg v]
      have hq : n ≤ q / t := (Nat.le_div_iff_mul_le (by omega)).mpr (by omega)
      unfold cel
      rw [h.2.1 _ hq, gs_nil hZ GP hq]
  · rw [i2]
    by_cases v : q < n
    · rw [if_pos v]
    · rw [if_neg v]
      unfold hgt
      rw [h.2.1 _ (by omega), gs_nil hZ GP (by omega)]
/-- the reference's groups back -/
theorem gfo_at {G GO : Nat → Nat} {y : Nat} : ∀ K k, gfo G GO y K k = if k < K then (if 0 < yr y k then GO (yr y k) else 0) else G k
  | 0, k => by rw [if_neg (by omega)]; rfl
  | K + 1, k => by
    show upN (gfo G GO y K) K _ k = _
    by_cases e : k = K
    · rw [e, upN_s, if_pos (show K < K + 1 from Nat.lt_succ_self K)]
    · rw [upN_n e, gfo_at K k]
      by_cases v : k < K
      · rw [if_pos v, if_pos (show k < K + 1 by omega)]
      · rw [if_neg v, if_neg (show ¬ k < K + 1 by omega)]
theorem gfo_gs {n t : Nat} {A Z : Nat → List Nat} (h : ab n t A) (hn : n ≤ 4) (ht : t ≤ 4) (hZ : okY n t Z) (GO : Nat → Nat) : gfo (cel 4 A) GO (mE Z) 16 = cel 4 (gs GO Z) := by
  funext k
  rw [gfo_at]
  obtain ⟨s, j, hj, rfl⟩ := kdiv (k := k) (w := 4) (by decide)
  by_cases v : s * 4 + j < 16
  · have hk := hZ.1 s
    rw [if_pos v, cel_at hj, show s * 4 + j = 4 * s + j by omega, yr_mE hZ ht (by omega) hj]
    unfold gs
    by_cases q : j < (Z s).length
    · have hp := getD_pos (okl_rev hk) (j := j) (by rw [List.length_reverse]; exact q)
      rw [if_pos (Nat.pos_of_ne_zero hp), ← List.map_reverse, List.getD_eq_getElem?_getD, List.getD_eq_getElem?_getD, List.getElem?_map, List.getElem?_eq_getElem (by rw [List.length_reverse]; exact q)]
      rfl
    · rw [if_neg (by rw [getD_out (by rw [List.length_reverse]; omega)]; omega), getD_out (by rw [List.length_reverse, List.length_map]; omega)]
  · rw [if_neg v, cel_at hj, cel_at hj, h.2.1 s (by omega), gs_nil hZ GO (by omega)]
/-- a yard of ranks that are there -/
def zin (A Z : Nat → List Nat) : Prop := ∀ s r, r ∈ Z s → ∃ g, g ∈ al A ∧ r = cn (al A) g
theorem gs_eq {A Z : Nat → List Nat} (hz : zin A Z) {GO GP : Nat → Nat} (h1 : num (al A) GO) (h2 : num (al A) GP) : gs GO Z = gs GP Z := by
  funext s
  refine List.map_congr_left (fun r hr => ?_)
  obtain ⟨g, hg, rfl⟩ := hz s r hr
  rw [h1 g hg, h2 g hg]
theorem gs_ab {n t : Nat} {A Z : Nat → List Nat} (h : ab n t A) (hZ : okY n t Z) (hb : bxY Z ≤ 6) (hz : zin A Z) {GO : Nat → Nat} (h1 : num (al A) GO) : ab n t (gs GO Z) := by
  refine ⟨fun s => ⟨by unfold gs; rw [List.length_map]; exact (hZ.1 s).1, fun g hg => ?_⟩, fun s hs => gs_nil hZ GO hs, ?_⟩
  · obtain ⟨r, hr, rfl⟩ := List.mem_map.mp hg
    obtain ⟨x, hx, rfl⟩ := hz s r hr
    rw [h1 x hx]
    exact al_rng h hx
  · unfold bxY at hb ⊢
    unfold gs
    simpa only [List.length_map] using hb
theorem zin_yd {n t : Nat} {A : Nat → List Nat} (h : ab n t A) (hn : n ≤ 4) : zin A (yd A) := fun s r hr => by
  obtain ⟨g, hg, rfl⟩ := List.mem_map.mp hr
  exact ⟨g, (mem_al h hn).mpr ⟨s, hg⟩, rfl⟩
theorem zin_sub {A Y Z : Nat → List Nat} (h : zin A Y) (hs : ∀ s r, r ∈ Z s → ∃ s', r ∈ Y s') : zin A Z := fun s r hr => by
  obtain ⟨s', h'⟩ := hs s r hr
  exact h s' r h'
theorem zin_stl {A Y : Nat → List Nat} (m : Nat) (h : zin A Y) : zin A (stl m Y) := by
  unfold stl
  split
  · exact h
  · obtain ⟨l, hl, -⟩ := lv_run Y
    exact zin_sub h (fun s r hr => ⟨s, rn_mem l Y _ hl s r hr⟩)
theorem zin_mv {A Y : Nat → List Nat} {a b : Nat} (h : zin A Y) (ha : Y a ≠ []) : zin A (mv Y a b) := by
  refine zin_sub h (fun s r hr => ?_)
  unfold mv at hr
  by_cases e : s = b
  · subst e
    rw [pu_s] at hr
    rcases List.mem_cons.mp hr with q | q
    · refine ⟨a, ?_⟩
      cases hY : Y a with
      | nil => exact absurd hY ha
      | cons x l => rw [hY] at q; rw [q]; exact List.mem_cons_self
    · exact ⟨s, mem_rm q⟩
  · rw [pu_n e] at hr
    exact ⟨s, mem_rm hr⟩
