/-! the class's packed yard, as the code computes it: numbers -/
/-- the word of a stack -/
def yw (x s : Nat) : Nat := x / 2 ^ (s * 12) % 4096
/-- a digit of three bits -/
def yr (w j : Nat) : Nat := w / 2 ^ (j * 3) % 8
theorem yw_lt (x s : Nat) : yw x s < 4096 := Nat.mod_lt _ (by decide)
theorem yr_lt (w j : Nat) : yr w j < 8 := Nat.mod_lt _ (by decide)
/-- the least digit but 0 of the first k, else 7 -/
def ylo (x : Nat) : Nat → Nat
  | 0 => 7
  | k + 1 => if yr x k ≠ 0 ∧ yr x k < ylo x k then yr x k else ylo x k
theorem ylo_lt (x : Nat) : ∀ k, ylo x k < 8
  | 0 => show 7 < 8 from by decide
  | k + 1 => by
    unfold ylo
    split
    · exact yr_lt _ _
    · exact ylo_lt x k
/-- how many digits ahead of the first 0, at most 4 -/
def ysz (w : Nat) : Nat := if yr w 0 = 0 then 0 else if yr w 1 = 0 then 1 else if yr w 2 = 0 then 2 else if yr w 3 = 0 then 3 else 4
theorem ysz_of {w k : Nat} (h : ∀ j, j < k → yr w j ≠ 0) (hk : k ≤ 4) (h4 : k < 4 → yr w k = 0) : ysz w = k := by
  unfold ysz
  rcases (show k = 0 ∨ k = 1 ∨ k = 2 ∨ k = 3 ∨ k = 4 by omega) with rfl | rfl | rfl | rfl | rfl
  · rw [if_pos (h4 (by omega))]
  · rw [if_neg (h 0 (by omega)), if_pos (h4 (by omega))]
  · rw [if_neg (h 0 (by omega)), if_neg (h 1 (by omega)), if_pos (h4 (by omega))]
  · rw [if_neg (h 0 (by omega)), if_neg (h 1 (by omega)), if_neg (h 2 (by omega)), if_pos (h4 (by omega))]
  · rw [if_neg (h 0 (by omega)), if_neg (h 1 (by omega)), if_neg (h 2 (by omega)), if_neg (h 3 (by omega))]
/-- another word for a stack -/
def yww (x s w : Nat) : Nat := x - yw x s * 2 ^ (s * 12) + w % 4096 * 2 ^ (s * 12)
def ylaid (x s r : Nat) : Nat := yww x s (yw x s * 8 + r)
def ylift (x s : Nat) : Nat := yww x s (yw x s / 8)
def yshift (x a b : Nat) : Nat := ylaid (ylift x a) b (yr (yw x a) 0)
/-- a number or -1 -/
def oN : Option Nat → Int32
  | none => -1
  | some n => nI n
/-- the first stack with such a top -/
def yst (x r : Nat) : Option Nat := (List.range 4).find? (fun s => yr (yw x s) 0 = r)
theorem yst_some {x r k : Nat} (h : ∀ j, j < k → yr (yw x j) 0 ≠ r) (hk : k < 4) (hr : yr (yw x k) 0 = r) : yst x r = some k := by
  unfold yst
  rcases (show k = 0 ∨ k = 1 ∨ k = 2 ∨ k = 3 by omega) with rfl | rfl | rfl | rfl
  · simp [List.range, List.range.loop, List.find?, hr]
  · simp [List.range, List.range.loop, List.find?, hr, h 0 (by omega)]
  · simp [List.range, List.range.loop, List.find?, hr, h 0 (by omega), h 1 (by omega)]
  · simp [List.range, List.range.loop, List.find?, hr, h 0 (by omega), h 1 (by omega), h 2 (by omega)]
theorem yst_none {x r : Nat} (h : ∀ j, j < 4 → yr (yw x j) 0 ≠ r) : yst x r = none := by
  unfold yst
  simp [List.range, List.range.loop, List.find?, h 0 (by omega), h 1 (by omega), h 2 (by omega), h 3 (by omega)]
theorem yst_lt {x r k : Nat} (h : yst x r = some k) : k < 4 ∧ yr (yw x k) 0 = r := by
  unfold yst at h
  have h1 := List.mem_of_find?_eq_some h
  have h2 := List.find?_some h
  exact ⟨List.mem_range.mp h1, by simpa using h2⟩
/-- boxes leave, at most so many -/
def yaf : Nat → Nat → Nat
  | 0, x => x
  | n + 1, x => match yst x (ylo x 16) with
    | none => x
    | some s => yaf n (ylift x s)
/-- blocked boxes of a stack, from its bottom up: how many, and the least so far -/
def ybs (w : Nat) : Nat → Nat × Nat
  | 0 => (0, 7)
  | i + 1 => if (ybs w i).2 < yr w (3 - i) then ((ybs w i).1 + 1, (ybs w i).2) else if yr w (3 - i) ≠ 0 then ((ybs w i).1, yr w (3 - i)) else ybs w i
theorem ybs_le (w : Nat) : ∀ i, (ybs w i).1 ≤ i ∧ (ybs w i).2 < 8
  | 0 => ⟨Nat.le_refl 0, show 7 < 8 from by decide⟩
  | i + 1 => by
    have h := ybs_le w i
    have := yr_lt w (3 - i)
    unfold ybs
    split
    · exact ⟨by show _ + 1 ≤ _; omega, h.2⟩
    · split
      · exact ⟨by show (ybs w i).1 ≤ _; omega, this⟩
      · exact ⟨by omega, h.2⟩
def ybb (x : Nat) : Nat → Nat
  | 0 => 0
  | s + 1 => ybb x s + (ybs (yw x s) 4).1
theorem ybb_le (x : Nat) : ∀ s, ybb x s ≤ 4 * s
  | 0 => Nat.le_refl 0
  | s + 1 => by
    have := ybb_le x s
    have := (ybs_le (yw x s) 4).1
    unfold ybb
    omega
/-- the words in order -/
def ysrt (x : Nat) : Nat :=
  min (min (yw x 0) (yw x 1)) (min (yw x 2) (yw x 3))
  + min (max (min (yw x 0) (yw x 1)) (min (yw x 2) (yw x 3))) (min (max (yw x 0) (yw x 1)) (max (yw x 2) (yw x 3))) * 2 ^ 12
  + max (max (min (yw x 0) (yw x 1)) (min (yw x 2) (yw x 3))) (min (max (yw x 0) (yw x 1)) (max (yw x 2) (yw x 3))) * 2 ^ 24
  + max (max (yw x 0) (yw x 1)) (max (yw x 2) (yw x 3)) * 2 ^ 36
/-! bits -/
theorem bt_clr {x j w : Nat} : ∀ i, (x - x / 2 ^ j % 2 ^ w * 2 ^ j).testBit i = (x.testBit i && !(decide (j ≤ i) && decide (i - j < w))) := by
  intro i
  have e1 : x = 2 ^ j * (x / 2 ^ j) + x % 2 ^ j := (Nat.div_add_mod x (2 ^ j)).symm
  have e2 : x / 2 ^ j = 2 ^ w * (x / 2 ^ j / 2 ^ w) + x / 2 ^ j % 2 ^ w := (Nat.div_add_mod _ _).symm
  have hl : x % 2 ^ j < 2 ^ j := Nat.mod_lt _ (Nat.two_pow_pos j)
  have e3 : x - x / 2 ^ j % 2 ^ w * 2 ^ j = 2 ^ j * (2 ^ w * (x / 2 ^ j / 2 ^ w) + 0) + x % 2 ^ j := by
    generalize x / 2 ^ j = q at *
    generalize q % 2 ^ w = r at *
    generalize 2 ^ w * (q / 2 ^ w) = t at *
    subst e2
    rw [Nat.mul_add] at e1
    rw [Nat.mul_comm r, Nat.add_zero]
    omega
  rw [e3, Nat.testBit_two_pow_mul_add _ hl]
  conv => rhs; rw [e1, Nat.testBit_two_pow_mul_add _ hl]
  by_cases h : i < j
  · have : ¬ j ≤ i := by omega
    simp [h, this]
  · have hj : j ≤ i := by omega
    rw [if_neg h, if_neg h, Nat.testBit_two_pow_mul_add _ (Nat.two_pow_pos w)]
    conv => rhs; rw [e2, Nat.testBit_two_pow_mul_add _ (Nat.mod_lt _ (Nat.two_pow_pos w))]
    by_cases h2 : i - j < w
    · simp [h2, hj]
    · simp [h2, hj]
theorem bt_msk {j w : Nat} (i : Nat) : ((2 ^ w - 1) * 2 ^ j).testBit i = (decide (j ≤ i) && decide (i - j < w)) := by
  rw [Nat.testBit_mul_two_pow, Nat.testBit_two_pow_sub_one]
/-- the bits j .. j + w - 1 out -/
theorem lN_clr {x j w : Nat} (hx : x < 2 ^ 64) (hw : (2 ^ w - 1) * 2 ^ j < 2 ^ 64) : lN x &&& (lN ((2 ^ w - 1) * 2 ^ j) ^^^ (-1)) = lN (x - x / 2 ^ j % 2 ^ w * 2 ^ j) := by
  have hc : x - x / 2 ^ j % 2 ^ w * 2 ^ j < 2 ^ 64 := by omega
  apply wb_inj
  apply BitVec.eq_of_getLsbD_eq
  intro i hi
  show ((lN x).toBitVec &&& ((lN _).toBitVec ^^^ (-1 : Int64).toBitVec)).getLsbD i = _
  rw [BitVec.getLsbD_and, BitVec.getLsbD_xor, wb_tb, wb_tb, wb_tb, BitVec.getLsbD_ofNat, BitVec.getLsbD_ofNat, BitVec.getLsbD_ofNat, bt_clr, bt_msk]
  have h1 : (-1 : Int64).toBitVec.getLsbD i = true := by
    have : (-1 : Int64).toBitVec = BitVec.allOnes 64 := by decide
    rw [this, BitVec.getLsbD_allOnes]
    simp [hi]
  rw [h1]
  simp [hi]
/-- bits into a gap -/
theorem bt_or {a b j w : Nat} (ha : a / 2 ^ j % 2 ^ w = 0) (hb : b < 2 ^ w) : a ||| b * 2 ^ j = a + b * 2 ^ j := by
  apply Nat.eq_of_testBit_eq
  intro i
  have hl : a % 2 ^ j < 2 ^ j := Nat.mod_lt _ (Nat.two_pow_pos j)
  have e1 : a = 2 ^ j * (a / 2 ^ j) + a % 2 ^ j := (Nat.div_add_mod a (2 ^ j)).symm
  have e2 : a / 2 ^ j = 2 ^ w * (a / 2 ^ j / 2 ^ w) + 0 := by
    have := (Nat.div_add_mod (a / 2 ^ j) (2 ^ w)).symm
    rw [ha] at this
    exact this
  have e3 : a + b * 2 ^ j = 2 ^ j * (2 ^ w * (a / 2 ^ j / 2 ^ w) + b) + a % 2 ^ j := by
    generalize a / 2 ^ j = q at *
    generalize 2 ^ w * (q / 2 ^ w) = t at *
    rw [Nat.mul_add]
    rw [Nat.mul_comm b]
    rw [Nat.add_zero] at e2
    subst e2
    omega
  rw [e3, Nat.testBit_two_pow_mul_add _ hl, Nat.testBit_or, Nat.testBit_mul_two_pow]
  conv => lhs; rw [e1, Nat.testBit_two_pow_mul_add _ hl]
  by_cases h : i < j
  · have : ¬ j ≤ i := by omega
    simp [h, this]
  · have hj : j ≤ i := by omega
    rw [if_neg h, if_neg h, Nat.testBit_two_pow_mul_add _ hb]
    conv => lhs; rw [e2, Nat.testBit_two_pow_mul_add _ (Nat.two_pow_pos w)]
    by_cases h2 : i - j < w
    · simp [h2, hj]
    · have hz : b.testBit (i - j) = false := Nat.testBit_lt_two_pow (Nat.lt_of_lt_of_le hb (Nat.pow_le_pow_right (by decide) (by omega)))
      simp [h2, hj, hz]
theorem lN_or {a b j w : Nat} (ha : a / 2 ^ j % 2 ^ w = 0) (hb : b < 2 ^ w) (h1 : a < 2 ^ 64) (h2 : b * 2 ^ j < 2 ^ 64) : lN a ||| lN (b * 2 ^ j) = lN (a + b * 2 ^ j) := by
  rw [wb_or h1 h2, bt_or ha hb]
theorem clr_gap (x j w : Nat) : (x - x / 2 ^ j % 2 ^ w * 2 ^ j) / 2 ^ j % 2 ^ w = 0 := by
  apply Nat.eq_of_testBit_eq
  intro i
  rw [Nat.testBit_mod_two_pow, Nat.testBit_div_two_pow, bt_clr]
  by_cases h : i < w
  · have h1 : j ≤ i + j := by omega
    have h2 : i + j - j < w := by omega
    simp [h]
  · simp [h]
theorem s4 {P : Nat → Prop} {s : Nat} (hs : s < 4) (h0 : P 0) (h1 : P 1) (h2 : P 2) (h3 : P 3) : P s := by
  rcases (show s = 0 ∨ s = 1 ∨ s = 2 ∨ s = 3 by omega) with rfl | rfl | rfl | rfl <;> assumption
theorem yww_lt {x s : Nat} (hx : x < 2 ^ 48) (hs : s < 4) (w : Nat) : yww x s w < 2 ^ 48 := by
  refine s4 (P := fun s => yww x s w < 2 ^ 48) hs ?_ ?_ ?_ ?_ <;> simp only [yww, yw] <;> omega
theorem yw_yww {x s t : Nat} (hx : x < 2 ^ 48) (hs : s < 4) (ht : t < 4) (w : Nat) : yw (yww x s w) t = if t = s then w % 4096 else yw x t := by
  refine s4 (P := fun s => yw (yww x s w) t = if t = s then w % 4096 else yw x t) hs ?_ ?_ ?_ ?_ <;> refine s4 (P := fun t => yw (yww x _ w) t = if t = _ then w % 4096 else yw x t) ht ?_ ?_ ?_ ?_ <;> simp only [yww, yw] <;> simp <;> omega
theorem ylaid_lt {x s : Nat} (hx : x < 2 ^ 48) (hs : s < 4) (r : Nat) : ylaid x s r < 2 ^ 48 := yww_lt hx hs _
theorem ylift_lt {x s : Nat} (hx : x < 2 ^ 48) (hs : s < 4) : ylift x s < 2 ^ 48 := yww_lt hx hs _
theorem yshift_lt {x a b : Nat} (hx : x < 2 ^ 48) (ha : a < 4) (hb : b < 4) : yshift x a b < 2 ^ 48 := ylaid_lt (ylift_lt hx ha) hb _
theorem or3 {a r : Nat} (ha : a < 4096) (hr : r < 8) : nI (a * 2 ^ 3) ||| nI r = nI (a * 8 + r) := by
  have h : a * 2 ^ 3 ||| r = a * 2 ^ 3 + r := by
    have := bt_or (a := a * 2 ^ 3) (b := r) (j := 0) (w := 3) (by omega) (by omega)
    simpa using this
  have e : nI (a * 2 ^ 3) ||| nI r = nI (a * 2 ^ 3 ||| r) := by
    unfold nI
    apply Int32.toBitVec_inj.mp
    show (BitVec.ofNat 32 _) ||| (BitVec.ofNat 32 _) = BitVec.ofNat 32 _
    exact (BitVec.ofNat_or ..).symm
  rw [e, h]
theorem yww_eq {x s w : Nat} (hx : x < 2 ^ 48) (hs : s < 4) : (lN x &&& (lN (4095 * 2 ^ (s * 12)) ^^^ (-1))) ||| lN (w % 4096 * 2 ^ (s * 12)) = lN (yww x s w) := by
  have hj : 2 ^ (s * 12) ≤ 2 ^ 36 := Nat.pow_le_pow_right (by decide) (by omega)
  have hw : w % 4096 < 4096 := Nat.mod_lt _ (by decide)
  have hm : w % 4096 * 2 ^ (s * 12) ≤ 4095 * 2 ^ 36 := Nat.mul_le_mul (by omega) hj
  have h4 : (2 ^ 12 - 1) * 2 ^ (s * 12) ≤ 4095 * 2 ^ 36 := Nat.mul_le_mul (by omega) hj
  rw [lN_clr (x := x) (j := s * 12) (w := 12) (by omega) (by omega)]
  exact lN_or (w := 12) (clr_gap _ _ _) hw (by omega) (by omega)
theorem wk_m1lt {k : Nat} (h : k < 1000000) : nI k - nI 1 < 0 ↔ k = 0 := by
  have : (nI k - nI 1).toInt = (k : Int) - 1 := pk_sub_toInt (by omega) (by decide)
  rw [Int32.lt_iff_toInt_lt, this, Int32.toInt_zero]
  omega
theorem yaf_lt : ∀ (n : Nat) {x : Nat}, x < 2 ^ 48 → yaf n x < 2 ^ 48
  | 0, x, h => h
  | n + 1, x, h => by
    unfold yaf
    split
    · exact h
    · next s hs => exact yaf_lt n (ylift_lt h (yst_lt hs).1)
theorem ysrt_or {a b c d : Nat} (ha : a < 4096) (hb : b < 4096) (hc : c < 4096) (hd : d < 4096) : ((lN a ||| lN (b * 2 ^ 12)) ||| lN (c * 2 ^ 24)) ||| lN (d * 2 ^ 36) = lN (a + b * 2 ^ 12 + c * 2 ^ 24 + d * 2 ^ 36) := by
  rw [lN_or (a := a) (w := 12) (by omega) hb (by omega) (by omega), lN_or (w := 12) (by omega) hc (by omega) (by omega), lN_or (w := 12) (by omega) hd (by omega) (by omega)]
theorem oN_ne {s : Nat} (h : s < 1000000) : oN (some s) ≠ -1 := by
  show nI s ≠ -1
  intro q
  have := nI_toInt (n := s) (by omega)
  rw [q] at this
  have h2 : (-1 : Int32).toInt = -1 := by decide
  omega
theorem ybs_s (w i : Nat) : ybs w (i + 1) = if (ybs w i).2 < yr w (3 - i) then ((ybs w i).1 + 1, (ybs w i).2) else if yr w (3 - i) ≠ 0 then ((ybs w i).1, yr w (3 - i)) else ybs w i := rfl
theorem oN_m1 {o : Option Nat} (h : ∀ k, o = some k → k < 1000000) : oN o = -1 ↔ o = none := by
  cases o with
  | none => exact ⟨fun _ => rfl, fun _ => rfl⟩
  | some k => exact ⟨fun q => absurd q (oN_ne (h k rfl)), fun q => nomatch q⟩
/-! THE RULE, as the class computes it -/
def yab (w r : Nat) : Nat := if yr w 0 = r then 0 else if yr w 1 = r then 1 else if yr w 2 = r then 2 else if yr w 3 = r then 3 else 4
theorem yab_of {w r k : Nat} (h : ∀ j, j < k → yr w j ≠ r) (hk : k ≤ 4) (h4 : k < 4 → yr w k = r) : yab w r = k := by
  unfold yab
  rcases (show k = 0 ∨ k = 1 ∨ k = 2 ∨ k = 3 ∨ k = 4 by omega) with rfl | rfl | rfl | rfl | rfl
  · rw [if_pos (h4 (by omega))]
  · rw [if_neg (h 0 (by omega)), if_pos (h4 (by omega))]
  · rw [if_neg (h 0 (by omega)), if_neg (h 1 (by omega)), if_pos (h4 (by omega))]
  · rw [if_neg (h 0 (by omega)), if_neg (h 1 (by omega)), if_neg (h 2 (by omega)), if_pos (h4 (by omega))]
  · rw [if_neg (h 0 (by omega)), if_neg (h 1 (by omega)), if_neg (h 2 (by omega)), if_neg (h 3 (by omega))]
theorem yab_le (w r : Nat) : yab w r ≤ 4 := by
  unfold yab
  repeat (first | omega | split)
/-- fewest boxes above, and the first such stack -/
def ysrc (x r : Nat) : Nat → Nat × Nat
  | 0 => (4, 0)
  | s + 1 => if yab (yw x s) r < (ysrc x r s).1 then (yab (yw x s) r, s) else ysrc x r s
theorem ysrc_s (x r s : Nat) : ysrc x r (s + 1) = if yab (yw x s) r < (ysrc x r s).1 then (yab (yw x s) r, s) else ysrc x r s := rfl
theorem ysrc_le (x r : Nat) : ∀ s, (ysrc x r s).1 ≤ 4 ∧ (ysrc x r s).2 ≤ s
  | 0 => ⟨Nat.le_refl 4, Nat.le_refl 0⟩
  | s + 1 => by
    have := ysrc_le x r s
    have := yab_le (yw x s) r
    rw [ysrc_s]
    split
    · exact ⟨this, Nat.le_succ s⟩
    · omega
theorem ysrc_lt {x r n : Nat} (hn : 0 < n) : (ysrc x r n).2 < n := by
  cases n with
  | zero => exact absurd hn (by omega)
  | succ k =>
    have := ysrc_le x r k
    rw [ysrc_s]
    split
    · exact Nat.lt_succ_self k
    · omega
def yfit (rk v s : Nat) (o : Option Nat × Nat) : Option Nat × Nat := if rk ≤ v ∧ (o.1 = none ∨ v < o.2) then (some s, v) else o
def yopn (v s : Nat) (o : Option Nat × Nat) : Option Nat × Nat := if o.1 = none ∨ o.2 < v then (some s, v) else o
def ytg (x fr t rk : Nat) : Nat → (Option Nat × Nat) × (Option Nat × Nat)
  | 0 => ((none, 0), (none, 0))
  | s + 1 => if s = fr ∨ yr (yw x s) (t - 1) ≠ 0 then ytg x fr t rk s else (yfit rk (ylo (yw x s) 4) s (ytg x fr t rk s).1, yopn (ylo (yw x s) 4) s (ytg x fr t rk s).2)
theorem ytg_s (x fr t rk s : Nat) : ytg x fr t rk (s + 1) = if s = fr ∨ yr (yw x s) (t - 1) ≠ 0 then ytg x fr t rk s else (yfit rk (ylo (yw x s) 4) s (ytg x fr t rk s).1, yopn (ylo (yw x s) 4) s (ytg x fr t rk s).2) := rfl
theorem ytg_ok (x fr t rk : Nat) : ∀ s, ((∀ k, (ytg x fr t rk s).1.1 = some k → k < s) ∧ (ytg x fr t rk s).1.2 < 8) ∧ (∀ k, (ytg x fr t rk s).2.1 = some k → k < s) ∧ (ytg x fr t rk s).2.2 < 8
  | 0 => ⟨⟨(fun _ h => nomatch h), show 0 < 8 from by decide⟩, (fun _ h => nomatch h), show 0 < 8 from by decide⟩
  | s + 1 => by
    obtain ⟨⟨h1, h2⟩, h3, h4⟩ := ytg_ok x fr t rk s
    have hl := ylo_lt (yw x s) 4
    rw [ytg_s]
    split
    · exact ⟨⟨fun k h => Nat.lt_succ_of_lt (h1 k h), h2⟩, fun k h => Nat.lt_succ_of_lt (h3 k h), h4⟩
    · refine ⟨?_, ?_⟩
      · unfold yfit
        split
        · exact ⟨fun k h => by cases h; exact Nat.lt_succ_self s, hl⟩
        · exact ⟨fun k h => Nat.lt_succ_of_lt (h1 k h), h2⟩
      · unfold yopn
        split
        · exact ⟨fun k h => by cases h; exact Nat.lt_succ_self s, hl⟩
        · exact ⟨fun k h => Nat.lt_succ_of_lt (h3 k h), h4⟩
def ytgt (x fr n t : Nat) : Option Nat := if (ytg x fr t (yr (yw x fr) 0) n).1.1 = none then (ytg x fr t (yr (yw x fr) 0) n).2.1 else (ytg x fr t (yr (yw x fr) 0) n).1.1
theorem ytgt_lt {x fr n t k : Nat} (h : ytgt x fr n t = some k) : k < n := by
  unfold ytgt at h
  have := ytg_ok x fr t (yr (yw x fr) 0) n
  split at h
  · exact this.2.1 k h
  · exact this.1.1 k h
def yrl (n t : Nat) : Nat → Nat → Nat → Option Nat
  | 0, _, _ => none
  | f + 1, made, x => if x = 0 then some made else match ytgt x (ysrc x (ylo x 16) n).2 n t with
    | none => none
    | some to => yrl n t f (made + 1) (yaf 6 (yshift x (ysrc x (ylo x 16) n).2 to))
