/-! the reference's yard, as its code computes it -/
/-- the first place from k on, among f, that holds 0 -/
def fz (d : Nat → Nat) : Nat → Nat → Nat
  | 0, k => k
  | f + 1, k => if d k = 0 then k else fz d f (k + 1)
theorem fz_s (d : Nat → Nat) (f k : Nat) : fz d (f + 1) k = if d k = 0 then k else fz d f (k + 1) := rfl
theorem fz_ok (d : Nat → Nat) : ∀ f k, k ≤ fz d f k ∧ fz d f k ≤ k + f ∧ (∀ j, k ≤ j → j < fz d f k → d j ≠ 0) ∧ (fz d f k < k + f → d (fz d f k) = 0)
  | 0, k => ⟨Nat.le_refl k, Nat.le_refl k, fun j h1 h2 => absurd (Nat.lt_of_le_of_lt h1 h2) (Nat.lt_irrefl k), fun h => absurd h (Nat.lt_irrefl k)⟩
  | f + 1, k => by
    have ih := fz_ok d f (k + 1)
    rw [fz_s]
    split
    · next h => exact ⟨Nat.le_refl k, by omega, fun j h1 h2 => absurd (Nat.lt_of_le_of_lt h1 h2) (Nat.lt_irrefl k), fun _ => h⟩
    · next h =>
      refine ⟨by omega, by omega, fun j h1 h2 => ?_, fun h2 => ih.2.2.2 (by omega)⟩
      by_cases q : j = k
      · subst q; exact h
      · exact ih.2.2.1 j (by omega) h2
/-- how high a stack is -/
def mht (x s t : Nat) : Nat := fz (fun j => yr x (4 * s + j)) t 0
theorem mht_le (x s t : Nat) : mht x s t ≤ t := by
  have := (fz_ok (fun j => yr x (4 * s + j)) t 0).2.1
  unfold mht
  omega
theorem mht_ne {x s t j : Nat} (h : j < mht x s t) : yr x (4 * s + j) ≠ 0 := (fz_ok (fun j => yr x (4 * s + j)) t 0).2.2.1 j (by omega) h
theorem mht_0 {x s t : Nat} (h : mht x s t < t) : yr x (4 * s + mht x s t) = 0 := (fz_ok (fun j => yr x (4 * s + j)) t 0).2.2.2 (by rw [Nat.zero_add]; exact h)
def bxs (G : Nat → Nat) : Nat → Nat
  | 0 => 0
  | k + 1 => bxs G k + bn (0 < G k)
theorem bxs_le (G : Nat → Nat) : ∀ k, bxs G k ≤ k
  | 0 => Nat.le_refl 0
  | k + 1 => by
    have := bxs_le G k
    have := bn_lt (0 < G k)
    unfold bxs
    omega
/-- a digit out -/
def mwo (x k : Nat) : Nat := x - yr x k * 2 ^ (k * 3)
theorem mwo_le (x k : Nat) : mwo x k ≤ x := Nat.sub_le _ _
theorem mwo_eq {x k : Nat} (hx : x < 2 ^ 48) (hk : k < 16) : lN x &&& (lN (7 * 2 ^ (k * 3)) ^^^ (-1)) = lN (mwo x k) := by
  have hj : 2 ^ (k * 3) ≤ 2 ^ 45 := Nat.pow_le_pow_right (by decide) (by omega)
  exact lN_clr (x := x) (j := k * 3) (w := 3) (by omega) (by omega)
theorem mwo_lt {x k : Nat} (h : yr x k ≠ 0) : mwo x k < x := by
  unfold mwo
  have h1 : 0 < yr x k * 2 ^ (k * 3) := Nat.mul_pos (by omega) (Nat.two_pow_pos _)
  have h2 : yr x k * 2 ^ (k * 3) ≤ x := by
    have a : yr x k ≤ x / 2 ^ (k * 3) := Nat.mod_le _ _
    have b : x / 2 ^ (k * 3) * 2 ^ (k * 3) ≤ x := Nat.div_mul_le_self _ _
    exact Nat.le_trans (Nat.mul_le_mul_right _ a) b
  omega
/-- one round of leaving: stacks below s done -/
def mps (g t : Nat) (x : Nat) : Nat → Nat × Nat
  | 0 => (x, 0)
  | s + 1 => if 0 < mht (mps g t x s).1 s t ∧ yr (mps g t x s).1 (4 * s + (mht (mps g t x s).1 s t - 1)) = g then (mwo (mps g t x s).1 (4 * s + (mht (mps g t x s).1 s t - 1)), 1) else mps g t x s
theorem mps_s (g t x s : Nat) : mps g t x (s + 1) = if 0 < mht (mps g t x s).1 s t ∧ yr (mps g t x s).1 (4 * s + (mht (mps g t x s).1 s t - 1)) = g then (mwo (mps g t x s).1 (4 * s + (mht (mps g t x s).1 s t - 1)), 1) else mps g t x s := rfl
theorem mps_ok (g t x : Nat) : ∀ s, (mps g t x s).1 ≤ x ∧ (mps g t x s).2 < 2 ∧ ((mps g t x s).2 ≠ 0 → (mps g t x s).1 < x)
  | 0 => ⟨Nat.le_refl x, show 0 < 2 from by decide, fun h => absurd rfl h⟩
  | s + 1 => by
    obtain ⟨h1, h2, h3⟩ := mps_ok g t x s
    rw [mps_s]
    split
    · next h =>
      have := mwo_lt (mht_ne (x := (mps g t x s).1) (s := s) (t := t) (j := mht (mps g t x s).1 s t - 1) (by omega))
      exact ⟨by show mwo _ _ ≤ _; omega, by show 1 < 2; decide, fun _ => by show mwo _ _ < _; omega⟩
    · exact ⟨h1, h2, h3⟩
def mlf (n t : Nat) : Nat → Nat → Nat
  | 0, x => x
  | f + 1, x => if (mps (ylo x 16) t x n).2 = 0 then (mps (ylo x 16) t x n).1 else mlf n t f (mps (ylo x 16) t x n).1
theorem mlf_s (n t f x : Nat) : mlf n t (f + 1) x = if (mps (ylo x 16) t x n).2 = 0 then (mps (ylo x 16) t x n).1 else mlf n t f (mps (ylo x 16) t x n).1 := rfl
theorem mlf_fuel (n t : Nat) : ∀ f x, x < f → mlf n t f x = mlf n t (x + 1) x
  | 0, x, h => absurd h (Nat.not_lt_zero x)
  | f + 1, x, h => by
    rw [mlf_s, mlf_s]
    split
    · rfl
    · next h2 =>
      have := (mps_ok (ylo x 16) t x n).2.2 h2
      rw [mlf_fuel n t f _ (by omega)]
      cases x with
      | zero => omega
      | succ y => rw [mlf_fuel n t (y + 1) _ (by omega)]
def mleft (n t x : Nat) : Nat := mlf n t (x + 1) x
theorem mleft_eq (n t x : Nat) : mleft n t x = if (mps (ylo x 16) t x n).2 = 0 then (mps (ylo x 16) t x n).1 else mleft n t (mps (ylo x 16) t x n).1 := by
  unfold mleft
  rw [mlf_s]
  split
  · rfl
  · next h2 =>
    have := (mps_ok (ylo x 16) t x n).2.2 h2
    rw [mlf_fuel n t x _ this]
theorem mleft_le (n t : Nat) : ∀ f x, x < f → mleft n t x ≤ x
  | 0, x, h => absurd h (Nat.not_lt_zero x)
  | f + 1, x, h => by
    rw [mleft_eq]
    have h1 := mps_ok (ylo x 16) t x n
    split
    · exact h1.1
    · next h2 =>
      have h3 := h1.2.2 h2
      have := mleft_le n t f (mps (ylo x 16) t x n).1 (by omega)
      omega
/-- some of the first k -/
def anb (f : Nat → Bool) : Nat → Bool
  | 0 => false
  | k + 1 => anb f k || f k
theorem anb_s (f : Nat → Bool) (k : Nat) : anb f (k + 1) = (anb f k || f k) := rfl
theorem anb_iff (f : Nat → Bool) : ∀ k, anb f k = true ↔ ∃ j, j < k ∧ f j = true
  | 0 => ⟨fun h => (nomatch h), fun ⟨j, h, _⟩ => absurd h (Nat.not_lt_zero j)⟩
  | k + 1 => by
    rw [anb_s, Bool.or_eq_true, anb_iff f k]
    constructor
    · rintro (⟨j, h1, h2⟩ | h)
      · exact ⟨j, by omega, h2⟩
      · exact ⟨k, by omega, h⟩
    · rintro ⟨j, h1, h2⟩
      by_cases q : j = k
      · subst q; exact Or.inr h2
      · exact Or.inl ⟨j, by omega, h2⟩
def mblk (x s t : Nat) : Bool := anb (fun j => decide (yr x (4 * s + j) < yr x (4 * s + t))) t && decide (0 < yr x (4 * s + t))
def mbs (x : Nat) : Nat → Nat
  | 0 => 0
  | k + 1 => mbs x k + bn (mblk x (k / 4) (k % 4) = true)
theorem mbs_le (x : Nat) : ∀ k, mbs x k ≤ k
  | 0 => Nat.le_refl 0
  | k + 1 => by
    have := mbs_le x k
    have := bn_lt (mblk x (k / 4) (k % 4) = true)
    unfold mbs
    omega
def mdone (how x : Nat) : Prop := if how = 2 then mbs x 16 = 0 else x = 0
def mhn (x s g t : Nat) : Bool := anb (fun j => decide (yr x (4 * s + j) = g)) t
def mmay (how x a b n t : Nat) : Bool := decide (a < n) && (decide (b < n) && (decide (a ≠ b) && (decide (mht x a t ≠ 0) && (decide (mht x b t ≠ t) && (decide (0 < how) || mhn x a (ylo x 16) t)))))
def mmv (x a b t : Nat) : Nat := mwo x (4 * a + (mht x a t - 1)) + yr x (4 * a + (mht x a t - 1)) * 2 ^ (3 * (4 * b + mht x b t))
/-- digits behind a digit taken out -/
theorem yr_mwo {x k j : Nat} : yr (mwo x k) j = if j = k then 0 else yr x j := by
  have hb : ∀ z, yr z j = z / 2 ^ (j * 3) % 2 ^ 3 := fun _ => rfl
  have hm : mwo x k = x - x / 2 ^ (k * 3) % 2 ^ 3 * 2 ^ (k * 3) := rfl
  by_cases h : j = k
  · subst h
    rw [if_pos rfl, hb, hm]
    exact clr_gap x (j * 3) 3
  · rw [if_neg h, hb, hb, hm]
    apply Nat.eq_of_testBit_eq
    intro i
    rw [Nat.testBit_mod_two_pow, Nat.testBit_mod_two_pow, Nat.testBit_div_two_pow, Nat.testBit_div_two_pow, bt_clr]
    by_cases q : i < 3
    · have : ¬ (k * 3 ≤ i + j * 3 ∧ i + j * 3 - k * 3 < 3) := by omega
      by_cases c1 : k * 3 ≤ i + j * 3
      · have c2 : ¬ (i + j * 3 - k * 3 < 3) := fun z => this ⟨c1, z⟩
        simp [q, c1, c2]
      · simp [q, c1]
    · simp [q]
theorem mmv_eq {x a b t : Nat} (hx : x < 2 ^ 48) (hp : 4 * a + (mht x a t - 1) < 16) (hq : 4 * b + mht x b t < 16) (h0 : mht x b t < t) :
    lN (mwo x (4 * a + (mht x a t - 1))) ||| lN (yr x (4 * a + (mht x a t - 1)) * 2 ^ (3 * (4 * b + mht x b t))) = lN (mmv x a b t) := by
  have hj : 2 ^ (3 * (4 * b + mht x b t)) ≤ 2 ^ 45 := Nat.pow_le_pow_right (by decide) (by omega)
  have h8 := yr_lt x (4 * a + (mht x a t - 1))
  have hm : yr x (4 * a + (mht x a t - 1)) * 2 ^ (3 * (4 * b + mht x b t)) ≤ 7 * 2 ^ 45 := Nat.mul_le_mul (by omega) hj
  have := mwo_le x (4 * a + (mht x a t - 1))
  refine lN_or (w := 3) ?_ h8 (by omega) (by omega)
  have h := yr_mwo (x := x) (k := 4 * a + (mht x a t - 1)) (j := 4 * b + mht x b t)
  have h2 := mht_0 h0
  have e : yr (mwo x (4 * a + (mht x a t - 1))) (4 * b + mht x b t) = 0 := by
    rw [h]
    split
    · rfl
    · exact h2
  rw [Nat.mul_comm 3]
  exact e
theorem mmv_lt {x a b t : Nat} (hx : x < 2 ^ 48) (hp : 4 * a + (mht x a t - 1) < 16) (hq : 4 * b + mht x b t < 16) (h0 : mht x b t < t) : mmv x a b t < 2 ^ 48 := by
  have hx2 : mwo x (4 * a + (mht x a t - 1)) < 2 ^ 48 := Nat.lt_of_le_of_lt (mwo_le _ _) hx
  have h8 := yr_lt x (4 * a + (mht x a t - 1))
  have e : mmv x a b t = mwo x (4 * a + (mht x a t - 1)) ||| yr x (4 * a + (mht x a t - 1)) * 2 ^ (3 * (4 * b + mht x b t)) := by
    refine (bt_or (w := 3) ?_ h8).symm
    have h := yr_mwo (x := x) (k := 4 * a + (mht x a t - 1)) (j := 4 * b + mht x b t)
    have h2 := mht_0 h0
    rw [Nat.mul_comm 3]
    show yr _ _ = 0
    rw [h]
    split
    · rfl
    · exact h2
  rw [e]
  refine Nat.or_lt_two_pow hx2 ?_
  have hj : 2 ^ (3 * (4 * b + mht x b t)) ≤ 2 ^ 45 := Nat.pow_le_pow_right (by decide) (by omega)
  have := Nat.mul_le_mul (show yr x (4 * a + (mht x a t - 1)) ≤ 7 by omega) hj
  omega
/-! the reference's rule -/
/-- how many above the highest box of the next rank, counted from n on; 9 if none -/
def mab (x s g h : Nat) : Nat → Nat → Nat
  | 0, _ => 9
  | f + 1, n => if h ≤ n then 9 else if yr x (4 * s + (h - 1 - n)) = g then n else mab x s g h f (n + 1)
theorem mab_s (x s g h f n : Nat) : mab x s g h (f + 1) n = if h ≤ n then 9 else if yr x (4 * s + (h - 1 - n)) = g then n else mab x s g h f (n + 1) := rfl
def mabv (x s t : Nat) : Nat := mab x s (ylo x 16) (mht x s t) 5 0
theorem mab_le (x s g h : Nat) : ∀ f n, n + f ≤ 9 → mab x s g h f n ≤ 9
  | 0, n, _ => Nat.le_refl 9
  | f + 1, n, hn => by
    rw [mab_s]
    split
    · exact Nat.le_refl 9
    · split
      · omega
      · exact mab_le x s g h f (n + 1) (by omega)
/-- the least of a stack, 9 if it is empty -/
def mlo (x s : Nat) : Nat → Nat
  | 0 => 9
  | k + 1 => if 0 < yr x (4 * s + k) ∧ yr x (4 * s + k) < mlo x s k then yr x (4 * s + k) else mlo x s k
theorem mlo_s (x s k : Nat) : mlo x s (k + 1) = if 0 < yr x (4 * s + k) ∧ yr x (4 * s + k) < mlo x s k then yr x (4 * s + k) else mlo x s k := rfl
theorem mlo_le (x s : Nat) : ∀ k, mlo x s k ≤ 9
  | 0 => Nat.le_refl 9
  | k + 1 => by
    have := mlo_le x s k
    have := yr_lt x (4 * s + k)
    rw [mlo_s]
    split <;> omega
/-- where to: of a stack's least, if there is one, else beyond all -/
def mq1 (x t : Nat) : Option Nat → Nat
  | none => 100
  | some q => mlo x q t
def mq0 (x t : Nat) : Option Nat → Nat
  | none => 0
  | some q => mlo x q t
def mfit (x t b s : Nat) (o : Option Nat) : Option Nat := if b ≤ mlo x s t ∧ mlo x s t ≤ mq1 x t o then some s else o
def mopn (x t s : Nat) (o : Option Nat) : Option Nat := if mq0 x t o ≤ mlo x s t then some s else o
/-- the last i stacks looked at, from the last one down -/
def mtg (x fr b n t : Nat) : Nat → Option Nat × Option Nat
  | 0 => (none, none)
  | i + 1 => if n - 1 - i = fr ∨ mht x (n - 1 - i) t = t then mtg x fr b n t i else (mfit x t b (n - 1 - i) (mtg x fr b n t i).1, mopn x t (n - 1 - i) (mtg x fr b n t i).2)
theorem mtg_s (x fr b n t i : Nat) : mtg x fr b n t (i + 1) = if n - 1 - i = fr ∨ mht x (n - 1 - i) t = t then mtg x fr b n t i else (mfit x t b (n - 1 - i) (mtg x fr b n t i).1, mopn x t (n - 1 - i) (mtg x fr b n t i).2) := rfl
theorem mtg_ok (x fr b t : Nat) {n : Nat} : ∀ i, i ≤ n → (∀ q, (mtg x fr b n t i).1 = some q → q < n) ∧ ∀ q, (mtg x fr b n t i).2 = some q → q < n
  | 0, _ => ⟨fun _ h => (nomatch h), fun _ h => (nomatch h)⟩
  | i + 1, hi => by
    have ih := mtg_ok x fr b t i (Nat.le_of_succ_le hi)
    rw [mtg_s]
    split
    · exact ih
    · refine ⟨?_, ?_⟩
      · unfold mfit
        split
        · intro q h; cases h; omega
        · exact ih.1
      · unfold mopn
        split
        · intro q h; cases h; omega
        · exact ih.2
def mtgt (x fr b n t : Nat) : Option Nat := if (mtg x fr b n t n).1 = none then (mtg x fr b n t n).2 else (mtg x fr b n t n).1
theorem oN_lt0 {o : Option Nat} (h : ∀ k, o = some k → k < 1000000) : oN o < 0 ↔ o = none := by
  cases o with
  | none => exact ⟨fun _ => rfl, fun _ => by decide⟩
  | some k => exact ⟨fun q => absurd q (nI_pos (by have := h k rfl; omega)), fun q => nomatch q⟩
/-- the table's places -/
def mhash (x : Nat) : Nat := x * 11400714819323198485 % 18446744073709551616 / 2 ^ 47
theorem mhash_lt (x : Nat) : mhash x < 131072 := by unfold mhash; omega
/-- the rank of a group -/
def rkf (GO : Nat → Nat) (g : Nat) : Nat → Nat
  | 0 => 1
  | k + 1 => rkf GO g k + bn (GO (k + 1) < g)
theorem rkf_le (GO : Nat → Nat) (g : Nat) : ∀ k, rkf GO g k ≤ k + 1
  | 0 => Nat.le_refl 1
  | k + 1 => by
    have := rkf_le GO g k
    have := bn_lt (GO (k + 1) < g)
    unfold rkf
    omega
/-- a changed row -/
def upN (f : Nat → Nat) (k v : Nat) : Nat → Nat := fun j => if j = k then v else f j
theorem upN_s (f : Nat → Nat) (k v : Nat) : upN f k v k = v := if_pos rfl
theorem upN_n {f : Nat → Nat} {k v j : Nat} (h : j ≠ k) : upN f k v j = f j := if_neg h
theorem upN_I (f : Nat → Nat) (k v : Nat) : upd (fun j => nI (f j)) k (nI v) = fun j => nI (upN f k v j) := by
  funext j
  unfold upd upN
  split <;> rfl
theorem upN_L (f : Nat → Nat) (k v : Nat) : vp_updL (fun j => lN (f j)) k (lN v) = fun j => lN (upN f k v j) := by
  funext j
  unfold vp_updL upN
  split <;> rfl
section WK4
variable {p : Program} {l : Launch} {e : Env} {R : Room} {s : State} {m : MethodId} {args : Array Value} {below : List Frame} {meth : Method} {c : Code} {H : Heap} {locs : List Loc} {cells slots : Nat} {Q : State → Prop}
variable {cc : ByteArray} {pc : Nat} {ls : Array Slot} {rest st0 : List Value}
theorem wk_idiv (hexec : p.tables.exec = Jvm.exec) (hb : c.code = cc) {a b : Nat} (ha : a < 2147483648) (h0 : 0 < b) (hB : b < 2147483648) (hdg : decode cc pc = .ok (.idiv, 1)) (k : W p l e R s m args below meth c H locs cells slots Q (F0 m (pc + 1) ls (.int (nI (a / b)) :: rest))) : W p l e R s m args below meth c H locs cells slots Q (F0 m pc ls (.int (nI b) :: .int (nI a) :: rest)) :=
  lv_idiv hexec hb hdg (nI_ne0 h0 hB) (wk_ti (pk_div ha h0 hB) k)
theorem wk_irem (hexec : p.tables.exec = Jvm.exec) (hb : c.code = cc) {a b : Nat} (ha : a < 2147483648) (h0 : 0 < b) (hB : b < 2147483648) (hdg : decode cc pc = .ok (.irem, 1)) (k : W p l e R s m args below meth c H locs cells slots Q (F0 m (pc + 1) ls (.int (nI (a % b)) :: rest))) : W p l e R s m args below meth c H locs cells slots Q (F0 m pc ls (.int (nI b) :: .int (nI a) :: rest)) :=
  lv_irem hexec hb hdg (nI_ne0 h0 hB) (wk_ti (pk_rem ha h0 hB) k)
end WK4
