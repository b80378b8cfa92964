/-! words on private members of nest mates: carried with the class's worlds -/
def nst (U : State) : Prop := (va_Nw (.fieldLinkNest RX6 107 RX4 "from" "[I" RX6) U ∧ va_Nw (.fieldLinkNest RX6 110 RX4 "to" "[I" RX6) U ∧ va_Nw (.fieldLinkNest RX6 113 RX4 "group" "[I" RX6) U ∧ va_Nw (.fieldLinkNest RX6 135 RX4 "length" "I" RX6) U ∧ va_Nw (.fieldLinkNest RX6 126 RX4 "manner" "I" RX6) U ∧ va_Nw (.fieldLinkNest RX6 43 RX3 "way" "LReshuffleSearch$Way;" RX6) U) ∧ va_Nw (.methodLinkNest RX6 29 yX1_init RX6) U ∧ va_Nw (.methodLinkNest RX3 11 yX4_init RX6) U ∧ va_Nw (.methodLinkNest RX3 20 yX0_init RX6) U ∧ va_Nw (.methodLinkNest RX4 37 yX6_travelOf RX6) U
theorem nst_same {u U : State} (h : u.vm = U.vm) (q : nst u) : nst U :=
  ⟨⟨va_Nw.same rfl h q.1.1, va_Nw.same rfl h q.1.2.1, va_Nw.same rfl h q.1.2.2.1, va_Nw.same rfl h q.1.2.2.2.1, va_Nw.same rfl h q.1.2.2.2.2.1, va_Nw.same rfl h q.1.2.2.2.2.2⟩, va_Nw.same rfl h q.2.1, va_Nw.same rfl h q.2.2.1, va_Nw.same rfl h q.2.2.2.1, va_Nw.same rfl h q.2.2.2.2⟩
theorem nst_warm {s U : State} (h : s.WarmedH U.vm) (q : nst s) : nst U :=
  ⟨⟨va_Nw.warmF h q.1.1, va_Nw.warmF h q.1.2.1, va_Nw.warmF h q.1.2.2.1, va_Nw.warmF h q.1.2.2.2.1, va_Nw.warmF h q.1.2.2.2.2.1, va_Nw.warmF h q.1.2.2.2.2.2⟩, va_Nw.warmM h q.2.1, va_Nw.warmM h q.2.2.1, va_Nw.warmM h q.2.2.2.1, va_Nw.warmM h q.2.2.2.2⟩
abbrev wc_P (D : va_G) (tys : List (ClassId × FieldType)) (W0 : va_W) (sz : Nat) (U : State) : Prop := wr_P D tys W0 sz U ∧ nst U
theorem wc_blind {D : va_G} {tys : List (ClassId × FieldType)} {W0 : va_W} {sz : Nat} {av : List Value} : FrameBlind (va_Pc av (wc_P D tys W0 sz)) := fun a U g mk q => ⟨q.1, ⟨q.2.1.1, q.2.1.2.1, va_K.moved (u := U) (U := U.calling g mk a) (Vm.Alike.refl U.vm) q.2.1.2.2.1, q.2.1.2.2.2⟩, nst_same (u := U) rfl q.2.2⟩
abbrev rc_P (D : va_G) (tys : List (ClassId × FieldType)) (W0 : va_W) (U : State) : Prop := va_P D vwCl W0 U.heap ∧ va_K D vwCl tys U ∧ nst U
theorem rc_blind {D : va_G} {tys : List (ClassId × FieldType)} {W0 : va_W} {av : List Value} : FrameBlind (va_Pc av (rc_P D tys W0)) := fun a U g mk q => ⟨q.1, q.2.1, va_K.moved (u := U) (U := U.calling g mk a) (Vm.Alike.refl U.vm) q.2.2.1, nst_same (u := U) rfl q.2.2.2⟩
theorem vtr_eq {a b : Nat} (ha : a < 1000000) (hb : b < 1000000) : nI 2 + (if 0 ≤ nI a - nI b then nI a - nI b else 0 - (nI a - nI b)) = nI (vtr a b) := by
  unfold vtr
  have e : (nI a - nI b).toInt = (a : Int) - b := pk_sub_toInt (by omega) (by omega)
  by_cases h : b ≤ a
  · rw [if_pos (by rw [Int32.le_iff_toInt_le, e, Int32.toInt_zero]; omega), pk_sub h, nI_add]
    congr 1
    omega
  · rw [if_neg (by rw [Int32.le_iff_toInt_le, e, Int32.toInt_zero]; omega)]
    have : 0 - (nI a - nI b) = nI b - nI a := by
      rw [Int32.zero_sub, Int32.neg_sub]
    rw [this, pk_sub (by omega), nI_add]
    congr 1
    omega
/-! the class's numbering of groups -/
def rkc (RK : Nat → Nat) (g : Nat) : Nat := if 0 < g ∧ g < 21 then RK g else 0
def gpc (GP : Nat → Nat) (r : Nat) : Nat := if 0 < r ∧ r < 7 then GP r else 0
def zr (n : Nat) (v : Nat) (f : Nat → Nat) : Nat → Nat := fun j => if j < n then v else f j
theorem zr_s (n v : Nat) (f : Nat → Nat) : upN (zr n v f) n v = zr (n + 1) v f := by
  funext j
  unfold upN zr
  by_cases h : j = n
  · rw [if_pos h, if_pos (by omega)]
  · rw [if_neg h]
    by_cases q : j < n
    · rw [if_pos q, if_pos (by omega)]
    · rw [if_neg q, if_neg (by omega)]
theorem zr_0 (v : Nat) (f : Nat → Nat) : zr 0 v f = f := by
  funext j
  unfold zr
  rw [if_neg (Nat.not_lt_zero j)]
def lr1 (P R0 : Nat → Nat) : Nat → Nat → Nat
  | 0 => R0
  | k + 1 => if 0 < P k ∧ P k < 21 then upN (lr1 P R0 k) (P k) 1 else lr1 P R0 k
theorem lr1_s (P R0 : Nat → Nat) (k : Nat) : lr1 P R0 (k + 1) = if 0 < P k ∧ P k < 21 then upN (lr1 P R0 k) (P k) 1 else lr1 P R0 k := rfl
def lr2 (R1 G0 : Nat → Nat) : Nat → Nat × (Nat → Nat) × (Nat → Nat)
  | 0 => (0, R1, G0)
  | k + 1 => if (lr2 R1 G0 k).2.1 (k + 1) ≠ 0 ∧ (lr2 R1 G0 k).1 + 1 < 7 then ((lr2 R1 G0 k).1 + 1, upN (lr2 R1 G0 k).2.1 (k + 1) ((lr2 R1 G0 k).1 + 1), upN (lr2 R1 G0 k).2.2 ((lr2 R1 G0 k).1 + 1) (k + 1)) else lr2 R1 G0 k
theorem lr2_s (R1 G0 : Nat → Nat) (k : Nat) : lr2 R1 G0 (k + 1) = if (lr2 R1 G0 k).2.1 (k + 1) ≠ 0 ∧ (lr2 R1 G0 k).1 + 1 < 7 then ((lr2 R1 G0 k).1 + 1, upN (lr2 R1 G0 k).2.1 (k + 1) ((lr2 R1 G0 k).1 + 1), upN (lr2 R1 G0 k).2.2 ((lr2 R1 G0 k).1 + 1) (k + 1)) else lr2 R1 G0 k := rfl
theorem lr2_le (R1 G0 : Nat → Nat) : ∀ k, (lr2 R1 G0 k).1 ≤ 6
  | 0 => Nat.zero_le 6
  | k + 1 => by
    have := lr2_le R1 G0 k
    rw [lr2_s]
    split
    · next h => show _ + 1 ≤ 6; omega
    · exact this
theorem lr1_lt {P R0 : Nat → Nat} (h : ∀ j, R0 j < 8) : ∀ k j, lr1 P R0 k j < 8
  | 0, j => h j
  | k + 1, j => by
    have := lr1_lt (P := P) h k j
    rw [lr1_s]
    split
    · unfold upN
      split <;> omega
    · exact this
theorem lr2_lt {R1 G0 : Nat → Nat} (h : ∀ j, R1 j < 8) : ∀ k j, (lr2 R1 G0 k).2.1 j < 8
  | 0, j => h j
  | k + 1, j => by
    have := lr2_lt (G0 := G0) h k j
    have := lr2_le R1 G0 k
    rw [lr2_s]
    split
    · show upN _ _ _ j < 8
      unfold upN
      split <;> omega
    · assumption
/-- what learn makes of rank and group -/
def lrn (P RK GP : Nat → Nat) : Nat × (Nat → Nat) × (Nat → Nat) := lr2 (lr1 P (zr 21 0 RK) 16) GP 20
theorem zr_lt {f : Nat → Nat} {n : Nat} (h : ∀ j, f j < 8) (j : Nat) : zr n 0 f j < 8 := by
  have := h j
  unfold zr
  split <;> omega
theorem lrn_lt {P RK GP : Nat → Nat} (h : ∀ j, RK j < 8) (j : Nat) : (lrn P RK GP).2.1 j < 8 := by
  unfold lrn
  generalize 20 = a
  generalize 16 = b
  exact lr2_lt (fun j => lr1_lt (zr_lt h) b j) a j
theorem rkc_lt {RK : Nat → Nat} (h : ∀ j, RK j < 8) (g : Nat) : rkc RK g < 8 := by
  unfold rkc
  split
  · exact h g
  · omega
/-! packing and unpacking -/
def pkt (P RK : Nat → Nat) (s t : Nat) (x : Nat) : Nat → Nat
  | 0 => x
  | k + 1 => ylaid (pkt P RK s t x k) s (rkc RK (P (s * t + k)))
def pks (P RK HT : Nat → Nat) (t : Nat) : Nat → Nat
  | 0 => 0
  | s + 1 => pkt P RK s t (pks P RK HT t s) (min (HT s) t)
theorem pkt_lt {P RK : Nat → Nat} {s t x : Nat} (hx : x < 2 ^ 48) (hs : s < 4) : ∀ k, pkt P RK s t x k < 2 ^ 48
  | 0 => hx
  | k + 1 => ylaid_lt (pkt_lt hx hs k) hs _
theorem pks_lt {P RK HT : Nat → Nat} {t : Nat} : ∀ s, s ≤ 4 → pks P RK HT t s < 2 ^ 48
  | 0, _ => by show 0 < 2 ^ 48; decide
  | s + 1, h => pkt_lt (pks_lt s (by omega)) (by omega) _
/-- unpacking: heights, places -/
def upt (x s t : Nat) (GP P : Nat → Nat) : Nat → Nat → Nat
  | 0 => P
  | k + 1 => upN (upt x s t GP P k) (s * t + k) (if k < ysz (yw x s) then gpc GP (yr (yw x s) (ysz (yw x s) - 1 - k)) else 0)
def ups (x t : Nat) (GP P HT : Nat → Nat) : Nat → (Nat → Nat) × (Nat → Nat)
  | 0 => (P, HT)
  | s + 1 => (upt x s t GP (ups x t GP P HT s).1 t, upN (ups x t GP P HT s).2 s (ysz (yw x s)))
def hsum (HT : Nat → Nat) : Nat → Nat
  | 0 => 0
  | k + 1 => hsum HT k + HT k
theorem ysz_le (w : Nat) : ysz w ≤ 4 := by
  unfold ysz
  repeat (first | omega | split)
/-- the hopeless table -/
def chome (k : Nat) : Nat := k * 11400714819323198485 % 18446744073709551616 / 2 ^ 54
theorem chome_lt (k : Nat) : chome k < 1024 := by unfold chome; omega
def cslot (E : Nat → Nat) (k : Nat) : Nat → Nat → Option Nat
  | 0, _ => none
  | f + 1, i => if E ((chome k + i) % 1024) = 0 ∨ E ((chome k + i) % 1024) / 2 ^ 5 = k then some ((chome k + i) % 1024) else cslot E k f (i + 1)
theorem cslot_s (E : Nat → Nat) (k f i : Nat) : cslot E k (f + 1) i = if E ((chome k + i) % 1024) = 0 ∨ E ((chome k + i) % 1024) / 2 ^ 5 = k then some ((chome k + i) % 1024) else cslot E k f (i + 1) := rfl
theorem cslot_ok (E : Nat → Nat) (k : Nat) : ∀ f i q, cslot E k f i = some q → q < 1024 ∧ (E q = 0 ∨ E q / 2 ^ 5 = k)
  | 0, i, q, h => by cases h
  | f + 1, i, q, h => by
    rw [cslot_s] at h
    split at h
    · next h2 =>
      cases h
      exact ⟨Nat.mod_lt _ (by decide), h2⟩
    · exact cslot_ok E k f (i + 1) q h
theorem and1023 (n : Nat) : nI n &&& nI 1023 = nI (n % 1024) := by
  rw [nx_and]
  have h : n &&& 1023 = n % 1024 := Nat.and_two_pow_sub_one_eq_mod n 10
  rw [h]
theorem clearn_eq {k v : Nat} (hk : k < 2 ^ 48) (hv : v < 32) : lN (k * 2 ^ 5) ||| lN v = lN (k * 32 + v) := by
  have h := bt_or (a := k * 2 ^ 5) (b := v) (j := 0) (w := 5) (by omega) (by omega)
  rw [wb_or (by omega) (by omega)]
  have e : k * 2 ^ 5 ||| v = k * 2 ^ 5 + v := by simpa using h
  rw [e]
