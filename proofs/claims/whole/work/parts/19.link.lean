/-! both searches start from one yard; what a way is -/
theorem stl_ok {man n t : Nat} {Y : Nat → List Nat} (h : okY n t Y) (hb : bxY Y ≤ 6) : okY n t (stl man Y) ∧ bxY (stl man Y) ≤ 6 ∧ (man ≠ 2 → nf (stl man Y)) := by
  unfold stl
  split
  · next e => exact ⟨h, hb, fun q => absurd e q⟩
  · have := lv_bx Y
    exact ⟨lv_ok h, by omega, fun _ => lv_nf Y⟩
theorem stl_cE {man n t : Nat} {Y : Nat → List Nat} (ht : t ≤ 4) (h : okY n t Y) (hb : bxY Y ≤ 6) : (if man = 2 then cE Y else yaf 6 (cE Y)) = cE (stl man Y) := by
  unfold stl
  split
  · rfl
  · exact yaf_lv h ht hb
theorem stl_mE {man n t : Nat} {Y : Nat → List Nat} (ht : t ≤ 4) (hn : n ≤ 4) (h : okY n t Y) : (if man = 2 then mE Y else mleft n t (mE Y)) = mE (stl man Y) := by
  unfold stl
  split
  · rfl
  · exact mleft_lv h ht hn
theorem blk_24 {n t : Nat} {Y : Nat → List Nat} (ht : t ≤ 4) (h : okY n t Y) : blk Y ≤ 16 := by
  have := ybb_le (cE Y) 4
  rw [ybb_cE h ht] at this
  omega
/-- the least number of moves, if there is one of 30 or less -/
def least (man n t : Nat) (Y : Nat → List Nat) (k : Nat) : Prop := k ≤ 30 ∧ (way man n t k Y).isSome = true ∧ ∀ j, j < k → way man n t j Y = none
def cpy (f g : Nat → Nat) : Nat → Nat → Nat
  | 0 => f
  | k + 1 => upN (cpy f g k) k (g k)
