/-! both searches start from one yard; what a way is -/
theorem stl_ok {man n t : Nat} {Y : Nat → List Nat} (h : okY n t Y) (hb : bxY Y ≤ 6) : okY n t (stl man Y) ∧ bxY (stl man Y) ≤ 6 ∧ (man ≠ 2 → nf (stl man Y)) := by
  unfold stl
  split
  · next e => exact ⟨h, hb, fun q => absurd e q⟩
  · have := lv_bx Y
    exact ⟨lv_ok h, by omega, fun _ => lv_nf Y⟩
theorem stl_cE {man n t : Nat} {Y : Nat → List Nat} (ht : t ≤ 4) (h : okY n t Y) (hb : bxY Y ≤ 6) : (if man = 2 then cE Y else yaf 6 (cE Y)) = cE (stl man Y) := by
  unfold stl
  split
  · rfl
  · exact yaf_lv h ht hb
theorem stl_mE {man n t : Nat} {Y : Nat → List Nat} (ht : t ≤ 4) (hn : n ≤ 4) (h : okY n t Y) : (if man = 2 then mE Y else mleft n t (mE Y)) = mE (stl man Y) := by
  unfold stl
  split
  · rfl
  · exact mleft_lv h ht hn
theorem blk_24 {n t : Nat} {Y : Nat → List Nat} (ht : t ≤ 4) (h : okY n t Y) : blk Y ≤ 16 := by
  have := ybb_le (cE Y) 4
  rw [ybb_cE h ht] at this
  omega
/-- the least number of moves, if there is one of 30 or less -/
def least (man n t : Nat) (Y : Nat → List Nat) (k : Nat) : Prop := k ≤ 30 ∧ (way man n t k Y).isSome = true ∧ ∀ j, j < k → way man n t j Y = none
def cpy (f g : Nat → Nat) : Nat → Nat → Nat
  | 0 => f
  | k + 1 => upN (cpy f g k) k (g k)
/-! sizes; array classes are one for a type -/
def szv (i : Int32) : Nat := if ¬ i < nI 2 ∧ ¬ nI 4 < i then i.toNatClampNeg else 3
theorem szv_ok (i : Int32) : 2 ≤ szv i ∧ szv i ≤ 4 := by
  unfold szv
  split
  · next h =>
    have h0 : ¬ i < 0 := fun q => h.1 (by
      rw [Int32.lt_iff_toInt_lt] at q ⊢
      have a1 : (nI 2).toInt = 2 := by decide
      have a2 : (0 : Int32).toInt = 0 := by decide
      omega)
    obtain ⟨j, hj, rfl⟩ := nI_of h0
    rw [nI_clamp hj]
    exact ⟨Nat.le_of_not_lt (fun q => h.1 (nI_lt q (by decide))), Nat.le_of_not_lt (fun q => h.2 (nI_lt q hj))⟩
  · omega
abbrev z0 : Nat → Nat := fun _ => 0
def prim (t : FieldType) : Bool := match t with
  | .object _ => false
  | _ => true
theorem ty_eq {D : va_G} {cl : List vw_C} {tys : List (ClassId × FieldType)} {U : State} {a b : ClassId} {ty : FieldType} (h : va_K D cl tys U) (i j : Nat) (hi : tys[i]? = some (a, ty)) (hj : tys[j]? = some (b, ty)) (hp : prim ty = true) : a = b := by
  have h1 := (h.2 i _ hi).2
  have h2 := (h.2 j _ hj).2
  cases ty with
  | object c => exact nomatch hp
  | _ => exact Option.some.inj (h1.symm.trans h2)
theorem arr_ty {a : Array Value} {s : State} {t : FieldType} (hp : prim t = true) (h : (Cond.arrayClass t).before a s = true) : ∃ cA, ArrOfT s cA t ∧ va_RA s cA t := by
  obtain ⟨cA, kA, comp, h1, h2, h3⟩ := Cond.arrayClass_spec h
  refine ⟨cA, fun n z => ⟨fun k h => (by cases h), kA, h2, comp, h3⟩, ?_⟩
  cases t with
  | object c => exact nomatch hp
  | _ => exact h1
