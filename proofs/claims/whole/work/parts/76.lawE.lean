/-! the law's start: what the tables give -/
theorem map9 {α β : Type} {p : α → β → Prop} : ∀ (l : List α), (∀ x ∈ l, ∃ y, p x y) → ∀ x ∈ l, ∃ y, p x y := fun _ h => h
def thG : List Cond := thW.filter (fun w => decide (w ∉ lw_tbl))
set_option maxRecDepth 100000 in
theorem thW_l1 : ∀ w ∈ thW.take 10, w ∈ lw_tbl := by decide +kernel
set_option maxRecDepth 100000 in
theorem thW_l2 : ∀ w ∈ vx_atS RX6 56 RJx00060 thE, w ∈ lw_tbl := by decide +kernel
set_option maxRecDepth 100000 in
theorem thW_l3 : ∀ w ∈ vx_atS RX6 63 "java/lang/IllegalArgumentException" thF, w ∈ lw_tbl := by decide +kernel
set_option maxRecDepth 100000 in
theorem thW_l4 : ∀ w ∈ vx_atS RX6 72 "java/lang/IllegalStateException" thF, w ∈ lw_tbl := by decide +kernel
set_option maxRecDepth 100000 in
theorem thW_l5 : ∀ w ∈ nxf RX6 77, w ∈ lw_tbl := by decide +kernel
set_option maxRecDepth 100000 in
theorem thW_l6 : ∀ w ∈ vx_atS RX6 106 "java/lang/IndexOutOfBoundsException" thF, w ∈ lw_tbl := by decide +kernel
theorem thW_in : ∀ w ∈ thW, w ∈ lw_tbl := fun w h => (List.mem_append.mp h).elim (fun h => thW_l1 w h) (fun h => (List.mem_append.mp h).elim (thW_l2 w) (fun h => (List.mem_append.mp h).elim (thW_l3 w) (fun h => (List.mem_append.mp h).elim (thW_l4 w) (fun h => (List.mem_append.mp h).elim (thW_l5 w) (thW_l6 w)))))
set_option maxRecDepth 100000 in
theorem lsW_in : ∀ w ∈ lsW, w ∈ lw_tbl := by decide +kernel
theorem st_tws {b : Nat} {s : State} (htb : ∀ w ∈ lw_tbl, w.before #[Value.ref b] s = true) (hg : ∀ w ∈ flatC (Jvm.Cond.and given_1 narrow_1), w.before #[Value.ref b] s = true) (hnx : ∀ q ∈ thR, Cond.stringRef RX6 q.1 q.2 ∈ lw_tbl ∧ Cond.exactly (.string RX6 q.1) "java/lang/String" ∈ flatC (Jvm.Cond.and given_1 narrow_1)) : tws s := by
  refine ⟨fun w hw => ?_, fun q hq => ?_⟩
  · have := List.all_eq_true.mp thW_ok w hw
    rw [Bool.and_eq_true] at this
    exact va_Nw.of this.2 (htb w (thW_in w hw))
  · obtain ⟨h1, h2⟩ := hnx q hq
    obtain ⟨a, c, cell, k, e1, -⟩ := Cond.exactly_spec (hg _ h2)
    exact ⟨a, vk_R.of (htb _ h1) e1⟩
set_option maxRecDepth 100000 in
theorem thR_in : ∀ q ∈ thR, Cond.stringRef RX6 q.1 q.2 ∈ lw_tbl ∧ Cond.exactly (.string RX6 q.1) "java/lang/String" ∈ flatC (Jvm.Cond.and given_1 narrow_1) := by decide +kernel
set_option maxRecDepth 100000 in
theorem st_nst {b : Nat} {s : State} (htb : ∀ w ∈ lw_tbl, w.before #[Value.ref b] s = true) : nst s :=
  ⟨⟨va_Nw.of rfl (htb _ (by decide +kernel)), va_Nw.of rfl (htb _ (by decide +kernel)), va_Nw.of rfl (htb _ (by decide +kernel)), va_Nw.of rfl (htb _ (by decide +kernel)), va_Nw.of rfl (htb _ (by decide +kernel)), va_Nw.of rfl (htb _ (by decide +kernel))⟩, va_Nw.of rfl (htb _ (by decide +kernel)), va_Nw.of rfl (htb _ (by decide +kernel)), va_Nw.of rfl (htb _ (by decide +kernel)), va_Nw.of rfl (htb _ (by decide +kernel))⟩
set_option maxRecDepth 100000 in
theorem st_tzq {b : Nat} {s : State} (htb : ∀ w ∈ lw_tbl, w.before #[Value.ref b] s = true) (hg : ∀ w ∈ flatC (Jvm.Cond.and given_1 narrow_1), w.before #[Value.ref b] s = true) : tzq (fun q => s.heap.size ≤ q) s s.heap :=
  ⟨vx_Zqof (htb _ (by decide +kernel)) (htb _ (by decide +kernel)) (hg _ (by decide +kernel)) (fun a h => Nat.not_le.mpr h), vx_Zqof (htb _ (by decide +kernel)) (htb _ (by decide +kernel)) (hg _ (by decide +kernel)) (fun a h => Nat.not_le.mpr h)⟩
set_option maxRecDepth 100000 in
theorem st_lst {b : Nat} {s : State} (htb : ∀ w ∈ lw_tbl, w.before #[Value.ref b] s = true) (hg : ∀ w ∈ flatC (Jvm.Cond.and given_1 narrow_1), w.before #[Value.ref b] s = true) : lst s :=
  ⟨fun w hw => by
    have := List.all_eq_true.mp lsW_ok w hw
    rw [Bool.and_eq_true] at this
    exact va_Nw.of this.2 (htb w (lsW_in w hw)), va_Nc.of (hg _ (by decide +kernel)), va_Nc.of (hg _ (by decide +kernel)), va_Nc.of (hg _ (by decide +kernel)), va_Nc.of (hg _ (by decide +kernel))⟩
set_option maxRecDepth 100000 in
theorem st_K {b : Nat} {s : State} (htb : ∀ w ∈ lw_tbl, w.before #[Value.ref b] s = true) : ∃ (dC : Nat → ClassId) (dI : Nat → Nat → Nat) (cI cJ cB : ClassId), va_K (dC, dI) vwCl [(cI, .int), (cJ, .long), (cB, .byte)] s := by
  obtain ⟨c0, i0, k0⟩ := u_known htb inJx00060 (htb (.instantiable RJx00060 6) (by decide +kernel))
  obtain ⟨c1, i1, k1⟩ := u_known htb inX0 (htb (.instantiable RX0 1) (by decide +kernel))
  obtain ⟨c2, i2, k2⟩ := u_known htb inX1 (htb (.instantiable RX1 2) (by decide +kernel))
  obtain ⟨c3, i3, k3⟩ := u_known htb inX3 (htb (.instantiable RX3 5) (by decide +kernel))
  obtain ⟨c4, i4, k4⟩ := u_known htb inX4 (htb (.instantiable RX4 6) (by decide +kernel))
  obtain ⟨c5, i5, k5⟩ := u_known htb inX6 (htb (.instantiable RX6 7) (by decide +kernel))
  obtain ⟨c6, i6, k6⟩ := u_known htb inX7 (htb (.instantiable RX7 17) (by decide +kernel))
  obtain ⟨cI, a1, a2⟩ := arr_ty (t := .int) rfl (htb (.arrayClass .int) (by decide +kernel))
  obtain ⟨cJ, b1, b2⟩ := arr_ty (t := .long) rfl (htb (.arrayClass .long) (by decide +kernel))
  obtain ⟨cB, d1, d2⟩ := arr_ty (t := .byte) rfl (htb (.arrayClass .byte) (by decide +kernel))
  refine ⟨fun k => [c0, c1, c2, c3, c4, c5, c6].getD k c0, fun k => [i0, i1, i2, i3, i4, i5, i6].getD k i0, cI, cJ, cB, fun k q hq => ?_, fun k q hq => ?_⟩
  · match k, hq with
    | 0, hq => cases hq; exact k0
    | 1, hq => cases hq; exact k1
    | 2, hq => cases hq; exact k2
    | 3, hq => cases hq; exact k3
    | 4, hq => cases hq; exact k4
    | 5, hq => cases hq; exact k5
    | 6, hq => cases hq; exact k6
    | k + 7, hq => exact nomatch hq
  · match k, hq with
    | 0, hq => cases hq; exact ⟨a1, a2⟩
    | 1, hq => cases hq; exact ⟨b1, b2⟩
    | 2, hq => cases hq; exact ⟨d1, d2⟩
    | k + 3, hq => exact nomatch hq
