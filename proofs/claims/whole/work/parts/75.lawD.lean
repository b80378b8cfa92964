/-! the law: cell, the loop, the start -/
def scv (L : Nat) (xs : Nat → Int32) (k : Nat) : Int32 := if k < L then xs k else 0
set_option maxHeartbeats 4000000 in
set_option maxRecDepth 100000 in
theorem c_L_cell (l : Launch) (b L : Nat) (xs : Nat → Int32) (hL : L ≤ 1538) (k : Nat) (hk : k < 1000) : Met l yL_cell wsL_cell ({ frames := 0, cells := 0, slots := 0, locals := 0 }) (va_Pc [.ref b, .int (nI k)] (fun U => va_X b L xs U U.heap ∧ b < U.heap.size)) (pu_Q (.int (scv L xs k))) 0 0 (fun _ => False) := by
  refine Met.ofW (cc := cL_cell) (maxL := 2) (ret := (some .int)) (by decide) rfl ?_
  intro p e s m args below meth c s₁ B hml hv
  obtain ⟨rfl, hX, hbl⟩ := hv
  have hx := B.exec
  have hb := B.bytes
  have hr := B.returns
  have hlocks := B.notSynchronized
  have hl := lv_entry ([.ref b, .int (nI k)]) (n := 2) (Nat.le_of_ble_eq_true rfl)
  rw [lg_entry_eq]
  generalize (lg_sl ([.ref b, .int (nI k)]) ++ List.replicate (2 - (lg_sl ([.ref b, .int (nI k)])).length) Slot.unset).toArray = ls at hl ⊢
  have hl : lv_has ls 2 [(0, .ref b), (1, .int (nI k))] := hl
  have hS : va_S (fun _ => False) s.heap s.heap [] := va_S.rf
  refine lv_iload_n hx hb dL_cell_0 rfl (lv_at hl 1 rfl) ?_
  refine lv_aload_n hx hb dL_cell_1 rfl (lv_at hl 0 rfl) ?_
  refine va_slen hx hb hX hbl (fun h => h) hS dL_cell_2 ?_
  refine wk_ti (v' := nI L) rfl ?_
  refine wk_icmp_ge (tgt := 12) hx hb (by omega) (by omega) dL_cell_3 (by decide) (fun c_3 => ?_) (fun c_3 => ?_)
  · refine lv_iconst (v := nI 0) hx hb dL_cell_12 (by decide +kernel) ?_
    refine wk_ti (v' := scv L xs k) (by unfold scv; rw [if_neg (by omega)]; rfl) ?_
    exact W.iret hx hb hr (fun t9 ht _ => ⟨rfl, ht⟩) (fun _ h => nomatch h) dL_cell_13
  · refine lv_aload_n hx hb dL_cell_6 rfl (lv_at hl 0 rfl) ?_
    refine lv_iload_n hx hb dL_cell_7 rfl (lv_at hl 1 rfl) ?_
    refine va_sld hx hb hX hbl (fun h => h) hS (vp_in_nI (by omega) (by omega)) dL_cell_8 ?_
    refine wk_ti (v' := scv L xs k) (by unfold scv; rw [if_pos (by omega), nI_clamp (by omega)]) ?_
    refine lv_goto (tgt := 13) hx hb dL_cell_9 (by decide) ?_
    exact W.iret hx hb hr (fun t9 ht _ => ⟨rfl, ht⟩) (fun _ h => nomatch h) dL_cell_13
theorem cell_blind {b L : Nat} {xs : Nat → Int32} {av : List Value} : FrameBlind (va_Pc av (fun U => va_X b L xs U U.heap ∧ b < U.heap.size)) := fun a U g mk q => ⟨q.1, va_X.moved (u := U) (U := U.calling g mk a) (Vm.Alike.refl U.vm) q.2.1, q.2.2⟩
theorem sw10 (x : Int32) : x = nI 0 ∨ x = nI 1 ∨ x = nI 2 ∨ x = nI 3 ∨ x = nI 4 ∨ x = nI 5 ∨ x = nI 6 ∨ x = nI 7 ∨ x = nI 8 ∨ x = nI 9 ∨ (x.toInt < 0 ∨ 9 < x.toInt) := by
  have e : ∀ k : Nat, k < 10 → (x.toInt = (k : Int) → x = nI k) := fun k hk h => Int32.toInt_inj.mp (h.trans (nI_toInt (by omega)).symm)
  rcases (show x.toInt = 0 ∨ x.toInt = 1 ∨ x.toInt = 2 ∨ x.toInt = 3 ∨ x.toInt = 4 ∨ x.toInt = 5 ∨ x.toInt = 6 ∨ x.toInt = 7 ∨ x.toInt = 8 ∨ x.toInt = 9 ∨ (x.toInt < 0 ∨ 9 < x.toInt) by omega) with h | h | h | h | h | h | h | h | h | h | h
  · exact Or.inl (e 0 (by decide) h)
  · exact Or.inr (Or.inl (e 1 (by decide) h))
  · exact Or.inr (Or.inr (Or.inl (e 2 (by decide) h)))
  · exact Or.inr (Or.inr (Or.inr (Or.inl (e 3 (by decide) h))))
  · exact Or.inr (Or.inr (Or.inr (Or.inr (Or.inl (e 4 (by decide) h)))))
  · exact Or.inr (Or.inr (Or.inr (Or.inr (Or.inr (Or.inl (e 5 (by decide) h))))))
  · exact Or.inr (Or.inr (Or.inr (Or.inr (Or.inr (Or.inr (Or.inl (e 6 (by decide) h)))))))
  · exact Or.inr (Or.inr (Or.inr (Or.inr (Or.inr (Or.inr (Or.inr (Or.inl (e 7 (by decide) h))))))))
  · exact Or.inr (Or.inr (Or.inr (Or.inr (Or.inr (Or.inr (Or.inr (Or.inr (Or.inl (e 8 (by decide) h)))))))))
  · exact Or.inr (Or.inr (Or.inr (Or.inr (Or.inr (Or.inr (Or.inr (Or.inr (Or.inr (Or.inl (e 9 (by decide) h))))))))))
  · exact Or.inr (Or.inr (Or.inr (Or.inr (Or.inr (Or.inr (Or.inr (Or.inr (Or.inr (Or.inr (h))))))))))
theorem law_head {p : Program} {l : Launch} {e : Env} {s : State} {m : MethodId} {below : List Frame} {meth : Method} {c : Code} {b L : Nat} {xs : Nat → Int32} {dC : Nat → ClassId} {dI : Nat → Nat → Nat} {ad am : Nat → Nat} {ao : Nat} {cI cJ cB : ClassId} {n t : Nat} {i : Nat} {ls : Array Slot} {H : Heap} {locs : List Loc} {cells slots : Nat} {Q : State → Prop} (C : lwC l p s m c b L xs dC dI cI cJ cB) (hi5 : i < 5000) (h : lwS (dC, dI) s ad am ao cI cJ cB n t b i ls H locs) (ke : W p l e room_1 s m #[Value.ref b] below meth c H locs cells slots Q (F0 m 609 ls [])) (kk : i + 2 < L → W p l e room_1 s m #[Value.ref b] below meth c H locs cells slots Q (F0 m 52 ls [])) : W p l e room_1 s m #[Value.ref b] below meth c H locs cells slots Q (F0 m 43 ls []) := by
  obtain ⟨hx, hb, hml, hown, hts, hX, hbl, hL, hK, hN, hTw, hZ, hLs, hlt⟩ := C
  obtain ⟨A, ov, RK, GP, sm, F, T, M, ST, ln, mn, E, th, kp, ma, my, rk, F', T', M', WG, GO, Y, V, AT, NX, hR, hP, hD, hS, hl⟩ := h
  have hbA : ¬ (fun q : Nat => s.heap.size ≤ q) b := Nat.not_le.mpr hbl
  refine lv_iload hx hb dL_law_43 (lv_at hl 4 rfl) ?_
  refine lv_aload_n hx hb dL_law_45 rfl (lv_at hl 0 rfl) ?_
  refine va_slen hx hb hX hbl hbA hS dL_law_46 ?_
  refine wk_ti (v' := nI L) rfl ?_
  refine lv_iconst (v := nI 3) hx hb dL_law_47 (by decide +kernel) ?_
  refine lv_isub hx hb dL_law_48 ?_
  refine lv_icmp_gt (tgt := 609) hx hb dL_law_49 (by decide) (fun _ => ke) (fun c9 => kk ?_)
  have e1 : (nI L - nI 3).toInt = (L : Int) - (3 : Nat) := pk_sub_toInt (by omega) (by omega)
  have c8 : ¬ nI L - nI 3 < nI i := c9
  rw [Int32.lt_iff_toInt_lt, e1, nI_toInt (by omega)] at c8
  omega
theorem law_end {p : Program} {l : Launch} {e : Env} {s : State} {m : MethodId} {below : List Frame} {meth : Method} {c : Code} {b L : Nat} {xs : Nat → Int32} {dC : Nat → ClassId} {dI : Nat → Nat → Nat} {ad am : Nat → Nat} {ao : Nat} {cI cJ cB : ClassId} {n t : Nat} {i : Nat} {ls : Array Slot} {H : Heap} {locs : List Loc} {cells slots : Nat} (C : lwC l p s m c b L xs dC dI cI cJ cB) (hr : meth.sig.returnType = ret) (hlocks : meth.locks = false) (hc : cells ≤ 601024) (hs : slots ≤ 7293000) (h : lwS (dC, dI) s ad am ao cI cJ cB n t b i ls H locs) : W p l e room_1 s m #[Value.ref b] below meth c H locs cells slots (lw_Z below #[Value.ref b] s) (F0 m 609 ls []) := by
  obtain ⟨hx, hb, hml, hown, hts, hX, hbl, hL, hK, hN, hTw, hZ, hLs, hlt⟩ := C
  obtain ⟨A, ov, RK, GP, sm, F, T, M, ST, ln, mn, E, th, kp, ma, my, rk, F', T', M', WG, GO, Y, V, AT, NX, hR, hP, hD, hS, hl⟩ := h
  refine lv_iconst (v := 1) hx hb dL_law_609 (by decide +kernel) ?_
  refine va_forget (fun q hq => hS.2.2 q hq) ?_
  exact W.widen hc hs (lw_ret hx hb hr hlocks dL_law_610)
theorem law_step {p : Program} {l : Launch} {e : Env} {s : State} {m : MethodId} {below : List Frame} {meth : Method} {c : Code} {b L : Nat} {xs : Nat → Int32} {dC : Nat → ClassId} {dI : Nat → Nat → Nat} {ad am : Nat → Nat} {ao : Nat} {cI cJ cB : ClassId} {n t : Nat} {i : Nat} {ls : Array Slot} {H : Heap} {locs : List Loc} {cells slots : Nat} {Q : State → Prop} (C : lwC l p s m c b L xs dC dI cI cJ cB) (hn0 : 2 ≤ n ∧ n ≤ 4) (ht0 : 2 ≤ t ∧ t ≤ 4) (hi5 : i < 5000) (hi : i + 2 < L) (hcl : cells + 1 ≤ 601024) (hsl : slots + 6 ≤ 7293000) (h : lwS (dC, dI) s ad am ao cI cJ cB n t b i ls H locs) (kk : ∀ ls H locs, lwS (dC, dI) s ad am ao cI cJ cB n t b i ls H locs → W p l e room_1 s m #[Value.ref b] below meth c H locs (cells + 1) (slots + 6) Q (F0 m 603 ls [])) : W p l e room_1 s m #[Value.ref b] below meth c H locs cells slots Q (F0 m 52 ls []) := by
  have C0 := C
  have h0 := h
  obtain ⟨hx, hb, hml, hown, hts, hX, hbl, hL, hK, hN, hTw, hZ, hLs, hlt⟩ := C
  obtain ⟨A, ov, RK, GP, sm, F, T, M, ST, ln, mn, E, th, kp, ma, my, rk, F', T', M', WG, GO, Y, V, AT, NX, hR, hP, hD, hS, hl⟩ := h
  have hbA : ¬ (fun q : Nat => s.heap.size ≤ q) b := Nat.not_le.mpr hbl
  refine lv_aload_n hx hb dL_law_52 rfl (lv_at hl 0 rfl) ?_
  refine lv_iload hx hb dL_law_53 (lv_at hl 4 rfl) ?_
  refine va_sld hx hb hX hbl hbA hS (vp_in_nI (by omega) (by omega)) dL_law_55 ?_
  refine lv_bipush (v := nI 15) hx hb dL_law_56 (by decide +kernel) ?_
  refine lv_iand hx hb dL_law_58 ?_
  rcases sw10 (xs (nI i).toNatClampNeg &&& nI 15) with h9 | h9 | h9 | h9 | h9 | h9 | h9 | h9 | h9 | h9 | h9
  · refine wk_ti (v' := nI 0) h9 ?_
    refine lv_tableIn (tgt := 112) hx hb dL_law_59 (by decide) (by decide) (by rfl) (by decide) ?_
    exact law_put C0 hn0 ht0 hi hcl hsl h0 kk
  · refine wk_ti (v' := nI 1) h9 ?_
    refine lv_tableIn (tgt := 180) hx hb dL_law_59 (by decide) (by decide) (by rfl) (by decide) ?_
    exact law_off C0 hn0 ht0 hi hcl hsl h0 kk
  · refine wk_ti (v' := nI 2) h9 ?_
    refine lv_tableIn (tgt := 236) hx hb dL_law_59 (by decide) (by decide) (by rfl) (by decide) ?_
    exact law_solve C0 hn0 ht0 hi hcl hsl h0 kk
  · refine wk_ti (v' := nI 3) h9 ?_
    refine lv_tableIn (tgt := 304) hx hb dL_law_59 (by decide) (by decide) (by rfl) (by decide) ?_
    exact law_move C0 hn0 ht0 hi hcl hsl h0 kk
  · refine wk_ti (v' := nI 4) h9 ?_
    refine lv_tableIn (tgt := 372) hx hb dL_law_59 (by decide) (by decide) (by rfl) (by decide) ?_
    exact law_follow C0 hn0 ht0 hi hcl hsl h0 kk
  · refine wk_ti (v' := nI 5) h9 ?_
    refine lv_tableIn (tgt := 416) hx hb dL_law_59 (by decide) (by decide) (by rfl) (by decide) ?_
    exact law_blocked C0 hn0 ht0 hi hcl hsl h0 kk
  · refine wk_ti (v' := nI 6) h9 ?_
    refine lv_tableIn (tgt := 429) hx hb dL_law_59 (by decide) (by decide) (by rfl) (by decide) ?_
    exact law_rule C0 hn0 ht0 hi hcl hsl h0 kk
  · refine wk_ti (v' := nI 7) h9 ?_
    refine lv_tableIn (tgt := 442) hx hb dL_law_59 (by decide) (by decide) (by rfl) (by decide) ?_
    exact law_travel C0 hn0 ht0 hi hcl hsl h0 kk
  · refine wk_ti (v' := nI 8) h9 ?_
    refine lv_tableIn (tgt := 510) hx hb dL_law_59 (by decide) (by decide) (by rfl) (by decide) ?_
    exact law_at C0 hn0 ht0 hi hcl hsl h0 kk
  · refine wk_ti (v' := nI 9) h9 ?_
    refine lv_tableIn (tgt := 578) hx hb dL_law_59 (by decide) (by decide) (by rfl) (by decide) ?_
    exact law_count C0 hn0 ht0 hi hcl hsl h0 kk
  · refine lv_tableOut (tgt := 603) hx hb dL_law_59 h9 (by decide) ?_
    exact W.widen (k := cells + 1) (n := slots + 6) (Nat.le_succ _) (Nat.le_add_right _ 6) (kk _ _ _ h0)
theorem law_loop {p : Program} {l : Launch} {e : Env} {s : State} {m : MethodId} {below : List Frame} {meth : Method} {c : Code} {b L : Nat} {xs : Nat → Int32} {dC : Nat → ClassId} {dI : Nat → Nat → Nat} {ad am : Nat → Nat} {ao : Nat} {cI cJ cB : ClassId} {n t : Nat} (C : lwC l p s m c b L xs dC dI cI cJ cB) (hn0 : 2 ≤ n ∧ n ≤ 4) (ht0 : 2 ≤ t ∧ t ≤ 4) (hr : meth.sig.returnType = ret) (hlocks : meth.locks = false) : ∀ (f i : Nat) (ls : Array Slot) (H : Heap) (locs : List Loc) (cells slots : Nat), L ≤ i + 3 * f → i + 3 * f < 5000 → cells + f ≤ 601024 → slots + 6 * f ≤ 7293000 → lwS (dC, dI) s ad am ao cI cJ cB n t b i ls H locs → W p l e room_1 s m #[Value.ref b] below meth c H locs cells slots (lw_Z below #[Value.ref b] s) (F0 m 43 ls []) := by
  intro f
  induction f with
  | zero =>
    intro i ls H locs cells slots h1 h2 h3 h4 h
    exact law_head C (by omega) h (law_end C hr hlocks (by omega) (by omega) h) (fun hi => absurd hi (by omega))
  | succ f ih =>
    intro i ls H locs cells slots h1 h2 h3 h4 h
    refine law_head C (by omega) h (law_end C hr hlocks (by omega) (by omega) h) (fun hi => law_step C hn0 ht0 (by omega) hi (by omega) (by omega) h (fun ls H locs h => ?_))
    have C0 := C
    obtain ⟨hx, hb, hml, hown, hts, hX, hbl, hL, hK, hN, hTw, hZ, hLs, hlt⟩ := C
    obtain ⟨A, ov, RK, GP, sm, F, T, M, ST, ln, mn, E, th, kp, ma, my, rk, F', T', M', WG, GO, Y, V, AT, NX, hR, hP, hD, hS, hl⟩ := h
    refine lv_iinc (v := nI (i + 3)) (lv' := [(4, .int (nI (i + 3))), (0, .ref b), (1, .ref (ad 0)), (2, .ref (am 0)), (3, .ref ao)]) hx hb dL_law_603 hl (k := 4) rfl (wk_inc _ 3 rfl) (by decide) rfl (fun ls hl => ?_)
    refine lv_goto (tgt := 43) hx hb dL_law_606 (by decide) ?_
    exact ih (i + 3) ls H locs (cells + 1) (slots + 6) (by omega) (by omega) (by omega) (by omega) ⟨A, ov, RK, GP, sm, F, T, M, ST, ln, mn, E, th, kp, ma, my, rk, F', T', M', WG, GO, Y, V, AT, NX, hR, hP, hD, hS, lv_sub hl [1, 2, 3, 4, 0] rfl⟩
