/-- the law's long[1] -/
abbrev oW (ao : Nat) (cJ : ClassId) (ov : Nat → Int64) : Nat × va_E := (ao, .inl (cJ, 1, .inr (.inl ov)))
def lsW : List Cond := [.classLink RL 13 RJx00060, .classLink RL 15 "java/lang/IllegalArgumentException", .classLink RL 17 "java/lang/IllegalStateException", .classLink RL 23 "java/util/NoSuchElementException", .classLink RL 31 "java/lang/IndexOutOfBoundsException", .castable RJx00060 RJx00060, .castable "java/lang/IllegalArgumentException" "java/lang/IllegalArgumentException", .castable "java/lang/IllegalStateException" "java/lang/IllegalStateException", .castable "java/util/NoSuchElementException" "java/util/NoSuchElementException", .castable "java/lang/IndexOutOfBoundsException" "java/lang/IndexOutOfBoundsException"]
theorem lsW_ok : lsW.all (fun w => thk w && w.onTables) = true := by decide +kernel
def lst (U : State) : Prop := (∀ w ∈ lsW, va_Nw w U) ∧ va_Nc "java/lang/IllegalArgumentException" RJx00060 U ∧ va_Nc "java/lang/IllegalStateException" RJx00060 U ∧ va_Nc "java/lang/IllegalStateException" "java/lang/IllegalArgumentException" U ∧ va_Nc "java/util/NoSuchElementException" RJx00060 U
theorem lst_warm {s U : State} (hW : s.WarmedH U.vm) (h : lst s) : lst U :=
  ⟨fun w hw => by
    have := List.all_eq_true.mp lsW_ok w hw
    rw [Bool.and_eq_true] at this
    exact th_warm hW this.1 this.2 (h.1 w hw), h.2.1.moved hW.alike, h.2.2.1.moved hW.alike, h.2.2.2.1.moved hW.alike, h.2.2.2.2.moved hW.alike⟩
theorem lst_same {u U : State} (hv : u.vm = U.vm) (h : lst u) : lst U :=
  ⟨fun w hw => by
    have := List.all_eq_true.mp lsW_ok w hw
    rw [Bool.and_eq_true] at this
    exact va_Nw.same this.2 hv (h.1 w hw), h.2.1.moved (by rw [hv]; exact Vm.Alike.refl _), h.2.2.1.moved (by rw [hv]; exact Vm.Alike.refl _), h.2.2.2.1.moved (by rw [hv]; exact Vm.Alike.refl _), h.2.2.2.2.moved (by rw [hv]; exact Vm.Alike.refl _)⟩
abbrev lo_P (D : va_G) (tys : List (ClassId × FieldType)) (W0 : va_W) (sz : Nat) (U : State) : Prop := th_P D tys W0 sz U ∧ lst U
theorem lo_blind {D : va_G} {tys : List (ClassId × FieldType)} {W0 : va_W} {sz : Nat} {av : List Value} : FrameBlind (va_Pc av (lo_P D tys W0 sz)) := fun a U g mk q => ⟨q.1, (th_blind (av := av) a U g mk ⟨q.1, q.2.1⟩).2, lst_same (u := U) rfl q.2.2⟩
theorem up_0 (ov : Nat → Int64) (x : Int64) : vp_updL ov (nI 0).toNatClampNeg x 0 = x := by
  rw [nI_clamp (by decide)]
  unfold vp_updL
  exact if_pos rfl
def wsL_off9 : List Cond := .codeWith yL_off cL_off 4 (some .int) [(0, 9, 12, 13), (0, 9, 15, 23)] :: ([.classLink RL 13 "java/lang/ArrayIndexOutOfBoundsException", .classLink RL 23 "java/util/NoSuchElementException", .methodLink RL 19 yX6_off, .instanceMethod yX6_off, .selects RX6 yX6_off yX6_off, .initialized RX6, .code yX6_off cX6_off 4 (some .int), .classLink RX6 73 "java/util/NoSuchElementException", .initialized "java/util/NoSuchElementException", .classLink RX6 52 RJx00060, .instantiable RJx00060 6, .initialized RJx00060, .fieldLink RX6 24 "ReshuffleSearch" "height" "[I", .fieldLink RX6 17 "ReshuffleSearch" "tiers" "I", .fieldLink RX6 20 "ReshuffleSearch" "place" "[I", .methodLink RX6 48 yX6_isStack, .instanceMethod yX6_isStack, .selects RX6 yX6_isStack yX6_isStack, .code yX6_isStack cX6_isStack 2 (some .boolean), .fieldLink RX6 13 "ReshuffleSearch" "stacks" "I"] ++ wsJx000600 ++ wsX60)
set_option maxRecDepth 20000 in
theorem ggL_off9_X6_off : GoodIn wsL_off9 wsX6_off9 := goodIn_r _ [7, 8, 9, 10, 11, 12, 13, 14, 15, 16, 17, 18, 6, 19, 20, 21, 22, 23, 24, 25, 26, 27, 28, 29, 30, 31, 32, 33] (by decide +kernel) (by decide +kernel)
set_option maxRecDepth 20000 in
theorem gL_off9_X6_off : GoodIn wsL_off9 (wsV RL 19 RX6 yX6_off wsX6_off9) := goodIn_app (goodIn_of _ (by decide +kernel)) ggL_off9_X6_off
set_option maxHeartbeats 4000000 in
set_option maxRecDepth 100000 in
theorem c_L_put (l : Launch) (hlt : l.stackTraces = false) (dC : Nat → ClassId) (dI : Nat → Nat → Nat) (ad : Nat → Nat) (cI cJ : ClassId) (n t : Nat) (P HT RK GP : Nat → Nat) (sm : Int32) (F T M ST : Nat → Nat) (ln mn : Int32) (E : Nat → Nat) (ao : Nat) (ov : Nat → Int64) (hn0 : 2 ≤ n ∧ n ≤ 4) (ht0 : 2 ≤ t ∧ t ≤ 4) (hB0 : ∀ j, HT j ≤ 4) (i g : Int32) (sz : Nat) : Met l yL_put wsL_put ({ frames := 9, cells := 1, slots := 6, locals := 222 }) (va_Pc [.ref (ad 0), .int i, .int g, .ref ao] (lo_P (dC, dI) [(cI, .int), (cJ, .long)] (oW ao cJ ov :: (cW ad cI cJ n t P HT RK GP sm F T M ST ln mn E)) sz)) (wr_Q (dC, dI) (va_A (oW ao cJ ov :: (cW ad cI cJ n t P HT RK GP sm F T M ST ln mn E)) sz) (fun r W1 => (∃ (rv : Int32) (Wc : va_W) (gv : Nat → Int64), (fun (r : Option Value) (W1 : va_W) => qput n t HT i g = 0 ∧ r = some (.int (nI (HT i.toNatClampNeg + 1))) ∧ W1 = (cW ad cI cJ n t (upN P (i.toNatClampNeg * t + HT i.toNatClampNeg) g.toNatClampNeg) (upN HT i.toNatClampNeg (HT i.toNatClampNeg + 1)) RK GP sm F T M ST ln mn E)) (some (.int rv)) Wc ∧ gv 0 = rv.toInt64 ∧ r = some (.int (nI 0)) ∧ W1 = oW ao cJ gv :: Wc) ∨ (qput n t HT i g ≠ 0 ∧ r = some (.int (nI (qput n t HT i g))) ∧ W1 = (oW ao cJ ov :: (cW ad cI cJ n t P HT RK GP sm F T M ST ln mn E))))) 1 6 (va_A (oW ao cJ ov :: (cW ad cI cJ n t P HT RK GP sm F T M ST ln mn E)) sz) := by
  refine wh_of (cc := cL_put) (maxL := 5) (ret := (some .int)) (hh := [(0, 10, 13, 13), (0, 10, 17, 15), (0, 10, 21, 17)]) (by decide) rfl ?_
  intro p e s m args below meth c s₁ B hml hv
  obtain ⟨rfl, ⟨⟨⟨hsz, hP, hK, hD0⟩, hN⟩, hTw, hZ⟩, hL⟩ := hv
  have hx := B.exec
  have hb := B.bytes
  have hr := B.returns
  have hts := atoms_spec (ws := wsL_put) B.pre
  have hown : s.vm.findClass RL = some m.cls := findClass_of_methodNamed B.named
  have hlocks := B.notSynchronized
  have htb := vx_table (x := yL_put) B (hts (.codeWith yL_put cL_put 5 (some .int) [(0, 10, 13, 13), (0, 10, 17, 15), (0, 10, 21, 17)]) (by decide +kernel))
  subst hsz
  have hD := hD0.self (sz := s.heap.size)
  generalize hAe : va_A (oW ao cJ ov :: (cW ad cI cJ n t P HT RK GP sm F T M ST ln mn E)) s.heap.size = A at hD hZ ⊢
  have hA : ∀ q : Nat, s.heap.size ≤ q → A q := fun q h => by rw [← hAe]; exact Or.inr h
  have hS : va_S A s.heap s.heap [] := va_S.rf
  have hl := lv_entry ([.ref (ad 0), .int i, .int g, .ref ao]) (n := 5) (Nat.le_of_ble_eq_true rfl)
  rw [lg_entry_eq]
  generalize (lg_sl ([.ref (ad 0), .int i, .int g, .ref ao]) ++ List.replicate (5 - (lg_sl ([.ref (ad 0), .int i, .int g, .ref ao])).length) Slot.unset).toArray = ls at hl ⊢
  have hl : lv_has ls 5 [(0, .ref (ad 0)), (1, .int i), (2, .int g), (3, .ref ao)] := hl
  refine lv_aload_n hx hb dL_put_0 rfl (lv_at hl 3 rfl) ?_
  refine lv_iconst (v := nI 0) hx hb dL_put_1 (by decide +kernel) ?_
  refine lv_aload_n hx hb dL_put_2 rfl (lv_at hl 0 rfl) ?_
  refine lv_iload_n hx hb dL_put_3 rfl (lv_at hl 1 rfl) ?_
  refine lv_iload_n hx hb dL_put_4 rfl (lv_at hl 2 rfl) ?_
  have hPc := hP.sub (ws' := (cW ad cI cJ n t P HT RK GP sm F T M ST ln mn E)) [1, 2, 3, 4, 5, 6, 7, 8, 9, 10, 11, 12, 13, 14] rfl
  have hDc := hD.sub (ws' := (cW ad cI cJ n t P HT RK GP sm F T M ST ln mn E)) [1, 2, 3, 4, 5, 6, 7, 8, 9, 10, 11, 12, 13, 14] (by decide) rfl
  have hFc := va_free (wc := (cW ad cI cJ n t P HT RK GP sm F T M ST ln mn E)) hD hS hA [1, 2, 3, 4, 5, 6, 7, 8, 9, 10, 11, 12, 13, 14] rfl
  refine wx_go (vx_runV (As := [.int i, .int g]) (rest := [.int (nI 0), .ref ao]) ⟨hx, hb, hml, hown, hts⟩ (c_X6_put l hlt dC dI ad cI cJ n t P HT RK GP sm F T M ST ln mn E hn0 ht0 hB0 i g s.heap.size) (cwV 2 hts gL_put_X6_put rfl rfl rfl (by decide +kernel) ⟨Nat.le_of_ble_eq_true rfl, Nat.le_of_ble_eq_true rfl⟩) ⟨th_blind, va_recv hK hPc (ci := 5) (q0 := 0) rfl rfl, fun U hU hW => ⟨rfl, ⟨⟨by rw [hU], by rw [hU]; exact hPc, va_K.moved hW.alike hK, hDc.weaken (fun _ _ _ _ => trivial)⟩, nst_warm hW hN⟩, tws_warm hW hTw, by rw [hU]; exact tzq_moved hW.alike (tzq_narrow hZ hFc)⟩⟩ rfl rfl hl.1 rfl (lv_room (Nat.le_of_ble_eq_true rfl)) dL_put_5 ⟨Nat.le_of_ble_eq_true rfl, Nat.le_of_ble_eq_true rfl⟩) hS hFc hFc (fun E9 ce q9 H1 locs hp hP1 hz9 hk9 hS hce hcv hcl => ?_) (fun r9 W9 H1 locs hpost hP1 hD1 hz9 hk9 hS => ?_)
  · obtain ⟨hP, hD⟩ := va_join (wr := [oW ao cJ ov]) (w1 := (cW ad cI cJ n t P HT RK GP sm F T M ST ln mn E)) hP hD [1, 2, 3, 4, 5, 6, 7, 8, 9, 10, 11, 12, 13, 14] [0] rfl rfl (by decide) (by decide) hk9 hFc hP1 hDc.self
    rcases hp with ⟨hq, rfl⟩ | ⟨hq, rfl⟩ | ⟨hq, rfl⟩
    · refine vx_catch (name := RJx00060) hown [] ⟨0, 10, 13, 13⟩ [⟨0, 10, 17, 15⟩, ⟨0, 10, 21, 17⟩] (by rw [htb]; rfl) (fun z hz => nomatch hz) (by decide) (by decide) (va_Nw.use rfl (hL.1 (.classLink RL 13 RJx00060) (by decide +kernel))) (va_Nw.use rfl (hL.1 (.castable RJx00060 RJx00060) (by decide +kernel))) hce hcv hcl ?_
      refine W.eq (g2 := F0 m 13 ls [.ref q9]) rfl ?_
      refine lv_astore (lv' := [(4, .ref q9), (0, .ref (ad 0)), (1, .int i), (2, .int g), (3, .ref ao)]) hx hb dL_put_13 hl (by decide) rfl (fun ls hl => ?_)
      refine lv_iconst (v := nI 1) hx hb dL_put_15 (by decide +kernel) ?_
      exact W.iret hx hb hr (fun t9 ht hW => ⟨some (.int (nI 1)), (oW ao cJ ov :: (cW ad cI cJ n t P HT RK GP sm F T M ST ln mn E)), rfl, Or.inr ⟨by rw [hq]; decide, by rw [hq], rfl⟩, by rw [ht]; exact hP, hD, hS.F ht⟩) hS.2.2 dL_put_16
    · refine vx_catch (name := "java/lang/IllegalArgumentException") hown [⟨0, 10, 13, 13⟩] ⟨0, 10, 17, 15⟩ [⟨0, 10, 21, 17⟩] (by rw [htb]; rfl) (fun z hz => by rw [List.mem_singleton.mp hz]; exact Or.inr ⟨by decide, _, va_Nw.use rfl (hL.1 (.classLink RL 13 RJx00060) (by decide +kernel)), hL.2.1⟩) (by decide) (by decide) (va_Nw.use rfl (hL.1 (.classLink RL 15 "java/lang/IllegalArgumentException") (by decide +kernel))) (va_Nw.use rfl (hL.1 (.castable "java/lang/IllegalArgumentException" "java/lang/IllegalArgumentException") (by decide +kernel))) hce hcv hcl ?_
      refine W.eq (g2 := F0 m 17 ls [.ref q9]) rfl ?_
      refine lv_astore (lv' := [(4, .ref q9), (0, .ref (ad 0)), (1, .int i), (2, .int g), (3, .ref ao)]) hx hb dL_put_17 hl (by decide) rfl (fun ls hl => ?_)
      refine lv_iconst (v := nI 2) hx hb dL_put_19 (by decide +kernel) ?_
      exact W.iret hx hb hr (fun t9 ht hW => ⟨some (.int (nI 2)), (oW ao cJ ov :: (cW ad cI cJ n t P HT RK GP sm F T M ST ln mn E)), rfl, Or.inr ⟨by rw [hq]; decide, by rw [hq], rfl⟩, by rw [ht]; exact hP, hD, hS.F ht⟩) hS.2.2 dL_put_20
    · refine vx_catch (name := "java/lang/IllegalStateException") hown [⟨0, 10, 13, 13⟩, ⟨0, 10, 17, 15⟩] ⟨0, 10, 21, 17⟩ [] (by rw [htb]; rfl) (fun z hz => by rcases List.mem_cons.mp hz with h | h; rw [h]; exact Or.inr ⟨by decide, _, va_Nw.use rfl (hL.1 (.classLink RL 13 RJx00060) (by decide +kernel)), hL.2.2.1⟩; rw [List.mem_singleton.mp h]; exact Or.inr ⟨by decide, _, va_Nw.use rfl (hL.1 (.classLink RL 15 "java/lang/IllegalArgumentException") (by decide +kernel)), hL.2.2.2.1⟩) (by decide) (by decide) (va_Nw.use rfl (hL.1 (.classLink RL 17 "java/lang/IllegalStateException") (by decide +kernel))) (va_Nw.use rfl (hL.1 (.castable "java/lang/IllegalStateException" "java/lang/IllegalStateException") (by decide +kernel))) hce hcv hcl ?_
      refine W.eq (g2 := F0 m 21 ls [.ref q9]) rfl ?_
      refine lv_astore (lv' := [(4, .ref q9), (0, .ref (ad 0)), (1, .int i), (2, .int g), (3, .ref ao)]) hx hb dL_put_21 hl (by decide) rfl (fun ls hl => ?_)
      refine lv_iconst (v := nI 3) hx hb dL_put_23 (by decide +kernel) ?_
      exact W.iret hx hb hr (fun t9 ht hW => ⟨some (.int (nI 3)), (oW ao cJ ov :: (cW ad cI cJ n t P HT RK GP sm F T M ST ln mn E)), rfl, Or.inr ⟨by rw [hq]; decide, by rw [hq], rfl⟩, by rw [ht]; exact hP, hD, hS.F ht⟩) hS.2.2 dL_put_24
  · obtain ⟨hP, hD⟩ := va_join (wr := [oW ao cJ ov]) (w1 := W9) hP hD [1, 2, 3, 4, 5, 6, 7, 8, 9, 10, 11, 12, 13, 14] [0] rfl rfl (by decide) (by decide) hk9 hFc hP1 hD1
    obtain ⟨rv, rfl⟩ : ∃ rv : Int32, r9 = some (.int rv) := ⟨_, hpost.2.1⟩
    refine W.eq (g2 := F0 m 8 ls [.int rv, .int (nI 0), .ref ao]) rfl ?_
    refine lv_i2l (v := rv.toInt64) hx hb dL_put_8 rfl ?_
    refine va_last hx hb hK hP hD hS 0 1 rfl rfl (vp_in_nI (by decide) (by decide)) dL_put_9 (fun H locs hP hD hS => ?_)
    refine lv_goto (tgt := 25) hx hb dL_put_10 (by decide) ?_
    refine lv_iconst (v := nI 0) hx hb dL_put_25 (by decide +kernel) ?_
    exact W.iret hx hb hr (fun t9 ht hW => ⟨some (.int (nI 0)), oW ao cJ (vp_updL ov (nI 0).toNatClampNeg rv.toInt64) :: W9, rfl, Or.inl ⟨rv, W9, (vp_updL ov (nI 0).toNatClampNeg rv.toInt64), hpost, up_0 ov _, rfl, rfl⟩, by rw [ht]; exact hP, hD, hS.F ht⟩) hS.2.2 dL_put_26
set_option maxHeartbeats 4000000 in
set_option maxRecDepth 100000 in
theorem c_L_off (l : Launch) (hlt : l.stackTraces = false) (dC : Nat → ClassId) (dI : Nat → Nat → Nat) (ad : Nat → Nat) (cI cJ : ClassId) (n t : Nat) (P HT RK GP : Nat → Nat) (sm : Int32) (F T M ST : Nat → Nat) (ln mn : Int32) (E : Nat → Nat) (ao : Nat) (ov : Nat → Int64) (hn0 : 2 ≤ n ∧ n ≤ 4) (ht0 : 2 ≤ t ∧ t ≤ 4) (hB0 : ∀ j, HT j ≤ 4) (i : Int32) (hHt : ∀ j, HT j ≤ t) (sz : Nat) : Met l yL_off wsL_off9 ({ frames := 9, cells := 1, slots := 6, locals := 223 }) (va_Pc [.ref (ad 0), .int i, .ref ao] (lo_P (dC, dI) [(cI, .int), (cJ, .long)] (oW ao cJ ov :: (cW ad cI cJ n t P HT RK GP sm F T M ST ln mn E)) sz)) (wr_Q (dC, dI) (va_A (oW ao cJ ov :: (cW ad cI cJ n t P HT RK GP sm F T M ST ln mn E)) sz) (fun r W1 => (∃ (rv : Int32) (Wc : va_W) (gv : Nat → Int64), (fun (r : Option Value) (W1 : va_W) => qoff n HT i = 0 ∧ r = some (.int (nI (P (i.toNatClampNeg * t + (HT i.toNatClampNeg - 1))))) ∧ W1 = (cW ad cI cJ n t (upN P (i.toNatClampNeg * t + (HT i.toNatClampNeg - 1)) 0) (upN HT i.toNatClampNeg (HT i.toNatClampNeg - 1)) RK GP sm F T M ST ln mn E)) (some (.int rv)) Wc ∧ gv 0 = rv.toInt64 ∧ r = some (.int (nI 0)) ∧ W1 = oW ao cJ gv :: Wc) ∨ (qoff n HT i ≠ 0 ∧ r = some (.int (nI (qoff n HT i))) ∧ W1 = (oW ao cJ ov :: (cW ad cI cJ n t P HT RK GP sm F T M ST ln mn E))))) 1 6 (va_A (oW ao cJ ov :: (cW ad cI cJ n t P HT RK GP sm F T M ST ln mn E)) sz) := by
  refine wh_of (cc := cL_off) (maxL := 4) (ret := (some .int)) (hh := [(0, 9, 12, 13), (0, 9, 15, 23)]) (by decide) rfl ?_
  intro p e s m args below meth c s₁ B hml hv
  obtain ⟨rfl, ⟨⟨⟨hsz, hP, hK, hD0⟩, hN⟩, hTw, hZ⟩, hL⟩ := hv
  have hx := B.exec
  have hb := B.bytes
  have hr := B.returns
  have hts := atoms_spec (ws := wsL_off9) B.pre
  have hown : s.vm.findClass RL = some m.cls := findClass_of_methodNamed B.named
  have hlocks := B.notSynchronized
  have htb := vx_table (x := yL_off) B (hts (.codeWith yL_off cL_off 4 (some .int) [(0, 9, 12, 13), (0, 9, 15, 23)]) (by decide +kernel))
  subst hsz
  have hD := hD0.self (sz := s.heap.size)
  generalize hAe : va_A (oW ao cJ ov :: (cW ad cI cJ n t P HT RK GP sm F T M ST ln mn E)) s.heap.size = A at hD hZ ⊢
  have hA : ∀ q : Nat, s.heap.size ≤ q → A q := fun q h => by rw [← hAe]; exact Or.inr h
  have hS : va_S A s.heap s.heap [] := va_S.rf
  have hl := lv_entry ([.ref (ad 0), .int i, .ref ao]) (n := 4) (Nat.le_of_ble_eq_true rfl)
  rw [lg_entry_eq]
  generalize (lg_sl ([.ref (ad 0), .int i, .ref ao]) ++ List.replicate (4 - (lg_sl ([.ref (ad 0), .int i, .ref ao])).length) Slot.unset).toArray = ls at hl ⊢
  have hl : lv_has ls 4 [(0, .ref (ad 0)), (1, .int i), (2, .ref ao)] := hl
  refine lv_aload_n hx hb dL_off_0 rfl (lv_at hl 2 rfl) ?_
  refine lv_iconst (v := nI 0) hx hb dL_off_1 (by decide +kernel) ?_
  refine lv_aload_n hx hb dL_off_2 rfl (lv_at hl 0 rfl) ?_
  refine lv_iload_n hx hb dL_off_3 rfl (lv_at hl 1 rfl) ?_
  have hPc := hP.sub (ws' := (cW ad cI cJ n t P HT RK GP sm F T M ST ln mn E)) [1, 2, 3, 4, 5, 6, 7, 8, 9, 10, 11, 12, 13, 14] rfl
  have hDc := hD.sub (ws' := (cW ad cI cJ n t P HT RK GP sm F T M ST ln mn E)) [1, 2, 3, 4, 5, 6, 7, 8, 9, 10, 11, 12, 13, 14] (by decide) rfl
  have hFc := va_free (wc := (cW ad cI cJ n t P HT RK GP sm F T M ST ln mn E)) hD hS hA [1, 2, 3, 4, 5, 6, 7, 8, 9, 10, 11, 12, 13, 14] rfl
  refine wx_go (vx_runV (As := [.int i]) (rest := [.int (nI 0), .ref ao]) ⟨hx, hb, hml, hown, hts⟩ (c_X6_off l hlt dC dI ad cI cJ n t P HT RK GP sm F T M ST ln mn E hn0 ht0 hB0 i hHt s.heap.size) (cwV 1 hts gL_off9_X6_off rfl rfl rfl (by decide +kernel) ⟨Nat.le_of_ble_eq_true rfl, Nat.le_of_ble_eq_true rfl⟩) ⟨th_blind, va_recv hK hPc (ci := 5) (q0 := 0) rfl rfl, fun U hU hW => ⟨rfl, ⟨⟨by rw [hU], by rw [hU]; exact hPc, va_K.moved hW.alike hK, hDc.weaken (fun _ _ _ _ => trivial)⟩, nst_warm hW hN⟩, tws_warm hW hTw, by rw [hU]; exact tzq_moved hW.alike (tzq_narrow hZ hFc)⟩⟩ rfl rfl hl.1 rfl (lv_room (Nat.le_of_ble_eq_true rfl)) dL_off_4 ⟨Nat.le_of_ble_eq_true rfl, Nat.le_of_ble_eq_true rfl⟩) hS hFc hFc (fun E9 ce q9 H1 locs hp hP1 hz9 hk9 hS hce hcv hcl => ?_) (fun r9 W9 H1 locs hpost hP1 hD1 hz9 hk9 hS => ?_)
  · obtain ⟨hP, hD⟩ := va_join (wr := [oW ao cJ ov]) (w1 := (cW ad cI cJ n t P HT RK GP sm F T M ST ln mn E)) hP hD [1, 2, 3, 4, 5, 6, 7, 8, 9, 10, 11, 12, 13, 14] [0] rfl rfl (by decide) (by decide) hk9 hFc hP1 hDc.self
    rcases hp with ⟨hq, rfl⟩ | ⟨hq, rfl⟩
    · refine vx_catch (name := RJx00060) hown [] ⟨0, 9, 12, 13⟩ [⟨0, 9, 15, 23⟩] (by rw [htb]; rfl) (fun z hz => nomatch hz) (by decide) (by decide) (va_Nw.use rfl (hL.1 (.classLink RL 13 RJx00060) (by decide +kernel))) (va_Nw.use rfl (hL.1 (.castable RJx00060 RJx00060) (by decide +kernel))) hce hcv hcl ?_
      refine W.eq (g2 := F0 m 12 ls [.ref q9]) rfl ?_
      refine lv_astore_n (lv' := [(3, .ref q9), (0, .ref (ad 0)), (1, .int i), (2, .ref ao)]) hx hb dL_off_12 rfl hl (by decide) rfl (fun ls hl => ?_)
      refine lv_iconst (v := nI 1) hx hb dL_off_13 (by decide +kernel) ?_
      exact W.iret hx hb hr (fun t9 ht hW => ⟨some (.int (nI 1)), (oW ao cJ ov :: (cW ad cI cJ n t P HT RK GP sm F T M ST ln mn E)), rfl, Or.inr ⟨by rw [hq]; decide, by rw [hq], rfl⟩, by rw [ht]; exact hP, hD, hS.F ht⟩) hS.2.2 dL_off_14
    · refine vx_catch (name := "java/util/NoSuchElementException") hown [⟨0, 9, 12, 13⟩] ⟨0, 9, 15, 23⟩ [] (by rw [htb]; rfl) (fun z hz => by rw [List.mem_singleton.mp hz]; exact Or.inr ⟨by decide, _, va_Nw.use rfl (hL.1 (.classLink RL 13 RJx00060) (by decide +kernel)), hL.2.2.2.2⟩) (by decide) (by decide) (va_Nw.use rfl (hL.1 (.classLink RL 23 "java/util/NoSuchElementException") (by decide +kernel))) (va_Nw.use rfl (hL.1 (.castable "java/util/NoSuchElementException" "java/util/NoSuchElementException") (by decide +kernel))) hce hcv hcl ?_
      refine W.eq (g2 := F0 m 15 ls [.ref q9]) rfl ?_
      refine lv_astore_n (lv' := [(3, .ref q9), (0, .ref (ad 0)), (1, .int i), (2, .ref ao)]) hx hb dL_off_15 rfl hl (by decide) rfl (fun ls hl => ?_)
      refine lv_iconst (v := nI 2) hx hb dL_off_16 (by decide +kernel) ?_
      exact W.iret hx hb hr (fun t9 ht hW => ⟨some (.int (nI 2)), (oW ao cJ ov :: (cW ad cI cJ n t P HT RK GP sm F T M ST ln mn E)), rfl, Or.inr ⟨by rw [hq]; decide, by rw [hq], rfl⟩, by rw [ht]; exact hP, hD, hS.F ht⟩) hS.2.2 dL_off_17
  · obtain ⟨hP, hD⟩ := va_join (wr := [oW ao cJ ov]) (w1 := W9) hP hD [1, 2, 3, 4, 5, 6, 7, 8, 9, 10, 11, 12, 13, 14] [0] rfl rfl (by decide) (by decide) hk9 hFc hP1 hD1
    obtain ⟨rv, rfl⟩ : ∃ rv : Int32, r9 = some (.int rv) := ⟨_, hpost.2.1⟩
    refine W.eq (g2 := F0 m 7 ls [.int rv, .int (nI 0), .ref ao]) rfl ?_
    refine lv_i2l (v := rv.toInt64) hx hb dL_off_7 rfl ?_
    refine va_last hx hb hK hP hD hS 0 1 rfl rfl (vp_in_nI (by decide) (by decide)) dL_off_8 (fun H locs hP hD hS => ?_)
    refine lv_goto (tgt := 18) hx hb dL_off_9 (by decide) ?_
    refine lv_iconst (v := nI 0) hx hb dL_off_18 (by decide +kernel) ?_
    exact W.iret hx hb hr (fun t9 ht hW => ⟨some (.int (nI 0)), oW ao cJ (vp_updL ov (nI 0).toNatClampNeg rv.toInt64) :: W9, rfl, Or.inl ⟨rv, W9, (vp_updL ov (nI 0).toNatClampNeg rv.toInt64), hpost, up_0 ov _, rfl, rfl⟩, by rw [ht]; exact hP, hD, hS.F ht⟩) hS.2.2 dL_off_19
set_option maxHeartbeats 4000000 in
set_option maxRecDepth 100000 in
theorem c_L_solve (l : Launch) (hlt : l.stackTraces = false) (dC : Nat → ClassId) (dI : Nat → Nat → Nat) (ad : Nat → Nat) (cI cJ : ClassId) (n t : Nat) (P HT RK GP : Nat → Nat) (sm : Int32) (F T M ST : Nat → Nat) (ln mn : Int32) (E : Nat → Nat) (ao : Nat) (ov : Nat → Int64) (hn0 : 2 ≤ n ∧ n ≤ 4) (ht0 : 2 ≤ t ∧ t ≤ 4) (hP0 : ∀ j, P j < 2147483648) (hH0 : ∀ j, HT j < 1000000) (hR0 : ∀ j, RK j < 8) (hE0 : ∀ j, E j < 2 ^ 54) (Y : Nat → List Nat) (hY : okY n t Y) (hbx : bxY Y ≤ 6) (hpk : pks P (lrn P RK GP).2.1 HT t n = cE Y) (i j : Int32) (sz : Nat) : Met l yL_solve wsL_solve ({ frames := 77, cells := 1, slots := 6, locals := 3049 }) (va_Pc [.ref (ad 0), .int i, .int j, .ref ao] (lo_P (dC, dI) [(cI, .int), (cJ, .long)] (oW ao cJ ov :: (cW ad cI cJ n t P HT RK GP sm F T M ST ln mn E)) sz)) (wr_Q (dC, dI) (va_A (oW ao cJ ov :: (cW ad cI cJ n t P HT RK GP sm F T M ST ln mn E)) sz) (fun r W1 => (∃ (rv : Int32) (Wc : va_W) (gv : Nat → Int64), (fun (r : Option Value) (W1 : va_W) => qsv i j = 0 ∧ ∃ m0 mo E1 F1 T1 M1, m0 < 3 ∧ mo ≤ 30 ∧ i = nI m0 ∧ j = nI mo ∧ hI m0 n t E1 ∧ ((r = some (.int (-2)) ∧ (∀ k, k ≤ 30 → way m0 n t k (stl m0 Y) = none) ∧ W1 = (cW ad cI cJ n t P HT ((lrn P RK GP).2.1) ((lrn P RK GP).2.2) (nI m0) F1 T1 M1 ST (-1) (-1) E1)) ∨ ∃ k w, least m0 n t (stl m0 Y) k ∧ way m0 n t k (stl m0 Y) = some w ∧ wst m0 n t F1 T1 M1 0 w (stl m0 Y) ∧ ((mo < k ∧ r = some (.int (-1)) ∧ W1 = (cW ad cI cJ n t P HT ((lrn P RK GP).2.1) ((lrn P RK GP).2.2) (nI m0) F1 T1 M1 ST (-1) (-1) E1)) ∨ (k ≤ mo ∧ r = some (.int (nI k)) ∧ W1 = (cW ad cI cJ n t P HT ((lrn P RK GP).2.1) ((lrn P RK GP).2.2) (nI m0) F1 T1 (kpm (lrn P RK GP).2.2 M1 k) (cpy ST P 16) (nI k) (nI m0) E1))))) (some (.int rv)) Wc ∧ gv 0 = rv.toInt64 ∧ r = some (.int (nI 0)) ∧ W1 = oW ao cJ gv :: Wc) ∨ (qsv i j ≠ 0 ∧ r = some (.int (nI (qsv i j))) ∧ W1 = (oW ao cJ ov :: (cW ad cI cJ n t P HT RK GP sm F T M ST ln mn E))))) 1 6 (va_A (oW ao cJ ov :: (cW ad cI cJ n t P HT RK GP sm F T M ST ln mn E)) sz) := by
  refine wh_of (cc := cL_solve) (maxL := 5) (ret := (some .int)) (hh := [(0, 10, 13, 15)]) (by decide) rfl ?_
  intro p e s m args below meth c s₁ B hml hv
  obtain ⟨rfl, ⟨⟨⟨hsz, hP, hK, hD0⟩, hN⟩, hTw, hZ⟩, hL⟩ := hv
  have hx := B.exec
  have hb := B.bytes
  have hr := B.returns
  have hts := atoms_spec (ws := wsL_solve) B.pre
  have hown : s.vm.findClass RL = some m.cls := findClass_of_methodNamed B.named
  have hlocks := B.notSynchronized
  have htb := vx_table (x := yL_solve) B (hts (.codeWith yL_solve cL_solve 5 (some .int) [(0, 10, 13, 15)]) (by decide +kernel))
  subst hsz
  have hD := hD0.self (sz := s.heap.size)
  generalize hAe : va_A (oW ao cJ ov :: (cW ad cI cJ n t P HT RK GP sm F T M ST ln mn E)) s.heap.size = A at hD hZ ⊢
  have hA : ∀ q : Nat, s.heap.size ≤ q → A q := fun q h => by rw [← hAe]; exact Or.inr h
  have hS : va_S A s.heap s.heap [] := va_S.rf
  have hl := lv_entry ([.ref (ad 0), .int i, .int j, .ref ao]) (n := 5) (Nat.le_of_ble_eq_true rfl)
  rw [lg_entry_eq]
  generalize (lg_sl ([.ref (ad 0), .int i, .int j, .ref ao]) ++ List.replicate (5 - (lg_sl ([.ref (ad 0), .int i, .int j, .ref ao])).length) Slot.unset).toArray = ls at hl ⊢
  have hl : lv_has ls 5 [(0, .ref (ad 0)), (1, .int i), (2, .int j), (3, .ref ao)] := hl
  refine lv_aload_n hx hb dL_solve_0 rfl (lv_at hl 3 rfl) ?_
  refine lv_iconst (v := nI 0) hx hb dL_solve_1 (by decide +kernel) ?_
  refine lv_aload_n hx hb dL_solve_2 rfl (lv_at hl 0 rfl) ?_
  refine lv_iload_n hx hb dL_solve_3 rfl (lv_at hl 1 rfl) ?_
  refine lv_iload_n hx hb dL_solve_4 rfl (lv_at hl 2 rfl) ?_
  have hPc := hP.sub (ws' := (cW ad cI cJ n t P HT RK GP sm F T M ST ln mn E)) [1, 2, 3, 4, 5, 6, 7, 8, 9, 10, 11, 12, 13, 14] rfl
  have hDc := hD.sub (ws' := (cW ad cI cJ n t P HT RK GP sm F T M ST ln mn E)) [1, 2, 3, 4, 5, 6, 7, 8, 9, 10, 11, 12, 13, 14] (by decide) rfl
  have hFc := va_free (wc := (cW ad cI cJ n t P HT RK GP sm F T M ST ln mn E)) hD hS hA [1, 2, 3, 4, 5, 6, 7, 8, 9, 10, 11, 12, 13, 14] rfl
  refine wx_go (vx_runV (As := [.int i, .int j]) (rest := [.int (nI 0), .ref ao]) ⟨hx, hb, hml, hown, hts⟩ (c_X6_solve l hlt dC dI ad cI cJ n t P HT RK GP sm F T M ST ln mn E hn0 ht0 hP0 hH0 hR0 hE0 Y hY hbx hpk i j s.heap.size) (cwV 2 hts gL_solve_X6_solve rfl rfl rfl (by decide +kernel) ⟨Nat.le_of_ble_eq_true rfl, Nat.le_of_ble_eq_true rfl⟩) ⟨th_blind, va_recv hK hPc (ci := 5) (q0 := 0) rfl rfl, fun U hU hW => ⟨rfl, ⟨⟨by rw [hU], by rw [hU]; exact hPc, va_K.moved hW.alike hK, hDc.weaken (fun _ _ _ _ => trivial)⟩, nst_warm hW hN⟩, tws_warm hW hTw, by rw [hU]; exact tzq_moved hW.alike (tzq_narrow hZ hFc)⟩⟩ rfl rfl hl.1 rfl (lv_room (Nat.le_of_ble_eq_true rfl)) dL_solve_5 ⟨Nat.le_of_ble_eq_true rfl, Nat.le_of_ble_eq_true rfl⟩) hS hFc hFc (fun E9 ce q9 H1 locs hp hP1 hz9 hk9 hS hce hcv hcl => ?_) (fun r9 W9 H1 locs hpost hP1 hD1 hz9 hk9 hS => ?_)
  · obtain ⟨hP, hD⟩ := va_join (wr := [oW ao cJ ov]) (w1 := (cW ad cI cJ n t P HT RK GP sm F T M ST ln mn E)) hP hD [1, 2, 3, 4, 5, 6, 7, 8, 9, 10, 11, 12, 13, 14] [0] rfl rfl (by decide) (by decide) hk9 hFc hP1 hDc.self
    obtain ⟨hq, rfl⟩ := hp
    refine vx_catch (name := "java/lang/IllegalArgumentException") hown [] ⟨0, 10, 13, 15⟩ [] (by rw [htb]; rfl) (fun z hz => nomatch hz) (by decide) (by decide) (va_Nw.use rfl (hL.1 (.classLink RL 15 "java/lang/IllegalArgumentException") (by decide +kernel))) (va_Nw.use rfl (hL.1 (.castable "java/lang/IllegalArgumentException" "java/lang/IllegalArgumentException") (by decide +kernel))) hce hcv hcl ?_
    refine W.eq (g2 := F0 m 13 ls [.ref q9]) rfl ?_
    refine lv_astore (lv' := [(4, .ref q9), (0, .ref (ad 0)), (1, .int i), (2, .int j), (3, .ref ao)]) hx hb dL_solve_13 hl (by decide) rfl (fun ls hl => ?_)
    refine lv_iconst (v := nI 1) hx hb dL_solve_15 (by decide +kernel) ?_
    exact W.iret hx hb hr (fun t9 ht hW => ⟨some (.int (nI 1)), (oW ao cJ ov :: (cW ad cI cJ n t P HT RK GP sm F T M ST ln mn E)), rfl, Or.inr ⟨by rw [hq]; decide, by rw [hq], rfl⟩, by rw [ht]; exact hP, hD, hS.F ht⟩) hS.2.2 dL_solve_16
  · obtain ⟨hP, hD⟩ := va_join (wr := [oW ao cJ ov]) (w1 := W9) hP hD [1, 2, 3, 4, 5, 6, 7, 8, 9, 10, 11, 12, 13, 14] [0] rfl rfl (by decide) (by decide) hk9 hFc hP1 hD1
    obtain ⟨rv, rfl⟩ : ∃ rv : Int32, r9 = some (.int rv) := by obtain ⟨-, m0, mo, E1, F1, T1, M1, -, -, -, -, -, ⟨h, -⟩ | ⟨k, w, -, -, -, ⟨-, h, -⟩ | ⟨-, h, -⟩⟩⟩ := hpost <;> exact ⟨_, h⟩
    refine W.eq (g2 := F0 m 8 ls [.int rv, .int (nI 0), .ref ao]) rfl ?_
    refine lv_i2l (v := rv.toInt64) hx hb dL_solve_8 rfl ?_
    refine va_last hx hb hK hP hD hS 0 1 rfl rfl (vp_in_nI (by decide) (by decide)) dL_solve_9 (fun H locs hP hD hS => ?_)
    refine lv_goto (tgt := 17) hx hb dL_solve_10 (by decide) ?_
    refine lv_iconst (v := nI 0) hx hb dL_solve_17 (by decide +kernel) ?_
    exact W.iret hx hb hr (fun t9 ht hW => ⟨some (.int (nI 0)), oW ao cJ (vp_updL ov (nI 0).toNatClampNeg rv.toInt64) :: W9, rfl, Or.inl ⟨rv, W9, (vp_updL ov (nI 0).toNatClampNeg rv.toInt64), hpost, up_0 ov _, rfl, rfl⟩, by rw [ht]; exact hP, hD, hS.F ht⟩) hS.2.2 dL_solve_18
set_option maxHeartbeats 4000000 in
set_option maxRecDepth 100000 in
theorem c_L_move (l : Launch) (hlt : l.stackTraces = false) (dC : Nat → ClassId) (dI : Nat → Nat → Nat) (ad : Nat → Nat) (cI cJ : ClassId) (n t : Nat) (P HT RK GP : Nat → Nat) (sm : Int32) (F T M ST : Nat → Nat) (ln mn : Int32) (E : Nat → Nat) (ao : Nat) (ov : Nat → Int64) (i j : Int32) (sz : Nat) : Met l yL_move wsL_move ({ frames := 9, cells := 1, slots := 6, locals := 222 }) (va_Pc [.ref (ad 0), .int i, .int j, .ref ao] (lo_P (dC, dI) [(cI, .int), (cJ, .long)] (oW ao cJ ov :: (cW ad cI cJ n t P HT RK GP sm F T M ST ln mn E)) sz)) (wr_Q (dC, dI) (va_A (oW ao cJ ov :: (cW ad cI cJ n t P HT RK GP sm F T M ST ln mn E)) sz) (fun r W1 => (∃ (rv : Int32) (Wc : va_W) (gv : Nat → Int64), (fun (r : Option Value) (W1 : va_W) => qmv ln i j = 0 ∧ r = some (.int (nI (vmv F T M i.toNatClampNeg j.toNatClampNeg))) ∧ W1 = (cW ad cI cJ n t P HT RK GP sm F T M ST ln mn E)) (some (.int rv)) Wc ∧ gv 0 = rv.toInt64 ∧ r = some (.int (nI 0)) ∧ W1 = oW ao cJ gv :: Wc) ∨ (qmv ln i j ≠ 0 ∧ r = some (.int (nI (qmv ln i j))) ∧ W1 = (oW ao cJ ov :: (cW ad cI cJ n t P HT RK GP sm F T M ST ln mn E))))) 1 6 (va_A (oW ao cJ ov :: (cW ad cI cJ n t P HT RK GP sm F T M ST ln mn E)) sz) := by
  refine wh_of (cc := cL_move) (maxL := 5) (ret := (some .int)) (hh := [(0, 10, 13, 31)]) (by decide) rfl ?_
  intro p e s m args below meth c s₁ B hml hv
  obtain ⟨rfl, ⟨⟨⟨hsz, hP, hK, hD0⟩, hN⟩, hTw, hZ⟩, hL⟩ := hv
  have hx := B.exec
  have hb := B.bytes
  have hr := B.returns
  have hts := atoms_spec (ws := wsL_move) B.pre
  have hown : s.vm.findClass RL = some m.cls := findClass_of_methodNamed B.named
  have hlocks := B.notSynchronized
  have htb := vx_table (x := yL_move) B (hts (.codeWith yL_move cL_move 5 (some .int) [(0, 10, 13, 31)]) (by decide +kernel))
  subst hsz
  have hD := hD0.self (sz := s.heap.size)
  generalize hAe : va_A (oW ao cJ ov :: (cW ad cI cJ n t P HT RK GP sm F T M ST ln mn E)) s.heap.size = A at hD hZ ⊢
  have hA : ∀ q : Nat, s.heap.size ≤ q → A q := fun q h => by rw [← hAe]; exact Or.inr h
  have hS : va_S A s.heap s.heap [] := va_S.rf
  have hl := lv_entry ([.ref (ad 0), .int i, .int j, .ref ao]) (n := 5) (Nat.le_of_ble_eq_true rfl)
  rw [lg_entry_eq]
  generalize (lg_sl ([.ref (ad 0), .int i, .int j, .ref ao]) ++ List.replicate (5 - (lg_sl ([.ref (ad 0), .int i, .int j, .ref ao])).length) Slot.unset).toArray = ls at hl ⊢
  have hl : lv_has ls 5 [(0, .ref (ad 0)), (1, .int i), (2, .int j), (3, .ref ao)] := hl
  refine lv_aload_n hx hb dL_move_0 rfl (lv_at hl 3 rfl) ?_
  refine lv_iconst (v := nI 0) hx hb dL_move_1 (by decide +kernel) ?_
  refine lv_aload_n hx hb dL_move_2 rfl (lv_at hl 0 rfl) ?_
  refine lv_iload_n hx hb dL_move_3 rfl (lv_at hl 1 rfl) ?_
  refine lv_iload_n hx hb dL_move_4 rfl (lv_at hl 2 rfl) ?_
  have hPc := hP.sub (ws' := (cW ad cI cJ n t P HT RK GP sm F T M ST ln mn E)) [1, 2, 3, 4, 5, 6, 7, 8, 9, 10, 11, 12, 13, 14] rfl
  have hDc := hD.sub (ws' := (cW ad cI cJ n t P HT RK GP sm F T M ST ln mn E)) [1, 2, 3, 4, 5, 6, 7, 8, 9, 10, 11, 12, 13, 14] (by decide) rfl
  have hFc := va_free (wc := (cW ad cI cJ n t P HT RK GP sm F T M ST ln mn E)) hD hS hA [1, 2, 3, 4, 5, 6, 7, 8, 9, 10, 11, 12, 13, 14] rfl
  refine wx_go (vx_runV (As := [.int i, .int j]) (rest := [.int (nI 0), .ref ao]) ⟨hx, hb, hml, hown, hts⟩ (c_X6_move l hlt dC dI ad cI cJ n t P HT RK GP sm F T M ST ln mn E i j s.heap.size) (cwV 2 hts gL_move_X6_move rfl rfl rfl (by decide +kernel) ⟨Nat.le_of_ble_eq_true rfl, Nat.le_of_ble_eq_true rfl⟩) ⟨th_blind, va_recv hK hPc (ci := 5) (q0 := 0) rfl rfl, fun U hU hW => ⟨rfl, ⟨⟨by rw [hU], by rw [hU]; exact hPc, va_K.moved hW.alike hK, hDc.weaken (fun _ _ _ _ => trivial)⟩, nst_warm hW hN⟩, tws_warm hW hTw, by rw [hU]; exact tzq_moved hW.alike (tzq_narrow hZ hFc)⟩⟩ rfl rfl hl.1 rfl (lv_room (Nat.le_of_ble_eq_true rfl)) dL_move_5 ⟨Nat.le_of_ble_eq_true rfl, Nat.le_of_ble_eq_true rfl⟩) hS hFc hFc (fun E9 ce q9 H1 locs hp hP1 hz9 hk9 hS hce hcv hcl => ?_) (fun r9 W9 H1 locs hpost hP1 hD1 hz9 hk9 hS => ?_)
  · obtain ⟨hP, hD⟩ := va_join (wr := [oW ao cJ ov]) (w1 := (cW ad cI cJ n t P HT RK GP sm F T M ST ln mn E)) hP hD [1, 2, 3, 4, 5, 6, 7, 8, 9, 10, 11, 12, 13, 14] [0] rfl rfl (by decide) (by decide) hk9 hFc hP1 hDc.self
    obtain ⟨hq, rfl⟩ := hp
    refine vx_catch (name := "java/lang/IndexOutOfBoundsException") hown [] ⟨0, 10, 13, 31⟩ [] (by rw [htb]; rfl) (fun z hz => nomatch hz) (by decide) (by decide) (va_Nw.use rfl (hL.1 (.classLink RL 31 "java/lang/IndexOutOfBoundsException") (by decide +kernel))) (va_Nw.use rfl (hL.1 (.castable "java/lang/IndexOutOfBoundsException" "java/lang/IndexOutOfBoundsException") (by decide +kernel))) hce hcv hcl ?_
    refine W.eq (g2 := F0 m 13 ls [.ref q9]) rfl ?_
    refine lv_astore (lv' := [(4, .ref q9), (0, .ref (ad 0)), (1, .int i), (2, .int j), (3, .ref ao)]) hx hb dL_move_13 hl (by decide) rfl (fun ls hl => ?_)
    refine lv_iconst (v := nI 1) hx hb dL_move_15 (by decide +kernel) ?_
    exact W.iret hx hb hr (fun t9 ht hW => ⟨some (.int (nI 1)), (oW ao cJ ov :: (cW ad cI cJ n t P HT RK GP sm F T M ST ln mn E)), rfl, Or.inr ⟨by rw [hq]; decide, by rw [hq], rfl⟩, by rw [ht]; exact hP, hD, hS.F ht⟩) hS.2.2 dL_move_16
  · obtain ⟨hP, hD⟩ := va_join (wr := [oW ao cJ ov]) (w1 := W9) hP hD [1, 2, 3, 4, 5, 6, 7, 8, 9, 10, 11, 12, 13, 14] [0] rfl rfl (by decide) (by decide) hk9 hFc hP1 hD1
    obtain ⟨rv, rfl⟩ : ∃ rv : Int32, r9 = some (.int rv) := ⟨_, hpost.2.1⟩
    refine W.eq (g2 := F0 m 8 ls [.int rv, .int (nI 0), .ref ao]) rfl ?_
    refine lv_i2l (v := rv.toInt64) hx hb dL_move_8 rfl ?_
    refine va_last hx hb hK hP hD hS 0 1 rfl rfl (vp_in_nI (by decide) (by decide)) dL_move_9 (fun H locs hP hD hS => ?_)
    refine lv_goto (tgt := 17) hx hb dL_move_10 (by decide) ?_
    refine lv_iconst (v := nI 0) hx hb dL_move_17 (by decide +kernel) ?_
    exact W.iret hx hb hr (fun t9 ht hW => ⟨some (.int (nI 0)), oW ao cJ (vp_updL ov (nI 0).toNatClampNeg rv.toInt64) :: W9, rfl, Or.inl ⟨rv, W9, (vp_updL ov (nI 0).toNatClampNeg rv.toInt64), hpost, up_0 ov _, rfl, rfl⟩, by rw [ht]; exact hP, hD, hS.F ht⟩) hS.2.2 dL_move_18
set_option maxHeartbeats 4000000 in
set_option maxRecDepth 100000 in
theorem c_L_follow (l : Launch) (hlt : l.stackTraces = false) (dC : Nat → ClassId) (dI : Nat → Nat → Nat) (ad : Nat → Nat) (cI cJ : ClassId) (n t : Nat) (P HT RK GP : Nat → Nat) (sm : Int32) (F T M ST : Nat → Nat) (ln mn : Int32) (E : Nat → Nat) (ao : Nat) (ov : Nat → Int64) (hn0 : 2 ≤ n ∧ n ≤ 4) (ht0 : 2 ≤ t ∧ t ≤ 4) (hP0 : ∀ j, P j < 2147483648) (hH0 : ∀ j, HT j < 1000000) (hR0 : ∀ j, RK j < 8) (hS0 : ∀ j, ST j < 2147483648) (hkp : kpt ln mn F T) (sz : Nat) : Met l yL_follow wsL_follow ({ frames := 9, cells := 1, slots := 6, locals := 225 }) (va_Pc [.ref (ad 0), .ref ao] (lo_P (dC, dI) [(cI, .int), (cJ, .long)] (oW ao cJ ov :: (cW ad cI cJ n t P HT RK GP sm F T M ST ln mn E)) sz)) (wr_Q (dC, dI) (va_A (oW ao cJ ov :: (cW ad cI cJ n t P HT RK GP sm F T M ST ln mn E)) sz) (fun r W1 => (∃ (rv : Int32) (Wc : va_W) (gv : Nat → Int64), (fun (r : Option Value) (W1 : va_W) => qfl ln ST P = 0 ∧ ∃ L0 m0, L0 ≤ 30 ∧ m0 < 3 ∧ ln = nI L0 ∧ mn = nI m0 ∧ r = some (.int (nI (hsum HT n) - nI (hsum (ups (cfo m0 F T (pks P (lrn P RK GP).2.1 HT t n) L0) t (lrn P RK GP).2.2 P HT n).2 n))) ∧ W1 = (cW ad cI cJ n t ((ups (cfo m0 F T (pks P (lrn P RK GP).2.1 HT t n) L0) t (lrn P RK GP).2.2 P HT n).1) ((ups (cfo m0 F T (pks P (lrn P RK GP).2.1 HT t n) L0) t (lrn P RK GP).2.2 P HT n).2) ((lrn P RK GP).2.1) ((lrn P RK GP).2.2) sm F T M ST ln mn E)) (some (.int rv)) Wc ∧ gv 0 = rv.toInt64 ∧ r = some (.int (nI 0)) ∧ W1 = oW ao cJ gv :: Wc) ∨ (qfl ln ST P ≠ 0 ∧ r = some (.int (nI (qfl ln ST P))) ∧ W1 = (oW ao cJ ov :: (cW ad cI cJ n t P HT RK GP sm F T M ST ln mn E))))) 1 6 (va_A (oW ao cJ ov :: (cW ad cI cJ n t P HT RK GP sm F T M ST ln mn E)) sz) := by
  refine wh_of (cc := cL_follow) (maxL := 3) (ret := (some .int)) (hh := [(0, 8, 11, 17)]) (by decide) rfl ?_
  intro p e s m args below meth c s₁ B hml hv
  obtain ⟨rfl, ⟨⟨⟨hsz, hP, hK, hD0⟩, hN⟩, hTw, hZ⟩, hL⟩ := hv
  have hx := B.exec
  have hb := B.bytes
  have hr := B.returns
  have hts := atoms_spec (ws := wsL_follow) B.pre
  have hown : s.vm.findClass RL = some m.cls := findClass_of_methodNamed B.named
  have hlocks := B.notSynchronized
  have htb := vx_table (x := yL_follow) B (hts (.codeWith yL_follow cL_follow 3 (some .int) [(0, 8, 11, 17)]) (by decide +kernel))
  subst hsz
  have hD := hD0.self (sz := s.heap.size)
  generalize hAe : va_A (oW ao cJ ov :: (cW ad cI cJ n t P HT RK GP sm F T M ST ln mn E)) s.heap.size = A at hD hZ ⊢
  have hA : ∀ q : Nat, s.heap.size ≤ q → A q := fun q h => by rw [← hAe]; exact Or.inr h
  have hS : va_S A s.heap s.heap [] := va_S.rf
  have hl := lv_entry ([.ref (ad 0), .ref ao]) (n := 3) (Nat.le_of_ble_eq_true rfl)
  rw [lg_entry_eq]
  generalize (lg_sl ([.ref (ad 0), .ref ao]) ++ List.replicate (3 - (lg_sl ([.ref (ad 0), .ref ao])).length) Slot.unset).toArray = ls at hl ⊢
  have hl : lv_has ls 3 [(0, .ref (ad 0)), (1, .ref ao)] := hl
  refine lv_aload_n hx hb dL_follow_0 rfl (lv_at hl 1 rfl) ?_
  refine lv_iconst (v := nI 0) hx hb dL_follow_1 (by decide +kernel) ?_
  refine lv_aload_n hx hb dL_follow_2 rfl (lv_at hl 0 rfl) ?_
  have hPc := hP.sub (ws' := (cW ad cI cJ n t P HT RK GP sm F T M ST ln mn E)) [1, 2, 3, 4, 5, 6, 7, 8, 9, 10, 11, 12, 13, 14] rfl
  have hDc := hD.sub (ws' := (cW ad cI cJ n t P HT RK GP sm F T M ST ln mn E)) [1, 2, 3, 4, 5, 6, 7, 8, 9, 10, 11, 12, 13, 14] (by decide) rfl
  have hFc := va_free (wc := (cW ad cI cJ n t P HT RK GP sm F T M ST ln mn E)) hD hS hA [1, 2, 3, 4, 5, 6, 7, 8, 9, 10, 11, 12, 13, 14] rfl
  refine wx_go (vx_runV (As := []) (rest := [.int (nI 0), .ref ao]) ⟨hx, hb, hml, hown, hts⟩ (c_X6_follow l hlt dC dI ad cI cJ n t P HT RK GP sm F T M ST ln mn E hn0 ht0 hP0 hH0 hR0 hS0 hkp s.heap.size) (cwV 0 hts gL_follow_X6_follow rfl rfl rfl (by decide +kernel) ⟨Nat.le_of_ble_eq_true rfl, Nat.le_of_ble_eq_true rfl⟩) ⟨th_blind, va_recv hK hPc (ci := 5) (q0 := 0) rfl rfl, fun U hU hW => ⟨rfl, ⟨⟨by rw [hU], by rw [hU]; exact hPc, va_K.moved hW.alike hK, hDc.weaken (fun _ _ _ _ => trivial)⟩, nst_warm hW hN⟩, tws_warm hW hTw, by rw [hU]; exact tzq_moved hW.alike (tzq_narrow hZ hFc)⟩⟩ rfl rfl hl.1 rfl (lv_room (Nat.le_of_ble_eq_true rfl)) dL_follow_3 ⟨Nat.le_of_ble_eq_true rfl, Nat.le_of_ble_eq_true rfl⟩) hS hFc hFc (fun E9 ce q9 H1 locs hp hP1 hz9 hk9 hS hce hcv hcl => ?_) (fun r9 W9 H1 locs hpost hP1 hD1 hz9 hk9 hS => ?_)
  · obtain ⟨hP, hD⟩ := va_join (wr := [oW ao cJ ov]) (w1 := (cW ad cI cJ n t P HT RK GP sm F T M ST ln mn E)) hP hD [1, 2, 3, 4, 5, 6, 7, 8, 9, 10, 11, 12, 13, 14] [0] rfl rfl (by decide) (by decide) hk9 hFc hP1 hDc.self
    obtain ⟨hq, rfl⟩ := hp
    refine vx_catch (name := "java/lang/IllegalStateException") hown [] ⟨0, 8, 11, 17⟩ [] (by rw [htb]; rfl) (fun z hz => nomatch hz) (by decide) (by decide) (va_Nw.use rfl (hL.1 (.classLink RL 17 "java/lang/IllegalStateException") (by decide +kernel))) (va_Nw.use rfl (hL.1 (.castable "java/lang/IllegalStateException" "java/lang/IllegalStateException") (by decide +kernel))) hce hcv hcl ?_
    refine W.eq (g2 := F0 m 11 ls [.ref q9]) rfl ?_
    refine lv_astore_n (lv' := [(2, .ref q9), (0, .ref (ad 0)), (1, .ref ao)]) hx hb dL_follow_11 rfl hl (by decide) rfl (fun ls hl => ?_)
    refine lv_iconst (v := nI 1) hx hb dL_follow_12 (by decide +kernel) ?_
    exact W.iret hx hb hr (fun t9 ht hW => ⟨some (.int (nI 1)), (oW ao cJ ov :: (cW ad cI cJ n t P HT RK GP sm F T M ST ln mn E)), rfl, Or.inr ⟨by rw [hq]; decide, by rw [hq], rfl⟩, by rw [ht]; exact hP, hD, hS.F ht⟩) hS.2.2 dL_follow_13
  · obtain ⟨hP, hD⟩ := va_join (wr := [oW ao cJ ov]) (w1 := W9) hP hD [1, 2, 3, 4, 5, 6, 7, 8, 9, 10, 11, 12, 13, 14] [0] rfl rfl (by decide) (by decide) hk9 hFc hP1 hD1
    obtain ⟨rv, rfl⟩ : ∃ rv : Int32, r9 = some (.int rv) := by obtain ⟨-, L0, m0, -, -, -, -, h, -⟩ := hpost; exact ⟨_, h⟩
    refine W.eq (g2 := F0 m 6 ls [.int rv, .int (nI 0), .ref ao]) rfl ?_
    refine lv_i2l (v := rv.toInt64) hx hb dL_follow_6 rfl ?_
    refine va_last hx hb hK hP hD hS 0 1 rfl rfl (vp_in_nI (by decide) (by decide)) dL_follow_7 (fun H locs hP hD hS => ?_)
    refine lv_goto (tgt := 14) hx hb dL_follow_8 (by decide) ?_
    refine lv_iconst (v := nI 0) hx hb dL_follow_14 (by decide +kernel) ?_
    exact W.iret hx hb hr (fun t9 ht hW => ⟨some (.int (nI 0)), oW ao cJ (vp_updL ov (nI 0).toNatClampNeg rv.toInt64) :: W9, rfl, Or.inl ⟨rv, W9, (vp_updL ov (nI 0).toNatClampNeg rv.toInt64), hpost, up_0 ov _, rfl, rfl⟩, by rw [ht]; exact hP, hD, hS.F ht⟩) hS.2.2 dL_follow_15
set_option maxHeartbeats 4000000 in
set_option maxRecDepth 100000 in
theorem c_L_travel (l : Launch) (hlt : l.stackTraces = false) (dC : Nat → ClassId) (dI : Nat → Nat → Nat) (ad : Nat → Nat) (cI cJ : ClassId) (n t : Nat) (P HT RK GP : Nat → Nat) (sm : Int32) (F T M ST : Nat → Nat) (ln mn : Int32) (E : Nat → Nat) (ao : Nat) (ov : Nat → Int64) (hn0 : 2 ≤ n ∧ n ≤ 4) (i j : Int32) (sz : Nat) : Met l yL_travel wsL_travel ({ frames := 9, cells := 1, slots := 6, locals := 222 }) (va_Pc [.ref (ad 0), .int i, .int j, .ref ao] (lo_P (dC, dI) [(cI, .int), (cJ, .long)] (oW ao cJ ov :: (cW ad cI cJ n t P HT RK GP sm F T M ST ln mn E)) sz)) (wr_Q (dC, dI) (va_A (oW ao cJ ov :: (cW ad cI cJ n t P HT RK GP sm F T M ST ln mn E)) sz) (fun r W1 => (∃ (rv : Int32) (Wc : va_W) (gv : Nat → Int64), (fun (r : Option Value) (W1 : va_W) => ktr n i j = 0 ∧ r = some (.int (nI (vtr i.toNatClampNeg j.toNatClampNeg))) ∧ W1 = (cW ad cI cJ n t P HT RK GP sm F T M ST ln mn E)) (some (.int rv)) Wc ∧ gv 0 = rv.toInt64 ∧ r = some (.int (nI 0)) ∧ W1 = oW ao cJ gv :: Wc) ∨ (ktr n i j ≠ 0 ∧ r = some (.int (nI (ktr n i j))) ∧ W1 = (oW ao cJ ov :: (cW ad cI cJ n t P HT RK GP sm F T M ST ln mn E))))) 1 6 (va_A (oW ao cJ ov :: (cW ad cI cJ n t P HT RK GP sm F T M ST ln mn E)) sz) := by
  refine wh_of (cc := cL_travel) (maxL := 5) (ret := (some .int)) (hh := [(0, 10, 13, 13)]) (by decide) rfl ?_
  intro p e s m args below meth c s₁ B hml hv
  obtain ⟨rfl, ⟨⟨⟨hsz, hP, hK, hD0⟩, hN⟩, hTw, hZ⟩, hL⟩ := hv
  have hx := B.exec
  have hb := B.bytes
  have hr := B.returns
  have hts := atoms_spec (ws := wsL_travel) B.pre
  have hown : s.vm.findClass RL = some m.cls := findClass_of_methodNamed B.named
  have hlocks := B.notSynchronized
  have htb := vx_table (x := yL_travel) B (hts (.codeWith yL_travel cL_travel 5 (some .int) [(0, 10, 13, 13)]) (by decide +kernel))
  subst hsz
  have hD := hD0.self (sz := s.heap.size)
  generalize hAe : va_A (oW ao cJ ov :: (cW ad cI cJ n t P HT RK GP sm F T M ST ln mn E)) s.heap.size = A at hD hZ ⊢
  have hA : ∀ q : Nat, s.heap.size ≤ q → A q := fun q h => by rw [← hAe]; exact Or.inr h
  have hS : va_S A s.heap s.heap [] := va_S.rf
  have hl := lv_entry ([.ref (ad 0), .int i, .int j, .ref ao]) (n := 5) (Nat.le_of_ble_eq_true rfl)
  rw [lg_entry_eq]
  generalize (lg_sl ([.ref (ad 0), .int i, .int j, .ref ao]) ++ List.replicate (5 - (lg_sl ([.ref (ad 0), .int i, .int j, .ref ao])).length) Slot.unset).toArray = ls at hl ⊢
  have hl : lv_has ls 5 [(0, .ref (ad 0)), (1, .int i), (2, .int j), (3, .ref ao)] := hl
  refine lv_aload_n hx hb dL_travel_0 rfl (lv_at hl 3 rfl) ?_
  refine lv_iconst (v := nI 0) hx hb dL_travel_1 (by decide +kernel) ?_
  refine lv_aload_n hx hb dL_travel_2 rfl (lv_at hl 0 rfl) ?_
  refine lv_iload_n hx hb dL_travel_3 rfl (lv_at hl 1 rfl) ?_
  refine lv_iload_n hx hb dL_travel_4 rfl (lv_at hl 2 rfl) ?_
  have hPc := hP.sub (ws' := (cW ad cI cJ n t P HT RK GP sm F T M ST ln mn E)) [1, 2, 3, 4, 5, 6, 7, 8, 9, 10, 11, 12, 13, 14] rfl
  have hDc := hD.sub (ws' := (cW ad cI cJ n t P HT RK GP sm F T M ST ln mn E)) [1, 2, 3, 4, 5, 6, 7, 8, 9, 10, 11, 12, 13, 14] (by decide) rfl
  have hFc := va_free (wc := (cW ad cI cJ n t P HT RK GP sm F T M ST ln mn E)) hD hS hA [1, 2, 3, 4, 5, 6, 7, 8, 9, 10, 11, 12, 13, 14] rfl
  refine wx_go (vx_runV (As := [.int i, .int j]) (rest := [.int (nI 0), .ref ao]) ⟨hx, hb, hml, hown, hts⟩ (c_X6_travel l hlt dC dI ad cI cJ n t P HT RK GP sm F T M ST ln mn E hn0 i j s.heap.size) (cwV 2 hts gL_travel_X6_travel rfl rfl rfl (by decide +kernel) ⟨Nat.le_of_ble_eq_true rfl, Nat.le_of_ble_eq_true rfl⟩) ⟨th_blind, va_recv hK hPc (ci := 5) (q0 := 0) rfl rfl, fun U hU hW => ⟨rfl, ⟨⟨by rw [hU], by rw [hU]; exact hPc, va_K.moved hW.alike hK, hDc.weaken (fun _ _ _ _ => trivial)⟩, nst_warm hW hN⟩, tws_warm hW hTw, by rw [hU]; exact tzq_moved hW.alike (tzq_narrow hZ hFc)⟩⟩ rfl rfl hl.1 rfl (lv_room (Nat.le_of_ble_eq_true rfl)) dL_travel_5 ⟨Nat.le_of_ble_eq_true rfl, Nat.le_of_ble_eq_true rfl⟩) hS hFc hFc (fun E9 ce q9 H1 locs hp hP1 hz9 hk9 hS hce hcv hcl => ?_) (fun r9 W9 H1 locs hpost hP1 hD1 hz9 hk9 hS => ?_)
  · obtain ⟨hP, hD⟩ := va_join (wr := [oW ao cJ ov]) (w1 := (cW ad cI cJ n t P HT RK GP sm F T M ST ln mn E)) hP hD [1, 2, 3, 4, 5, 6, 7, 8, 9, 10, 11, 12, 13, 14] [0] rfl rfl (by decide) (by decide) hk9 hFc hP1 hDc.self
    obtain ⟨hq, rfl⟩ := hp
    refine vx_catch (name := RJx00060) hown [] ⟨0, 10, 13, 13⟩ [] (by rw [htb]; rfl) (fun z hz => nomatch hz) (by decide) (by decide) (va_Nw.use rfl (hL.1 (.classLink RL 13 RJx00060) (by decide +kernel))) (va_Nw.use rfl (hL.1 (.castable RJx00060 RJx00060) (by decide +kernel))) hce hcv hcl ?_
    refine W.eq (g2 := F0 m 13 ls [.ref q9]) rfl ?_
    refine lv_astore (lv' := [(4, .ref q9), (0, .ref (ad 0)), (1, .int i), (2, .int j), (3, .ref ao)]) hx hb dL_travel_13 hl (by decide) rfl (fun ls hl => ?_)
    refine lv_iconst (v := nI 1) hx hb dL_travel_15 (by decide +kernel) ?_
    exact W.iret hx hb hr (fun t9 ht hW => ⟨some (.int (nI 1)), (oW ao cJ ov :: (cW ad cI cJ n t P HT RK GP sm F T M ST ln mn E)), rfl, Or.inr ⟨by rw [hq]; decide, by rw [hq], rfl⟩, by rw [ht]; exact hP, hD, hS.F ht⟩) hS.2.2 dL_travel_16
  · obtain ⟨hP, hD⟩ := va_join (wr := [oW ao cJ ov]) (w1 := W9) hP hD [1, 2, 3, 4, 5, 6, 7, 8, 9, 10, 11, 12, 13, 14] [0] rfl rfl (by decide) (by decide) hk9 hFc hP1 hD1
    obtain ⟨rv, rfl⟩ : ∃ rv : Int32, r9 = some (.int rv) := ⟨_, hpost.2.1⟩
    refine W.eq (g2 := F0 m 8 ls [.int rv, .int (nI 0), .ref ao]) rfl ?_
    refine lv_i2l (v := rv.toInt64) hx hb dL_travel_8 rfl ?_
    refine va_last hx hb hK hP hD hS 0 1 rfl rfl (vp_in_nI (by decide) (by decide)) dL_travel_9 (fun H locs hP hD hS => ?_)
    refine lv_goto (tgt := 17) hx hb dL_travel_10 (by decide) ?_
    refine lv_iconst (v := nI 0) hx hb dL_travel_17 (by decide +kernel) ?_
    exact W.iret hx hb hr (fun t9 ht hW => ⟨some (.int (nI 0)), oW ao cJ (vp_updL ov (nI 0).toNatClampNeg rv.toInt64) :: W9, rfl, Or.inl ⟨rv, W9, (vp_updL ov (nI 0).toNatClampNeg rv.toInt64), hpost, up_0 ov _, rfl, rfl⟩, by rw [ht]; exact hP, hD, hS.F ht⟩) hS.2.2 dL_travel_18
set_option maxHeartbeats 4000000 in
set_option maxRecDepth 100000 in
theorem c_L_at (l : Launch) (hlt : l.stackTraces = false) (dC : Nat → ClassId) (dI : Nat → Nat → Nat) (ad : Nat → Nat) (cI cJ : ClassId) (n t : Nat) (P HT RK GP : Nat → Nat) (sm : Int32) (F T M ST : Nat → Nat) (ln mn : Int32) (E : Nat → Nat) (ao : Nat) (ov : Nat → Int64) (hn0 : 2 ≤ n ∧ n ≤ 4) (ht0 : 2 ≤ t ∧ t ≤ 4) (i j : Int32) (sz : Nat) : Met l yL_at wsL_at ({ frames := 9, cells := 1, slots := 6, locals := 222 }) (va_Pc [.ref (ad 0), .int i, .int j, .ref ao] (lo_P (dC, dI) [(cI, .int), (cJ, .long)] (oW ao cJ ov :: (cW ad cI cJ n t P HT RK GP sm F T M ST ln mn E)) sz)) (wr_Q (dC, dI) (va_A (oW ao cJ ov :: (cW ad cI cJ n t P HT RK GP sm F T M ST ln mn E)) sz) (fun r W1 => (∃ (rv : Int32) (Wc : va_W) (gv : Nat → Int64), (fun (r : Option Value) (W1 : va_W) => kat n t i j = 0 ∧ r = some (.int (nI (P (i.toNatClampNeg * t + j.toNatClampNeg)))) ∧ W1 = (cW ad cI cJ n t P HT RK GP sm F T M ST ln mn E)) (some (.int rv)) Wc ∧ gv 0 = rv.toInt64 ∧ r = some (.int (nI 0)) ∧ W1 = oW ao cJ gv :: Wc) ∨ (kat n t i j ≠ 0 ∧ r = some (.int (nI (kat n t i j))) ∧ W1 = (oW ao cJ ov :: (cW ad cI cJ n t P HT RK GP sm F T M ST ln mn E))))) 1 6 (va_A (oW ao cJ ov :: (cW ad cI cJ n t P HT RK GP sm F T M ST ln mn E)) sz) := by
  refine wh_of (cc := cL_at) (maxL := 5) (ret := (some .int)) (hh := [(0, 10, 13, 13)]) (by decide) rfl ?_
  intro p e s m args below meth c s₁ B hml hv
  obtain ⟨rfl, ⟨⟨⟨hsz, hP, hK, hD0⟩, hN⟩, hTw, hZ⟩, hL⟩ := hv
  have hx := B.exec
  have hb := B.bytes
  have hr := B.returns
  have hts := atoms_spec (ws := wsL_at) B.pre
  have hown : s.vm.findClass RL = some m.cls := findClass_of_methodNamed B.named
  have hlocks := B.notSynchronized
  have htb := vx_table (x := yL_at) B (hts (.codeWith yL_at cL_at 5 (some .int) [(0, 10, 13, 13)]) (by decide +kernel))
  subst hsz
  have hD := hD0.self (sz := s.heap.size)
  generalize hAe : va_A (oW ao cJ ov :: (cW ad cI cJ n t P HT RK GP sm F T M ST ln mn E)) s.heap.size = A at hD hZ ⊢
  have hA : ∀ q : Nat, s.heap.size ≤ q → A q := fun q h => by rw [← hAe]; exact Or.inr h
  have hS : va_S A s.heap s.heap [] := va_S.rf
  have hl := lv_entry ([.ref (ad 0), .int i, .int j, .ref ao]) (n := 5) (Nat.le_of_ble_eq_true rfl)
  rw [lg_entry_eq]
  generalize (lg_sl ([.ref (ad 0), .int i, .int j, .ref ao]) ++ List.replicate (5 - (lg_sl ([.ref (ad 0), .int i, .int j, .ref ao])).length) Slot.unset).toArray = ls at hl ⊢
  have hl : lv_has ls 5 [(0, .ref (ad 0)), (1, .int i), (2, .int j), (3, .ref ao)] := hl
  refine lv_aload_n hx hb dL_at_0 rfl (lv_at hl 3 rfl) ?_
  refine lv_iconst (v := nI 0) hx hb dL_at_1 (by decide +kernel) ?_
  refine lv_aload_n hx hb dL_at_2 rfl (lv_at hl 0 rfl) ?_
  refine lv_iload_n hx hb dL_at_3 rfl (lv_at hl 1 rfl) ?_
  refine lv_iload_n hx hb dL_at_4 rfl (lv_at hl 2 rfl) ?_
  have hPc := hP.sub (ws' := (cW ad cI cJ n t P HT RK GP sm F T M ST ln mn E)) [1, 2, 3, 4, 5, 6, 7, 8, 9, 10, 11, 12, 13, 14] rfl
  have hDc := hD.sub (ws' := (cW ad cI cJ n t P HT RK GP sm F T M ST ln mn E)) [1, 2, 3, 4, 5, 6, 7, 8, 9, 10, 11, 12, 13, 14] (by decide) rfl
  have hFc := va_free (wc := (cW ad cI cJ n t P HT RK GP sm F T M ST ln mn E)) hD hS hA [1, 2, 3, 4, 5, 6, 7, 8, 9, 10, 11, 12, 13, 14] rfl
  refine wx_go (vx_runV (As := [.int i, .int j]) (rest := [.int (nI 0), .ref ao]) ⟨hx, hb, hml, hown, hts⟩ (c_X6_at l hlt dC dI ad cI cJ n t P HT RK GP sm F T M ST ln mn E hn0 ht0 i j s.heap.size) (cwV 2 hts gL_at_X6_at rfl rfl rfl (by decide +kernel) ⟨Nat.le_of_ble_eq_true rfl, Nat.le_of_ble_eq_true rfl⟩) ⟨th_blind, va_recv hK hPc (ci := 5) (q0 := 0) rfl rfl, fun U hU hW => ⟨rfl, ⟨⟨by rw [hU], by rw [hU]; exact hPc, va_K.moved hW.alike hK, hDc.weaken (fun _ _ _ _ => trivial)⟩, nst_warm hW hN⟩, tws_warm hW hTw, by rw [hU]; exact tzq_moved hW.alike (tzq_narrow hZ hFc)⟩⟩ rfl rfl hl.1 rfl (lv_room (Nat.le_of_ble_eq_true rfl)) dL_at_5 ⟨Nat.le_of_ble_eq_true rfl, Nat.le_of_ble_eq_true rfl⟩) hS hFc hFc (fun E9 ce q9 H1 locs hp hP1 hz9 hk9 hS hce hcv hcl => ?_) (fun r9 W9 H1 locs hpost hP1 hD1 hz9 hk9 hS => ?_)
  · obtain ⟨hP, hD⟩ := va_join (wr := [oW ao cJ ov]) (w1 := (cW ad cI cJ n t P HT RK GP sm F T M ST ln mn E)) hP hD [1, 2, 3, 4, 5, 6, 7, 8, 9, 10, 11, 12, 13, 14] [0] rfl rfl (by decide) (by decide) hk9 hFc hP1 hDc.self
    obtain ⟨hq, rfl⟩ := hp
    refine vx_catch (name := RJx00060) hown [] ⟨0, 10, 13, 13⟩ [] (by rw [htb]; rfl) (fun z hz => nomatch hz) (by decide) (by decide) (va_Nw.use rfl (hL.1 (.classLink RL 13 RJx00060) (by decide +kernel))) (va_Nw.use rfl (hL.1 (.castable RJx00060 RJx00060) (by decide +kernel))) hce hcv hcl ?_
    refine W.eq (g2 := F0 m 13 ls [.ref q9]) rfl ?_
    refine lv_astore (lv' := [(4, .ref q9), (0, .ref (ad 0)), (1, .int i), (2, .int j), (3, .ref ao)]) hx hb dL_at_13 hl (by decide) rfl (fun ls hl => ?_)
    refine lv_iconst (v := nI 1) hx hb dL_at_15 (by decide +kernel) ?_
    exact W.iret hx hb hr (fun t9 ht hW => ⟨some (.int (nI 1)), (oW ao cJ ov :: (cW ad cI cJ n t P HT RK GP sm F T M ST ln mn E)), rfl, Or.inr ⟨by rw [hq]; decide, by rw [hq], rfl⟩, by rw [ht]; exact hP, hD, hS.F ht⟩) hS.2.2 dL_at_16
  · obtain ⟨hP, hD⟩ := va_join (wr := [oW ao cJ ov]) (w1 := W9) hP hD [1, 2, 3, 4, 5, 6, 7, 8, 9, 10, 11, 12, 13, 14] [0] rfl rfl (by decide) (by decide) hk9 hFc hP1 hD1
    obtain ⟨rv, rfl⟩ : ∃ rv : Int32, r9 = some (.int rv) := ⟨_, hpost.2.1⟩
    refine W.eq (g2 := F0 m 8 ls [.int rv, .int (nI 0), .ref ao]) rfl ?_
    refine lv_i2l (v := rv.toInt64) hx hb dL_at_8 rfl ?_
    refine va_last hx hb hK hP hD hS 0 1 rfl rfl (vp_in_nI (by decide) (by decide)) dL_at_9 (fun H locs hP hD hS => ?_)
    refine lv_goto (tgt := 17) hx hb dL_at_10 (by decide) ?_
    refine lv_iconst (v := nI 0) hx hb dL_at_17 (by decide +kernel) ?_
    exact W.iret hx hb hr (fun t9 ht hW => ⟨some (.int (nI 0)), oW ao cJ (vp_updL ov (nI 0).toNatClampNeg rv.toInt64) :: W9, rfl, Or.inl ⟨rv, W9, (vp_updL ov (nI 0).toNatClampNeg rv.toInt64), hpost, up_0 ov _, rfl, rfl⟩, by rw [ht]; exact hP, hD, hS.F ht⟩) hS.2.2 dL_at_18
