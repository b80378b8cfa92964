/-! the words, strings and statics of the throws, carried with the class's world -/
def thE : List String := ["java/lang/IndexOutOfBoundsException", "java/lang/RuntimeException", "java/lang/Exception"]
def thF : List String := ["java/lang/RuntimeException", "java/lang/Exception"]
def thW : List Cond := [.classLink RX6 52 RJx00060, .initialized RJx00060, .classLink RX6 59 "java/lang/IllegalArgumentException", .initialized "java/lang/IllegalArgumentException", .classLink RX6 68 "java/lang/IllegalStateException", .initialized "java/lang/IllegalStateException", .classLink RX6 73 "java/util/NoSuchElementException", .initialized "java/util/NoSuchElementException", .classLink RX6 102 "java/lang/IndexOutOfBoundsException", .initialized "java/lang/IndexOutOfBoundsException"] ++ (vx_atS RX6 56 RJx00060 thE ++ (vx_atS RX6 63 "java/lang/IllegalArgumentException" thF ++ (vx_atS RX6 72 "java/lang/IllegalStateException" thF ++ (nxf RX6 77 ++ vx_atS RX6 106 "java/lang/IndexOutOfBoundsException" thF))))
def thk (w : Cond) : Bool := goodWord w || match w with
  | .declares _ => true
  | .castable _ _ => true
  | _ => false
theorem thW_ok : thW.all (fun w => thk w && w.onTables) = true := by decide +kernel
theorem th_warm {s U : State} (hW : s.WarmedH U.vm) {w : Cond} (hk : thk w = true) (ho : w.onTables = true) (h : va_Nw w s) : va_Nw w U := by
  unfold thk at hk
  rcases Bool.or_eq_true _ _ ▸ hk with hg | hg
  · exact word_at hW (good_of_word hg) h
  · cases w with
    | declares x => exact va_Nw.warmD hW h
    | castable a b => exact va_Nw.warmC hW h
    | _ => exact nomatch hg
def thR : List (Nat × String) := [(54, "no such stack"), (61, "no such group"), (70, "no room for a box"), (75, "the stack is empty"), (78, "no such manner"), (80, "most is not 0 .. 30"), (104, "no such move or side"), (124, "no way is kept for these stacks"), (160, "no such stack or tier")]
/-- words and strings -/
def tws (U : State) : Prop := (∀ w ∈ thW, va_Nw w U) ∧ (∀ q ∈ thR, ∃ sa, vk_R RX6 q.1 q.2 sa U)
/-- .. and the two statics of Throwable -/
def tzq (A : Nat → Prop) (U : State) (H : Heap) : Prop := vx_Zq Bundle.tN "UNASSIGNED_STACK" Bundle.steD A U H ∧ vx_Zq Bundle.tN "SUPPRESSED_SENTINEL" Bundle.listD A U H
theorem tws_warm {s U : State} (hW : s.WarmedH U.vm) (h : tws s) : tws U :=
  ⟨fun w hw => by
    have := List.all_eq_true.mp thW_ok w hw
    rw [Bool.and_eq_true] at this
    exact th_warm hW this.1 this.2 (h.1 w hw), fun q hq => by
    obtain ⟨sa, h9⟩ := h.2 q hq
    exact ⟨sa, vk_R.warm hW h9⟩⟩
theorem tws_same {u U : State} (hv : u.vm = U.vm) (h : tws u) : tws U :=
  ⟨fun w hw => by
    have := List.all_eq_true.mp thW_ok w hw
    rw [Bool.and_eq_true] at this
    exact va_Nw.same this.2 hv (h.1 w hw), fun q hq => by
    obtain ⟨sa, h9⟩ := h.2 q hq
    exact ⟨sa, vk_R.same hv.symm h9⟩⟩
theorem tzq_moved {A : Nat → Prop} {u U : State} {H : Heap} (hv : u.vm.Alike U.vm) (h : tzq A u H) : tzq A U H := ⟨h.1.moved hv, h.2.moved hv⟩
theorem tzq_kept {A : Nat → Prop} {U : State} {H H1 : Heap} (h : tzq A U H) (hq : ∀ a : Nat, a < H.size → ¬ A a → H1[a]? = H[a]?) : tzq A U H1 := ⟨h.1.kept hq, h.2.kept hq⟩
theorem tzq_narrow {A B : Nat → Prop} {U : State} {H : Heap} (h : tzq A U H) (hAB : ∀ q, B q → A q) : tzq B U H := ⟨h.1.narrow hAB, h.2.narrow hAB⟩
abbrev th_P (D : va_G) (tys : List (ClassId × FieldType)) (W0 : va_W) (sz : Nat) (U : State) : Prop := wc_P D tys W0 sz U ∧ tws U ∧ tzq (va_A W0 sz) U U.heap
theorem th_blind {D : va_G} {tys : List (ClassId × FieldType)} {W0 : va_W} {sz : Nat} {av : List Value} : FrameBlind (va_Pc av (th_P D tys W0 sz)) := fun a U g mk q => ⟨q.1, ⟨⟨q.2.1.1.1, q.2.1.1.2.1, va_K.moved (u := U) (U := U.calling g mk a) (Vm.Alike.refl U.vm) q.2.1.1.2.2.1, q.2.1.1.2.2.2⟩, nst_same (u := U) rfl q.2.1.2⟩, tws_same (u := U) rfl q.2.2.1, tzq_moved (u := U) (Vm.Alike.refl U.vm) q.2.2.2⟩
/-- thrown: the world stands as it was -/
def th_X (D : va_G) (A : Nat → Prop) (W0 : va_W) (px : String → Prop) : String → State → State → Prop := fun E st t => px E ∧ va_P D vwCl W0 t.heap ∧ va_F A st t
section TH
variable {p : Program} {l : Launch} {e : Env} {R : Room} {s : State} {m : MethodId} {args : Array Value} {below : List Frame} {meth : Method} {c : Code} {H : Heap} {locs : List Loc} {cells slots : Nat} {Q : State → Prop}
variable {cc : ByteArray} {pc : Nat} {ls : Array Slot} {rest st0 : List Value}
theorem wx_go {a : Array Value} {D : va_G} {A1 A0 : Nat → Prop} {H0 : Heap} {mc ms : Nat} {post : Option Value → va_W → Prop} {px : String → Prop} {W0 : va_W} {free : Addr → Prop} (hr : vx_Run p l e R s m args below meth c H locs cells slots mc ms (F0 m pc ls st0) rest (wr_Q D A1 post a) (th_X D A1 W0 px) free) (hS : va_S A0 H0 H locs) (hA : ∀ q, A1 q → A0 q) (hf : ∀ q, free q → A0 q)
    (kx : ∀ (E : String) (ce : Cell) (q9 : Addr) (H1 : Heap) (locs1 : List Loc), px E → va_P D vwCl W0 H1 → H.size ≤ H1.size → (∀ q : Nat, q < H.size → ¬ A1 q → H1[q]? = H[q]?) → va_S A0 H0 H1 locs1 → H1[q9]? = some ce → ce.vm = .none → s.vm.findClass E = some ce.cls → vx_W p l e R s m args below meth c H1 locs1 (cells + mc) (slots + ms) Q (F0 m pc ls rest) q9)
    (kk : ∀ (r : Option Value) (W1 : va_W) (H1 : Heap) (locs1 : List Loc), post r W1 → va_P D vwCl W1 H1 → va_D A1 W1 → H.size ≤ H1.size → (∀ q : Nat, q < H.size → ¬ A1 q → H1[q]? = H[q]?) → va_S A0 H0 H1 locs1 → W p l e R s m args below meth c H1 locs1 (cells + mc) (slots + ms) Q (F0 m (pc + 3) ls (r.toList ++ rest))) : W p l e R s m args below meth c H locs cells slots Q (F0 m pc ls st0) := by
  intro T hT X
  rcases hr T hT X with ⟨v, st₀, t, T', L, h0, X', hL, e1, e2, ⟨r, W1, hv, hp, hP1, hD1, hF⟩, st⟩ | ⟨q, st₀, t, T', L, E, ce, h0, X', hL, e1, e2, ⟨hp, hP1, hF⟩, hce, hcv, hcl, st⟩
  · cases hv
    obtain ⟨k1, k2, k3⟩ := vx_keep h0 e1 hS (fun q _ h => hA q h) hf hL hF
    obtain ⟨t2, a1, b1⟩ := kk v W1 T'.heap (locs ++ L) hp (by rw [e1]; exact hP1) hD1 k1 k2 k3 T' rfl X'
    exact ⟨t2, st t2 a1, b1⟩
  · obtain ⟨k1, k2, k3⟩ := vx_keep h0 e1 hS (fun q _ h => hA q h) hf hL hF
    obtain ⟨t2, a1, b1⟩ := kx E ce q T'.heap (locs ++ L) hp (by rw [e1]; exact hP1) k1 k2 k3 (by rw [e1]; exact hce) hcv hcl T' rfl X'
    exact ⟨t2, st.trans a1, b1⟩
/-- a body with handlers, which returns -/
theorem wh_of {y : MethodName} {ws ws' : List Cond} {rm : Room} {Pc : Array Value → State → Prop} {Qc : Array Value → State → Outcome → State → Prop} {mc ms : Nat} {free : Addr → Prop} {maxL : Nat} {ret : Option FieldType} {hh : List (Nat × Nat × Nat × Nat)}
    (hy : plainName y.cls = true) (hw : ws = Cond.codeWith y cc maxL ret hh :: ws')
    (body : ∀ p e s m args below meth c s₁, BodyLoose p l y (headSpec ws rm) cc maxL ret e s m args below meth c s₁ → c.maxLocals = maxL → Pc args s →
      W p l e (headSpec ws rm).room s m args below meth c s.heap [] 0 0 (MQ below Qc args s mc ms free) (entryFrame m args maxL)) : Met l y ws rm Pc Qc mc ms free := by
  refine MetFree.of_bodyS (code := cc) (maxLocals := maxL) (ret := ret) hy ?_ ?_
  · intro args s m h hn
    obtain ⟨m9, meth, c, hn9, h1, h2, h3, h4, -, h5, h6, -⟩ := Cond.codeWith_spec (atoms_spec (ws := ws) h _ (by rw [hw]; exact List.mem_cons_self))
    cases hn.symm.trans hn9
    exact ⟨meth, c, h1, h2, h3, h4, h5, h6⟩
  · intro p e s m args below meth c s₁ B hml hP _
    have hh0 : s₁.heap = s.heap := by rw [B.state]; rfl
    obtain ⟨t, a1, o, b1, b2, b3⟩ := body p e s m args below meth c s₁ B hml hP s₁ hh0 (Stand.of_body B)
    exact ⟨t, o, a1, b1, b2, b3⟩
/-- a throw of the class, at its start's heap -/
theorem th_go {D : va_G} {A : Nat → Prop} {W0 : va_W} {px : String → Prop} {Qc : Array Value → State → Outcome → State → Prop} {cls text : String} {names : List String} {ik is ic mc ms : Nat} (hexec : p.tables.exec = Jvm.exec) (hb : c.code = cc) (hl : l.stackTraces = false)
    (hown : s.vm.findClass RX6 = some m.cls) (hnx : ∀ x ∈ c.exceptionTable.toList, False) (hT : tws s) (hZ : tzq A s s.heap) (hP : va_P D vwCl W0 s.heap) (hcls : Bundle.fit cls = true) (hnames : ∀ n ∈ names, Bundle.fit n = true)
    (h1 : Cond.classLink RX6 ik cls ∈ thW) (h2 : Cond.initialized cls ∈ thW) (h3 : ∀ w ∈ vx_atS RX6 ic cls names, w ∈ thW) (h4 : (is, text) ∈ thR) (hsize : ls.size = c.maxLocals)
    (d0 : decode cc pc = .ok (.new ik, 3)) (d3 : decode cc (pc + 3) = .ok (.dup, 1)) (d4 : decode cc (pc + 4) = .ok (.ldc is, 2)) (d6 : decode cc (pc + 6) = .ok (.invokespecial ic, 3)) (d9 : decode cc (pc + 9) = .ok (.athrow, 1))
    (hRf : names.length + 3 < R.frames) (hRl : (13 * (names.length + 1) + 43) ≤ R.locals) (hRc : 1 ≤ R.cells) (hRs : 6 ≤ R.slots) (hlocks : meth.locks = false) (hpx : px cls) (hc : 1 ≤ mc) (hs : 6 ≤ ms) :
    W p l e R s m args below meth c s.heap [] 0 0 (vx_MQ below Qc (th_X D A W0 px) args s mc ms A) (F0 m pc ls []) := by
  obtain ⟨sa, hstr⟩ := hT.2 _ h4
  refine vx_throwS hexec hb hl (own := RX6) (cls := cls) (text := text) (names := names) (ik := ik) (is := is) (ic := ic) (sa := sa) (A := A) hown hcls hnames (va_Nw.use rfl (hT.1 _ h1)) (va_Nw.use rfl (hT.1 _ h2)) hstr (fun w hw => ?_) (fun w hw => ?_) hZ.1 hZ.2 va_S.rf hsize d0 d3 d4 d6 d9 (fun x hx => (hnx x hx).elim) hRf (by simpa using hRl) (by simpa using hRc) (by simpa using hRs) hlocks (fun t _ hsz hq => ⟨hpx, hP.kept (fun k q hk => hq _ ((hP k q hk).lt)), hsz, fun q h9 _ => hq q h9⟩) (fun z hz => nomatch hz) (by simpa using hc) (by simpa using hs)
  · have := List.all_eq_true.mp thW_ok w (h3 w hw)
    rw [Bool.and_eq_true] at this
    exact va_Nw.use this.2 (hT.1 w (h3 w hw))
  · have hm : w ∈ thW := by
      rcases List.mem_cons.mp hw with h | h
      · rw [h]; exact h1
      · rcases List.mem_cons.mp h with h | h
        · rw [h]; exact h2
        · exact h3 w h
    have := List.all_eq_true.mp thW_ok w hm
    rw [Bool.and_eq_true] at this
    unfold vx_ot
    rw [this.2]; rfl
theorem th_goN {D : va_G} {A : Nat → Prop} {W0 : va_W} {px : String → Prop} {Qc : Array Value → State → Outcome → State → Prop} {text : String} {ik is ic mc ms : Nat} (hexec : p.tables.exec = Jvm.exec) (hb : c.code = cc) (hl : l.stackTraces = false)
    (hown : s.vm.findClass RX6 = some m.cls) (hnx : ∀ x ∈ c.exceptionTable.toList, False) (hT : tws s) (hZ : tzq A s s.heap) (hP : va_P D vwCl W0 s.heap) 
    (h1 : Cond.classLink RX6 ik nxN ∈ thW) (h2 : Cond.initialized nxN ∈ thW) (h3 : ∀ w ∈ nxf RX6 ic, w ∈ thW) (h4 : (is, text) ∈ thR) (hsize : ls.size = c.maxLocals)
    (d0 : decode cc pc = .ok (.new ik, 3)) (d3 : decode cc (pc + 3) = .ok (.dup, 1)) (d4 : decode cc (pc + 4) = .ok (.ldc is, 2)) (d6 : decode cc (pc + 6) = .ok (.invokespecial ic, 3)) (d9 : decode cc (pc + 9) = .ok (.athrow, 1))
    (hRf : 2 + 3 < R.frames) (hRl : (13 * (2 + 1) + 43) ≤ R.locals) (hRc : 1 ≤ R.cells) (hRs : 6 ≤ R.slots) (hlocks : meth.locks = false) (hpx : px nxN) (hc : 1 ≤ mc) (hs : 6 ≤ ms) :
    W p l e R s m args below meth c s.heap [] 0 0 (vx_MQ below Qc (th_X D A W0 px) args s mc ms A) (F0 m pc ls []) := by
  obtain ⟨sa, hstr⟩ := hT.2 _ h4
  refine nx_throw hexec hb hl (own := RX6) (text := text) (ik := ik) (is := is) (ic := ic) (sa := sa) (A := A) hown (va_Nw.use rfl (hT.1 _ h1)) (va_Nw.use rfl (hT.1 _ h2)) hstr (fun w hw => ?_) (fun w hw => ?_) hZ.1 hZ.2 va_S.rf hsize d0 d3 d4 d6 d9 (fun x hx => (hnx x hx).elim) hRf (by simpa using hRl) (by simpa using hRc) (by simpa using hRs) hlocks (fun t _ hsz hq => ⟨hpx, hP.kept (fun k q hk => hq _ ((hP k q hk).lt)), hsz, fun q h9 _ => hq q h9⟩) (fun z hz => nomatch hz) (by simpa using hc) (by simpa using hs)
  · have := List.all_eq_true.mp thW_ok w (h3 w hw)
    rw [Bool.and_eq_true] at this
    exact va_Nw.use this.2 (hT.1 w (h3 w hw))
  · have hm : w ∈ thW := by
      rcases List.mem_cons.mp hw with h | h
      · rw [h]; exact h1
      · rcases List.mem_cons.mp h with h | h
        · rw [h]; exact h2
        · exact h3 w h
    have := List.all_eq_true.mp thW_ok w hm
    rw [Bool.and_eq_true] at this
    unfold vx_ot
    rw [this.2]; rfl
end TH
theorem th_1 : ∀ w ∈ vx_atS RX6 56 RJx00060 thE, w ∈ thW := fun w h => List.mem_append_right _ (List.mem_append_left _ h)
theorem th_2 : ∀ w ∈ vx_atS RX6 63 "java/lang/IllegalArgumentException" thF, w ∈ thW := fun w h => List.mem_append_right _ (List.mem_append_right _ (List.mem_append_left _ h))
theorem th_3 : ∀ w ∈ vx_atS RX6 72 "java/lang/IllegalStateException" thF, w ∈ thW := fun w h => List.mem_append_right _ (List.mem_append_right _ (List.mem_append_right _ (List.mem_append_left _ h)))
theorem th_4 : ∀ w ∈ nxf RX6 77, w ∈ thW := fun w h => List.mem_append_right _ (List.mem_append_right _ (List.mem_append_right _ (List.mem_append_right _ (List.mem_append_left _ h))))
theorem th_5 : ∀ w ∈ vx_atS RX6 106 "java/lang/IndexOutOfBoundsException" thF, w ∈ thW := fun w h => List.mem_append_right _ (List.mem_append_right _ (List.mem_append_right _ (List.mem_append_right _ (List.mem_append_right _ h))))
theorem th_l : ∀ w ∈ thW.take 10, w ∈ thW := fun w h => List.mem_of_mem_take h
