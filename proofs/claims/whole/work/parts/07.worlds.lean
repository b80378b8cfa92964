/-! the two worlds, and what a writing method leaves -/
/-- the reference's cells -/
abbrev mW (ad : Nat → Nat) (cI cJ cB : ClassId) (th n t kp ma my rk : Nat) (G F T M WG GO Y V AT NX : Nat → Nat) : va_W :=
  [(ad 0, .inr (6, [.int (nI th), .int (nI n), .int (nI t), .ref (ad 3), .int (nI kp), .int (nI ma), .int (nI my), .ref (ad 7), .ref (ad 8), .ref (ad 9), .ref (ad 10), .int (nI rk), .ref (ad 12), .ref (ad 13), .ref (ad 14), .ref (ad 15), .ref (ad 16)])),
   (ad 3, .inl (cI, 16, .inl (fun j => nI (G j)))), (ad 7, .inl (cI, 31, .inl (fun j => nI (F j)))), (ad 8, .inl (cI, 31, .inl (fun j => nI (T j)))), (ad 9, .inl (cI, 31, .inl (fun j => nI (M j)))), (ad 10, .inl (cI, 16, .inl (fun j => nI (WG j)))), (ad 12, .inl (cI, 8, .inl (fun j => nI (GO j)))),
   (ad 13, .inl (cJ, 131072, .inr (.inl (fun j => lN (Y j))))), (ad 14, .inl (cB, 131072, .inl (fun j => nI (V j)))), (ad 15, .inl (cJ, 32, .inr (.inl (fun j => lN (AT j))))), (ad 16, .inl (cI, 32, .inl (fun j => nI (NX j))))]
/-- the class's cells -/
abbrev cW (ad : Nat → Nat) (cI cJ : ClassId) (n t : Nat) (P HT RK GP : Nat → Nat) (sm : Int32) (F T M ST : Nat → Nat) (ln mn : Int32) (E : Nat → Nat) : va_W :=
  [(ad 0, .inr (5, [.int (nI n), .int (nI t), .ref (ad 1), .ref (ad 2), .ref (ad 3), .ref (ad 6), .ref (ad 7)])),
   (ad 1, .inl (cI, 16, .inl (fun j => nI (P j)))), (ad 2, .inl (cI, 4, .inl (fun j => nI (HT j)))),
   (ad 3, .inr (2, [.ref (ad 4), .ref (ad 5)])), (ad 4, .inl (cI, 21, .inl (fun j => nI (RK j)))), (ad 5, .inl (cI, 7, .inl (fun j => nI (GP j)))),
   (ad 6, .inr (3, [.int (nI n), .int (nI t), .ref (ad 7), .ref (ad 12), .int sm])),
   (ad 7, .inr (4, [.ref (ad 8), .ref (ad 9), .ref (ad 10), .ref (ad 11), .int ln, .int mn])),
   (ad 8, .inl (cI, 30, .inl (fun j => nI (F j)))), (ad 9, .inl (cI, 30, .inl (fun j => nI (T j)))), (ad 10, .inl (cI, 30, .inl (fun j => nI (M j)))), (ad 11, .inl (cI, 16, .inl (fun j => nI (ST j)))),
   (ad 12, .inr (1, [.ref (ad 13)])), (ad 13, .inl (cJ, 1024, .inr (.inl (fun j => lN (E j)))))]
def wr_Q (D : va_G) (A : Nat → Prop) (post : Option Value → va_W → Prop) : Array Value → State → Outcome → State → Prop := fun _ st oc t => ∃ (r : Option Value) (W1 : va_W), oc = .returned r ∧ post r W1 ∧ va_P D vwCl W1 t.heap ∧ va_D A W1 ∧ va_F A st t
/-- a method's start over a world -/
abbrev wr_P (D : va_G) (tys : List (ClassId × FieldType)) (W0 : va_W) (sz : Nat) (U : State) : Prop := U.heap.size = sz ∧ va_P D vwCl W0 U.heap ∧ va_K D vwCl tys U ∧ va_D (fun _ => True) W0
theorem wr_blind {D : va_G} {tys : List (ClassId × FieldType)} {W0 : va_W} {sz : Nat} {av : List Value} : FrameBlind (va_Pc av (wr_P D tys W0 sz)) := fun a U g mk q => ⟨q.1, q.2.1, q.2.2.1, va_K.moved (u := U) (U := U.calling g mk a) (Vm.Alike.refl U.vm) q.2.2.2.1, q.2.2.2.2⟩
theorem ro_blind {D : va_G} {tys : List (ClassId × FieldType)} {W0 : va_W} {av : List Value} : FrameBlind (va_Pc av (fun U => va_P D vwCl W0 U.heap ∧ va_K D vwCl tys U)) := fun a U g mk q => ⟨q.1, q.2.1, va_K.moved (u := U) (U := U.calling g mk a) (Vm.Alike.refl U.vm) q.2.2⟩
section WR
variable {p : Program} {l : Launch} {e : Env} {R : Room} {s : State} {m : MethodId} {args : Array Value} {below : List Frame} {meth : Method} {c : Code} {H : Heap} {locs : List Loc} {cells slots : Nat} {Q : State → Prop}
variable {cc : ByteArray} {pc : Nat} {ls : Array Slot} {rest st0 : List Value}
theorem wr_go {a : Array Value} {D : va_G} {A1 A0 : Nat → Prop} {H0 : Heap} {mc ms : Nat} {post : Option Value → va_W → Prop} {free : Addr → Prop} (hr : va_Run p l e R s m args below meth c H locs cells slots mc ms (F0 m pc ls st0) rest (wr_Q D A1 post a) free) (hS : va_S A0 H0 H locs) (hA : ∀ q, A1 q → A0 q) (hf : ∀ q, free q → A0 q)
    (kk : ∀ (r : Option Value) (W1 : va_W) (H1 : Heap) (locs1 : List Loc), post r W1 → va_P D vwCl W1 H1 → va_D A1 W1 → H.size ≤ H1.size → (∀ q : Nat, q < H.size → ¬ A1 q → H1[q]? = H[q]?) → va_S A0 H0 H1 locs1 → W p l e R s m args below meth c H1 locs1 (cells + mc) (slots + ms) Q (F0 m (pc + 3) ls (r.toList ++ rest))) : W p l e R s m args below meth c H locs cells slots Q (F0 m pc ls st0) := by
  intro T hT X
  obtain ⟨v, st₀, t, T', L, h0, X', hL, e1, e2, ⟨r, W1, hv, hp, hP1, hD1, hz, hk⟩, st⟩ := hr T hT X
  cases hv
  rw [h0] at hz hk
  obtain ⟨t2, a1, b1⟩ := kk v W1 T'.heap (locs ++ L) hp (by rw [e1]; exact hP1) hD1 (by rw [e1]; exact hz) (fun q h1 h2 => by rw [e1]; exact hk q h1 h2)
    ⟨Nat.le_trans hS.1 (by rw [e1]; exact hz), fun q h1 h2 => by rw [e1, hk q (Nat.lt_of_lt_of_le h1 hS.1) (fun z => h2 (hA q z))]; exact hS.2.1 q h1 h2, fun q hq => by
      rcases List.mem_append.mp hq with h | h
      · exact hS.2.2 q h
      · exact hf _ (hL q h)⟩ T' rfl X'
  exact ⟨t2, st t2 a1, b1⟩
variable {D : va_G} {cl : List vw_C} {tys : List (ClassId × FieldType)} {ws : va_W} {A : Nat → Prop} {H0 : Heap}
theorem wk_iast (hexec : p.tables.exec = Jvm.exec) (hb : c.code = cc) (hK : va_K D cl tys s) (hP : va_P D cl ws H) (hD : va_D A ws) (hS : va_S A H0 H locs) (q0 t0 : Nat) {a : Nat} {cA : ClassId} {n : Nat} {f : Nat → Nat} (ha : ws[q0]? = some (a, .inl (cA, n, .inl (fun j => nI (f j))))) (ht : tys[t0]? = some (cA, .int)) {i x : Nat} (hin : i < n ∧ n < 2147483648) (hdg : decode cc pc = .ok (.iastore, 1))
    (kk : ∀ (H1 : Heap) (locs1 : List Loc), va_P D cl (ws.set q0 (a, .inl (cA, n, .inl (fun j => nI (upN f i x j))))) H1 → va_D A (ws.set q0 (a, .inl (cA, n, .inl (fun j => nI (upN f i x j))))) → va_S A H0 H1 locs1 → W p l e R s m args below meth c H1 locs1 cells slots Q (F0 m (pc + 1) ls rest)) : W p l e R s m args below meth c H locs cells slots Q (F0 m pc ls (.int (nI x) :: .int (nI i) :: .ref a :: rest)) :=
  va_iast hexec hb hK hP hD hS q0 t0 ha ht (vp_in_nI hin.1 hin.2) hdg (fun H1 l1 h1 h2 h3 => by
    rw [nI_clamp (by have := hin.1; have := hin.2; omega), upN_I] at h1 h2
    exact kk H1 l1 h1 h2 h3)
theorem wk_last (hexec : p.tables.exec = Jvm.exec) (hb : c.code = cc) (hK : va_K D cl tys s) (hP : va_P D cl ws H) (hD : va_D A ws) (hS : va_S A H0 H locs) (q0 t0 : Nat) {a : Nat} {cA : ClassId} {n : Nat} {f : Nat → Nat} (ha : ws[q0]? = some (a, .inl (cA, n, .inr (.inl (fun j => lN (f j)))))) (ht : tys[t0]? = some (cA, .long)) {i x : Nat} (hin : i < n ∧ n < 2147483648) (hdg : decode cc pc = .ok (.lastore, 1))
    (kk : ∀ (H1 : Heap) (locs1 : List Loc), va_P D cl (ws.set q0 (a, .inl (cA, n, .inr (.inl (fun j => lN (upN f i x j)))))) H1 → va_D A (ws.set q0 (a, .inl (cA, n, .inr (.inl (fun j => lN (upN f i x j)))))) → va_S A H0 H1 locs1 → W p l e R s m args below meth c H1 locs1 cells slots Q (F0 m (pc + 1) ls rest)) : W p l e R s m args below meth c H locs cells slots Q (F0 m pc ls (.long (lN x) :: .int (nI i) :: .ref a :: rest)) :=
  va_last hexec hb hK hP hD hS q0 t0 ha ht (vp_in_nI hin.1 hin.2) hdg (fun H1 l1 h1 h2 h3 => by
    rw [nI_clamp (by have := hin.1; have := hin.2; omega), upN_L] at h1 h2
    exact kk H1 l1 h1 h2 h3)
theorem nar_b : ∀ x, x < 128 → vp_nar .byte (nI x) = nI x := by
  intro x hx
  rw [vp_nar_byte]
  have h : ∀ y : Fin 128, (nI y.val).toInt8.toInt32 = nI y.val := by decide +kernel
  exact h ⟨x, hx⟩
theorem wk_bast (hexec : p.tables.exec = Jvm.exec) (hb : c.code = cc) (hK : va_K D cl tys s) (hP : va_P D cl ws H) (hD : va_D A ws) (hS : va_S A H0 H locs) (q0 t0 : Nat) {a : Nat} {cA : ClassId} {n : Nat} {f : Nat → Nat} (ha : ws[q0]? = some (a, .inl (cA, n, .inl (fun j => nI (f j))))) (ht : tys[t0]? = some (cA, .byte)) {i x : Nat} (hin : i < n ∧ n < 2147483648) (hx8 : x < 128) (hdg : decode cc pc = .ok (.bastore, 1))
    (kk : ∀ (H1 : Heap) (locs1 : List Loc), va_P D cl (ws.set q0 (a, .inl (cA, n, .inl (fun j => nI (upN f i x j))))) H1 → va_D A (ws.set q0 (a, .inl (cA, n, .inl (fun j => nI (upN f i x j))))) → va_S A H0 H1 locs1 → W p l e R s m args below meth c H1 locs1 cells slots Q (F0 m (pc + 1) ls rest)) : W p l e R s m args below meth c H locs cells slots Q (F0 m pc ls (.int (nI x) :: .int (nI i) :: .ref a :: rest)) :=
  va_bast hexec hb hK hP hD hS q0 t0 ha ht (vp_in_nI hin.1 hin.2) hdg (fun H1 l1 h1 h2 h3 => by
    rw [nI_clamp (by have := hin.1; have := hin.2; omega), nar_b x hx8, upN_I] at h1 h2
    exact kk H1 l1 h1 h2 h3)
theorem wk_i2b (hexec : p.tables.exec = Jvm.exec) (hb : c.code = cc) {x : Nat} (hx : x < 128) (hdg : decode cc pc = .ok (.i2b, 1)) (k : W p l e R s m args below meth c H locs cells slots Q (F0 m (pc + 1) ls (.int (nI x) :: rest))) : W p l e R s m args below meth c H locs cells slots Q (F0 m pc ls (.int (nI x) :: rest)) :=
  lv_i2b hexec hb hdg (by have := nar_b x hx; rw [vp_nar_byte] at this; exact this) k
end WR
theorem bn_fits (P : Prop) [Decidable P] : fits .boolean (.int (nI (bn P))) = true := by
  by_cases h : P
  · rw [bn_t h]; decide +kernel
  · rw [bn_f h]; decide +kernel
