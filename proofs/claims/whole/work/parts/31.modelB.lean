set_option maxHeartbeats 4000000 in
set_option maxRecDepth 100000 in
theorem c_X7_target (l : Launch) (dC : Nat → ClassId) (dI : Nat → Nat → Nat) (ws : va_W) (tys : List (ClassId × FieldType)) (h0 : Nat) (fs : List Value) (hw0 : ws[0]? = some (h0, .inr (6, fs))) (n : Nat) (hf1 : fs[1]? = some (.int (nI n))) (hn0 : 2 ≤ n ∧ n ≤ 4) (t : Nat) (hf2 : fs[2]? = some (.int (nI t))) (ht0 : 2 ≤ t ∧ t ≤ 4) (x fr b : Nat) (hx0 : x < 2 ^ 48) (hf0 : fr < 4) (hb0 : b < 8) : Met l yX7_target wsX7_target ({ frames := 2, cells := 0, slots := 0, locals := 48 }) (va_Pc [.ref h0, .long (lN x), .int (nI fr), .int (nI b)] (fun U => va_P (dC, dI) vwCl ws U.heap ∧ va_K (dC, dI) vwCl tys U)) (pu_Q (.int (oN (mtgt x fr b n t)))) 0 0 (fun _ => False) := by
  refine Met.ofW (cc := cX7_target) (maxL := 9) (ret := (some .int)) (by decide) rfl ?_
  intro p e s m args below meth c s₁ B hml hv
  obtain ⟨rfl, hP, hK⟩ := hv
  have hx := B.exec
  have hb := B.bytes
  have hr := B.returns
  have hts := atoms_spec (ws := wsX7_target) B.pre
  have hown : s.vm.findClass RX7 = some m.cls := findClass_of_methodNamed B.named
  have hlocks := B.notSynchronized
  have hinX7 : ∀ w ∈ u_ws RX7 TX7 17, w ∈ wsX7_target := by decide +kernel
  have hl := lv_entry ([.ref h0, .long (lN x), .int (nI fr), .int (nI b)]) (n := 9) (Nat.le_of_ble_eq_true rfl)
  rw [lg_entry_eq]
  generalize (lg_sl ([.ref h0, .long (lN x), .int (nI fr), .int (nI b)]) ++ List.replicate (9 - (lg_sl ([.ref h0, .long (lN x), .int (nI fr), .int (nI b)])).length) Slot.unset).toArray = ls at hl ⊢
  have hl : lv_has ls 9 [(0, .ref h0), (1, .long (lN x)), (3, .int (nI fr)), (4, .int (nI b))] := hl
  refine lv_iconst (v := -1) hx hb dX7_target_0 (by decide +kernel) ?_
  refine lv_istore (lv' := [(5, .int (-1)), (0, .ref h0), (1, .long (lN x)), (3, .int (nI fr)), (4, .int (nI b))]) hx hb dX7_target_1 hl (by decide) rfl (fun ls hl => ?_)
  refine lv_iconst (v := -1) hx hb dX7_target_3 (by decide +kernel) ?_
  refine lv_istore (lv' := [(6, .int (-1)), (5, .int (-1)), (0, .ref h0), (1, .long (lN x)), (3, .int (nI fr)), (4, .int (nI b))]) hx hb dX7_target_4 hl (by decide) rfl (fun ls hl => ?_)
  refine lv_aload_n hx hb dX7_target_6 rfl (lv_at hl 2 rfl) ?_
  refine va_get (D := (dC, dI)) (ci := 6) (v := .int (nI n)) (C := RX7) (T := TX7) (N := 17) hx hb hts hinX7 hown hK hP 0 hw0 rfl 1 (by decide) (hts (.fieldLink RX7 43 "ReshuffleSearchModel" "stacks" "I") (by decide +kernel)) (fun _ h9 => h9) hf1 dX7_target_7 ?_
  refine lv_iconst (v := nI 1) hx hb dX7_target_10 (by decide +kernel) ?_
  refine wk_isub hx hb (by omega) dX7_target_11 ?_
  refine lv_istore (lv' := [(7, .int (nI (n - 1))), (6, .int (-1)), (5, .int (-1)), (0, .ref h0), (1, .long (lN x)), (3, .int (nI fr)), (4, .int (nI b))]) hx hb dX7_target_12 hl (by decide) rfl (fun ls hl => ?_)
  have cut_14 : ∀ (n_14 : Nat) (i : Nat) (k : Nat) (v14_1 : Int64) (v14_3 : Int32) (v14_4 : Int32) (v14_5 : Int32) (v14_6 : Int32) (v14_7 : Int32) (ls : Array Slot) (hk : i + k = n) (hn_14 : k < n_14) (_ : v14_1 = lN x) (_ : v14_3 = nI fr) (_ : v14_4 = nI b) (_ : v14_5 = oN ((mtg x fr b n t i).1)) (_ : v14_6 = oN ((mtg x fr b n t i).2)) (_ : v14_7 = nI k - nI 1) (_ : lv_has ls 9 [(0, .ref h0), (1, .long v14_1), (3, .int v14_3), (4, .int v14_4), (5, .int v14_5), (6, .int v14_6), (7, .int v14_7)]), W p l e (headSpec wsX7_target ({ frames := 2, cells := 0, slots := 0, locals := 48 })).room s m ([.ref h0, .long (lN x), .int (nI fr), .int (nI b)] : List Value).toArray below meth c s.heap [] 0 0 (MQ below (pu_Q (.int (oN (mtgt x fr b n t)))) ([.ref h0, .long (lN x), .int (nI fr), .int (nI b)] : List Value).toArray s 0 0 (fun _ => False)) (F0 m 14 ls []) := by
    intro n_14
    induction n_14 with
    | zero => intros; omega
    | succ n_14 ih_14 =>
      rintro i k v14_1 v14_3 v14_4 v14_5 v14_6 v14_7 ls hk hn_14 rfl rfl rfl rfl rfl rfl hl
      have hq3 := mtg_ok x fr b t (n := n) i (by omega)
      refine lv_iload hx hb dX7_target_14 (lv_at hl 6 rfl) ?_
      refine lv_if_lt (tgt := 106) hx hb dX7_target_16 (by decide) (fun c_16 => ?_) (fun c_16 => ?_)
      · have hk0 := (wk_m1lt (k := k) (by omega)).mp c_16
        have hin9 : i = n := by omega
        refine lv_iload hx hb dX7_target_106 (lv_at hl 4 rfl) ?_
        refine lv_if_lt (tgt := 116) hx hb dX7_target_108 (by decide) (fun c_108 => ?_) (fun c_108 => ?_)
        · have hq5 := (oN_lt0 (fun k h => by have := hq3.1 k h; omega)).mp c_108
          refine lv_iload hx hb dX7_target_116 (lv_at hl 5 rfl) ?_
          refine wk_ti (v' := oN (mtgt x fr b n t)) (by unfold mtgt; rw [hin9] at hq5 ⊢; rw [if_pos hq5]) ?_
          exact W.iret hx hb hr (fun t9 ht _ => ⟨rfl, ht⟩) (fun _ h => nomatch h) dX7_target_118
        · have hq5 := fun q => c_108 ((oN_lt0 (fun k h => by have := hq3.1 k h; omega)).mpr q)
          refine lv_iload hx hb dX7_target_111 (lv_at hl 4 rfl) ?_
          refine lv_goto (tgt := 118) hx hb dX7_target_113 (by decide) ?_
          refine wk_ti (v' := oN (mtgt x fr b n t)) (by unfold mtgt; rw [hin9] at hq5 ⊢; rw [if_neg hq5]) ?_
          exact W.iret hx hb hr (fun t9 ht _ => ⟨rfl, ht⟩) (fun _ h => nomatch h) dX7_target_118
      · obtain ⟨j, rfl⟩ : ∃ j, k = j + 1 := ⟨k - 1, by have : k ≠ 0 := fun q => c_16 ((wk_m1lt (k := k) (by omega)).mpr q); omega⟩
        have hji : n - 1 - i = j := by omega
        have hq1 := mlo_le x j t
        have hq2 := mht_le x j t
        have hl : lv_has ls 9 [(0, .ref h0), (1, .long (lN x)), (3, .int (nI fr)), (4, .int (nI b)), (5, .int (oN ((mtg x fr b n t i).1))), (6, .int (oN ((mtg x fr b n t i).2))), (7, .int (nI j))] := by rw [show nI (j + 1) - nI 1 = nI j from pk_sub (by omega)] at hl; exact hl
        have cut_100 : ∀ (v100_1 : Int64) (v100_3 : Int32) (v100_4 : Int32) (v100_5 : Int32) (v100_6 : Int32) (v100_7 : Int32) (ls : Array Slot) (_ : v100_1 = lN x) (_ : v100_3 = nI fr) (_ : v100_4 = nI b) (_ : v100_5 = oN ((mtg x fr b n t (i + 1)).1)) (_ : v100_6 = oN ((mtg x fr b n t (i + 1)).2)) (_ : v100_7 = nI j) (_ : lv_has ls 9 [(0, .ref h0), (1, .long v100_1), (3, .int v100_3), (4, .int v100_4), (5, .int v100_5), (6, .int v100_6), (7, .int v100_7)]), W p l e (headSpec wsX7_target ({ frames := 2, cells := 0, slots := 0, locals := 48 })).room s m ([.ref h0, .long (lN x), .int (nI fr), .int (nI b)] : List Value).toArray below meth c s.heap [] 0 0 (MQ below (pu_Q (.int (oN (mtgt x fr b n t)))) ([.ref h0, .long (lN x), .int (nI fr), .int (nI b)] : List Value).toArray s 0 0 (fun _ => False)) (F0 m 100 ls []) := by
          rintro v100_1 v100_3 v100_4 v100_5 v100_6 v100_7 ls rfl rfl rfl rfl rfl rfl hl
          refine lv_iinc (v := nI j - nI 1) (lv' := [(7, .int (nI j - nI 1)), (0, .ref h0), (1, .long (lN x)), (3, .int (nI fr)), (4, .int (nI b)), (5, .int (oN ((mtg x fr b n t (i + 1)).1))), (6, .int (oN ((mtg x fr b n t (i + 1)).2)))]) hx hb dX7_target_100 hl (k := 6) rfl (by rw [Int32.sub_eq_add_neg]; rfl) (by decide) rfl (fun ls hl => ?_)
          refine lv_goto (tgt := 14) hx hb dX7_target_103 (by decide) ?_
          exact ih_14 (i + 1) j _ _ _ _ _ _ ls (by omega) (by omega) (rfl) (rfl) (rfl) (rfl) (rfl) (rfl) (lv_sub hl [1, 2, 3, 4, 5, 6, 0] rfl)
        refine lv_iload hx hb dX7_target_19 (lv_at hl 6 rfl) ?_
        refine lv_iload_n hx hb dX7_target_21 rfl (lv_at hl 2 rfl) ?_
        refine wk_icmp_eq (tgt := 100) hx hb (by omega) (by omega) dX7_target_22 (by decide) (fun c_22 => ?_) (fun c_22 => ?_)
        · exact cut_100 _ _ _ _ _ _ ls (rfl) (rfl) (rfl) (by rw [mtg_s, hji, if_pos (Or.inl c_22)]) (by rw [mtg_s, hji, if_pos (Or.inl c_22)]) (rfl) (lv_sub hl [0, 1, 2, 3, 4, 5, 6] rfl)
        · refine lv_aload_n hx hb dX7_target_25 rfl (lv_at hl 0 rfl) ?_
          refine lv_lload_n hx hb dX7_target_26 rfl (lv_at hl 1 rfl) ?_
          refine lv_iload hx hb dX7_target_27 (lv_at hl 6 rfl) ?_
          refine pu_go (va_runV (As := [.long (lN x), .int (nI j)]) (rest := []) ⟨hx, hb, hml, hown, hts⟩ (c_X7_height l dC dI ws tys h0 fs hw0 t hf2 ht0 x j (by first | omega | assumption) (by first | omega | assumption)) (cwV 2 hts gX7_target_X7_height rfl rfl rfl (by decide +kernel) ⟨Nat.le_of_ble_eq_true rfl, Nat.le_of_ble_eq_true rfl⟩) ⟨fun a U g mk q => ⟨q.1, q.2.1, va_K.moved (u := U) (U := U.calling g mk a) (Vm.Alike.refl U.vm) q.2.2⟩, va_recv hK hP (ci := 6) (q0 := 0) rfl hw0, fun U hU hW => ⟨rfl, by rw [hU]; exact hP, va_K.moved hW.alike hK⟩⟩ rfl rfl hl.1 rfl (lv_room (Nat.le_of_ble_eq_true rfl)) dX7_target_29 ⟨Nat.le_refl _, Nat.le_refl _⟩) ?_
          refine lv_aload_n hx hb dX7_target_32 rfl (lv_at hl 0 rfl) ?_
          refine va_get (D := (dC, dI)) (ci := 6) (v := .int (nI t)) (C := RX7) (T := TX7) (N := 17) hx hb hts hinX7 hown hK hP 0 hw0 rfl 2 (by decide) (hts (.fieldLink RX7 47 "ReshuffleSearchModel" "tiers" "I") (by decide +kernel)) (fun _ h9 => h9) hf2 dX7_target_33 ?_
          refine wk_icmp_ne (tgt := 42) hx hb (by omega) (by omega) dX7_target_36 (by decide) (fun c_36 => ?_) (fun c_36 => ?_)
          · refine lv_aload_n hx hb dX7_target_42 rfl (lv_at hl 0 rfl) ?_
            refine lv_lload_n hx hb dX7_target_43 rfl (lv_at hl 1 rfl) ?_
            refine lv_iload hx hb dX7_target_44 (lv_at hl 6 rfl) ?_
            refine pu_go (va_runV (As := [.long (lN x), .int (nI j)]) (rest := []) ⟨hx, hb, hml, hown, hts⟩ (c_X7_leastOf l dC dI ws tys h0 fs hw0 t hf2 ht0 x j (by first | omega | assumption) (by first | omega | assumption)) (cwV 2 hts gX7_target_X7_leastOf rfl rfl rfl (by decide +kernel) ⟨Nat.le_of_ble_eq_true rfl, Nat.le_of_ble_eq_true rfl⟩) ⟨fun a U g mk q => ⟨q.1, q.2.1, va_K.moved (u := U) (U := U.calling g mk a) (Vm.Alike.refl U.vm) q.2.2⟩, va_recv hK hP (ci := 6) (q0 := 0) rfl hw0, fun U hU hW => ⟨rfl, by rw [hU]; exact hP, va_K.moved hW.alike hK⟩⟩ rfl rfl hl.1 rfl (lv_room (Nat.le_of_ble_eq_true rfl)) dX7_target_46 ⟨Nat.le_refl _, Nat.le_refl _⟩) ?_
            refine lv_istore (lv' := [(8, .int (nI (mlo x j t))), (0, .ref h0), (1, .long (lN x)), (3, .int (nI fr)), (4, .int (nI b)), (5, .int (oN ((mtg x fr b n t i).1))), (6, .int (oN ((mtg x fr b n t i).2))), (7, .int (nI j))]) hx hb dX7_target_49 hl (by decide) rfl (fun ls hl => ?_)
            have cut_79 : ∀ (v79_1 : Int64) (v79_3 : Int32) (v79_4 : Int32) (v79_5 : Int32) (v79_6 : Int32) (v79_7 : Int32) (v79_8 : Int32) (ls : Array Slot) (_ : v79_1 = lN x) (_ : v79_3 = nI fr) (_ : v79_4 = nI b) (_ : v79_5 = oN (mfit x t b j ((mtg x fr b n t i).1))) (_ : v79_6 = oN ((mtg x fr b n t i).2)) (_ : v79_7 = nI j) (_ : v79_8 = nI (mlo x j t)) (_ : lv_has ls 9 [(0, .ref h0), (1, .long v79_1), (3, .int v79_3), (4, .int v79_4), (5, .int v79_5), (6, .int v79_6), (7, .int v79_7), (8, .int v79_8)]), W p l e (headSpec wsX7_target ({ frames := 2, cells := 0, slots := 0, locals := 48 })).room s m ([.ref h0, .long (lN x), .int (nI fr), .int (nI b)] : List Value).toArray below meth c s.heap [] 0 0 (MQ below (pu_Q (.int (oN (mtgt x fr b n t)))) ([.ref h0, .long (lN x), .int (nI fr), .int (nI b)] : List Value).toArray s 0 0 (fun _ => False)) (F0 m 79 ls []) := by
              rintro v79_1 v79_3 v79_4 v79_5 v79_6 v79_7 v79_8 ls rfl rfl rfl rfl rfl rfl rfl hl
              refine lv_iload hx hb dX7_target_79 (lv_at hl 5 rfl) ?_
              refine lv_if_lt (tgt := 96) hx hb dX7_target_81 (by decide) (fun c_81 => ?_) (fun c_81 => ?_)
              · have hq6 := (oN_lt0 (fun k h => by have := hq3.2 k h; omega)).mp c_81
                refine lv_iload hx hb dX7_target_96 (lv_at hl 6 rfl) ?_
                refine lv_istore (lv' := [(6, .int (nI j)), (0, .ref h0), (1, .long (lN x)), (3, .int (nI fr)), (4, .int (nI b)), (5, .int (oN (mfit x t b j ((mtg x fr b n t i).1)))), (7, .int (nI j)), (8, .int (nI (mlo x j t)))]) hx hb dX7_target_98 hl (by decide) rfl (fun ls hl => ?_)
                exact cut_100 _ _ _ _ _ _ ls (rfl) (rfl) (rfl) (by rw [mtg_s, hji, if_neg (fun q => q.elim c_22 c_36)]) (by rw [mtg_s, hji, if_neg (fun q => q.elim c_22 c_36)]; unfold mopn; first | (rw [hq6, if_pos (show mq0 x t none ≤ mlo x j t from Nat.zero_le _)]; done) | (rw [hq6, if_pos (show mq0 x t none ≤ mlo x j t from Nat.zero_le _)]; rfl) | (rw [h8, if_pos (by show mlo x q8 t ≤ mlo x j t; omega)]; done) | (rw [h8, if_pos (by show mlo x q8 t ≤ mlo x j t; omega)]; rfl)) (rfl) (lv_sub hl [1, 2, 3, 4, 5, 0, 6] rfl)
              · obtain ⟨q8, h8⟩ : ∃ q8, (mtg x fr b n t i).2 = some q8 := by
                  cases h : (mtg x fr b n t i).2 with
                  | none => rw [h] at c_81; exact absurd (by decide) c_81
                  | some q8 => exact ⟨q8, rfl⟩
                have hq8 := hq3.2 q8 h8
                have hq11 := mlo_le x q8 t
                have hl : lv_has ls 9 [(0, .ref h0), (1, .long (lN x)), (3, .int (nI fr)), (4, .int (nI b)), (5, .int (oN (mfit x t b j ((mtg x fr b n t i).1)))), (6, .int (nI q8)), (7, .int (nI j)), (8, .int (nI (mlo x j t)))] := by rw [h8] at hl; exact hl
                refine lv_iload hx hb dX7_target_84 (lv_at hl 7 rfl) ?_
                refine lv_aload_n hx hb dX7_target_86 rfl (lv_at hl 0 rfl) ?_
                refine lv_lload_n hx hb dX7_target_87 rfl (lv_at hl 1 rfl) ?_
                refine lv_iload hx hb dX7_target_88 (lv_at hl 5 rfl) ?_
                refine pu_go (va_runV (As := [.long (lN x), .int (nI q8)]) (rest := [.int (nI (mlo x j t))]) ⟨hx, hb, hml, hown, hts⟩ (c_X7_leastOf l dC dI ws tys h0 fs hw0 t hf2 ht0 x q8 (by first | omega | assumption) (by first | omega | assumption)) (cwV 2 hts gX7_target_X7_leastOf rfl rfl rfl (by decide +kernel) ⟨Nat.le_of_ble_eq_true rfl, Nat.le_of_ble_eq_true rfl⟩) ⟨fun a U g mk q => ⟨q.1, q.2.1, va_K.moved (u := U) (U := U.calling g mk a) (Vm.Alike.refl U.vm) q.2.2⟩, va_recv hK hP (ci := 6) (q0 := 0) rfl hw0, fun U hU hW => ⟨rfl, by rw [hU]; exact hP, va_K.moved hW.alike hK⟩⟩ rfl rfl hl.1 rfl (lv_room (Nat.le_of_ble_eq_true rfl)) dX7_target_90 ⟨Nat.le_refl _, Nat.le_refl _⟩) ?_
                refine wk_icmp_lt (tgt := 100) hx hb (by omega) (by omega) dX7_target_93 (by decide) (fun c_93 => ?_) (fun c_93 => ?_)
                · exact cut_100 _ _ _ _ _ _ ls (rfl) (rfl) (rfl) (by rw [mtg_s, hji, if_neg (fun q => q.elim c_22 c_36)]) (by rw [mtg_s, hji, if_neg (fun q => q.elim c_22 c_36)]; unfold mopn; rw [h8, if_neg (by show ¬ mlo x q8 t ≤ mlo x j t; omega)]; rfl) (rfl) (lv_sub hl [0, 1, 2, 3, 4, 5, 6] rfl)
                · refine lv_iload hx hb dX7_target_96 (lv_at hl 6 rfl) ?_
                  refine lv_istore (lv' := [(6, .int (nI j)), (0, .ref h0), (1, .long (lN x)), (3, .int (nI fr)), (4, .int (nI b)), (5, .int (oN (mfit x t b j ((mtg x fr b n t i).1)))), (7, .int (nI j)), (8, .int (nI (mlo x j t)))]) hx hb dX7_target_98 hl (by decide) rfl (fun ls hl => ?_)
                  exact cut_100 _ _ _ _ _ _ ls (rfl) (rfl) (rfl) (by rw [mtg_s, hji, if_neg (fun q => q.elim c_22 c_36)]) (by rw [mtg_s, hji, if_neg (fun q => q.elim c_22 c_36)]; unfold mopn; first | (rw [hq6, if_pos (show mq0 x t none ≤ mlo x j t from Nat.zero_le _)]; done) | (rw [hq6, if_pos (show mq0 x t none ≤ mlo x j t from Nat.zero_le _)]; rfl) | (rw [h8, if_pos (by show mlo x q8 t ≤ mlo x j t; omega)]; done) | (rw [h8, if_pos (by show mlo x q8 t ≤ mlo x j t; omega)]; rfl)) (rfl) (lv_sub hl [1, 2, 3, 4, 5, 0, 6] rfl)
            refine lv_iload hx hb dX7_target_51 (lv_at hl 0 rfl) ?_
            refine lv_iload hx hb dX7_target_53 (lv_at hl 4 rfl) ?_
            refine wk_icmp_lt (tgt := 79) hx hb (by omega) (by omega) dX7_target_55 (by decide) (fun c_55 => ?_) (fun c_55 => ?_)
            · exact cut_79 _ _ _ _ _ _ _ ls (rfl) (rfl) (rfl) (by unfold mfit; rw [if_neg (by omega)]) (rfl) (rfl) (rfl) (lv_sub hl [1, 2, 3, 4, 5, 6, 7, 0] rfl)
            · refine lv_iload hx hb dX7_target_58 (lv_at hl 5 rfl) ?_
              refine lv_if_lt (tgt := 75) hx hb dX7_target_60 (by decide) (fun c_60 => ?_) (fun c_60 => ?_)
              · have hq5 := (oN_lt0 (fun k h => by have := hq3.1 k h; omega)).mp c_60
                refine lv_iload hx hb dX7_target_75 (lv_at hl 7 rfl) ?_
                refine lv_istore (lv' := [(5, .int (nI j)), (8, .int (nI (mlo x j t))), (0, .ref h0), (1, .long (lN x)), (3, .int (nI fr)), (4, .int (nI b)), (6, .int (oN ((mtg x fr b n t i).2))), (7, .int (nI j))]) hx hb dX7_target_77 hl (by decide) rfl (fun ls hl => ?_)
                exact cut_79 _ _ _ _ _ _ _ ls (rfl) (rfl) (rfl) (by unfold mfit; first | (rw [hq5, if_pos ⟨by omega, by show mlo x j t ≤ 100; omega⟩]; done) | (rw [hq5, if_pos ⟨by omega, by show mlo x j t ≤ 100; omega⟩]; rfl) | (rw [h9, if_pos ⟨by omega, by show mlo x j t ≤ mlo x q9 t; omega⟩]; done) | (rw [h9, if_pos ⟨by omega, by show mlo x j t ≤ mlo x q9 t; omega⟩]; rfl)) (rfl) (rfl) (rfl) (lv_sub hl [2, 3, 4, 5, 0, 6, 7, 1] rfl)
              · obtain ⟨q9, h9⟩ : ∃ q9, (mtg x fr b n t i).1 = some q9 := by
                  cases h : (mtg x fr b n t i).1 with
                  | none => rw [h] at c_60; exact absurd (by decide) c_60
                  | some q9 => exact ⟨q9, rfl⟩
                have hq9 := hq3.1 q9 h9
                have hq10 := mlo_le x q9 t
                have hl : lv_has ls 9 [(8, .int (nI (mlo x j t))), (0, .ref h0), (1, .long (lN x)), (3, .int (nI fr)), (4, .int (nI b)), (5, .int (nI q9)), (6, .int (oN ((mtg x fr b n t i).2))), (7, .int (nI j))] := by rw [h9] at hl; exact hl
                refine lv_iload hx hb dX7_target_63 (lv_at hl 0 rfl) ?_
                refine lv_aload_n hx hb dX7_target_65 rfl (lv_at hl 1 rfl) ?_
                refine lv_lload_n hx hb dX7_target_66 rfl (lv_at hl 2 rfl) ?_
                refine lv_iload hx hb dX7_target_67 (lv_at hl 5 rfl) ?_
                refine pu_go (va_runV (As := [.long (lN x), .int (nI q9)]) (rest := [.int (nI (mlo x j t))]) ⟨hx, hb, hml, hown, hts⟩ (c_X7_leastOf l dC dI ws tys h0 fs hw0 t hf2 ht0 x q9 (by first | omega | assumption) (by first | omega | assumption)) (cwV 2 hts gX7_target_X7_leastOf rfl rfl rfl (by decide +kernel) ⟨Nat.le_of_ble_eq_true rfl, Nat.le_of_ble_eq_true rfl⟩) ⟨fun a U g mk q => ⟨q.1, q.2.1, va_K.moved (u := U) (U := U.calling g mk a) (Vm.Alike.refl U.vm) q.2.2⟩, va_recv hK hP (ci := 6) (q0 := 0) rfl hw0, fun U hU hW => ⟨rfl, by rw [hU]; exact hP, va_K.moved hW.alike hK⟩⟩ rfl rfl hl.1 rfl (lv_room (Nat.le_of_ble_eq_true rfl)) dX7_target_69 ⟨Nat.le_refl _, Nat.le_refl _⟩) ?_
                refine wk_icmp_gt (tgt := 79) hx hb (by omega) (by omega) dX7_target_72 (by decide) (fun c_72 => ?_) (fun c_72 => ?_)
                · exact cut_79 _ _ _ _ _ _ _ ls (rfl) (rfl) (rfl) (by unfold mfit; rw [h9, if_neg (fun q => by have : mlo x j t ≤ mlo x q9 t := q.2; omega)]; rfl) (rfl) (rfl) (rfl) (lv_sub hl [1, 2, 3, 4, 5, 6, 7, 0] rfl)
                · refine lv_iload hx hb dX7_target_75 (lv_at hl 7 rfl) ?_
                  refine lv_istore (lv' := [(5, .int (nI j)), (8, .int (nI (mlo x j t))), (0, .ref h0), (1, .long (lN x)), (3, .int (nI fr)), (4, .int (nI b)), (6, .int (oN ((mtg x fr b n t i).2))), (7, .int (nI j))]) hx hb dX7_target_77 hl (by decide) rfl (fun ls hl => ?_)
                  exact cut_79 _ _ _ _ _ _ _ ls (rfl) (rfl) (rfl) (by unfold mfit; first | (rw [hq5, if_pos ⟨by omega, by show mlo x j t ≤ 100; omega⟩]; done) | (rw [hq5, if_pos ⟨by omega, by show mlo x j t ≤ 100; omega⟩]; rfl) | (rw [h9, if_pos ⟨by omega, by show mlo x j t ≤ mlo x q9 t; omega⟩]; done) | (rw [h9, if_pos ⟨by omega, by show mlo x j t ≤ mlo x q9 t; omega⟩]; rfl)) (rfl) (rfl) (rfl) (lv_sub hl [2, 3, 4, 5, 0, 6, 7, 1] rfl)
          · refine lv_goto (tgt := 100) hx hb dX7_target_39 (by decide) ?_
            exact cut_100 _ _ _ _ _ _ ls (rfl) (rfl) (rfl) (by rw [mtg_s, hji, if_pos (Or.inr c_36)]) (by rw [mtg_s, hji, if_pos (Or.inr c_36)]) (rfl) (lv_sub hl [0, 1, 2, 3, 4, 5, 6] rfl)
  exact cut_14 (n + 1) 0 n _ _ _ _ _ _ ls (by omega) (by omega) (rfl) (rfl) (rfl) (rfl) (rfl) ((pk_sub (by omega)).symm) (lv_sub hl [3, 4, 5, 6, 2, 1, 0] rfl)
set_option maxHeartbeats 4000000 in
set_option maxRecDepth 100000 in
theorem c_X7_placeOf (l : Launch) (dC : Nat → ClassId) (dI : Nat → Nat → Nat) (ws : va_W) (tys : List (ClassId × FieldType)) (h0 : Nat) (fs : List Value) (hw0 : ws[0]? = some (h0, .inr (6, fs))) (a13 a14 : Nat) (cJ cB : ClassId) (Y V : Nat → Nat) (hf13 : fs[13]? = some (.ref a13)) (hf14 : fs[14]? = some (.ref a14)) (hw7 : ws[7]? = some (a13, .inl (cJ, 131072, .inr (.inl (fun j => lN (Y j)))))) (hw8 : ws[8]? = some (a14, .inl (cB, 131072, .inl (fun j => nI (V j))))) (ht7 : tys[1]? = some (cJ, .long)) (ht8 : tys[2]? = some (cB, .byte)) (x i0 : Nat) (hx0 : x < 2 ^ 48) (hV : ∀ j, V j < 128) (hY : ∀ j, Y j < 2 ^ 63) (hgo : ∀ j, j < i0 → 0 < V ((mhash x + j) % 131072) ∧ Y ((mhash x + j) % 131072) ≠ x) (hstop : V ((mhash x + i0) % 131072) = 0 ∨ Y ((mhash x + i0) % 131072) = x) : Met l yX7_placeOf wsX7_placeOf ({ frames := 0, cells := 0, slots := 0, locals := 0 }) (va_Pc [.ref h0, .long (lN x)] (fun U => va_P (dC, dI) vwCl ws U.heap ∧ va_K (dC, dI) vwCl tys U)) (pu_Q (.int (nI ((mhash x + i0) % 131072)))) 0 0 (fun _ => False) := by
  refine Met.ofW (cc := cX7_placeOf) (maxL := 4) (ret := (some .int)) (by decide) rfl ?_
  intro p e s m args below meth c s₁ B hml hv
  obtain ⟨rfl, hP, hK⟩ := hv
  have hx := B.exec
  have hb := B.bytes
  have hr := B.returns
  have hts := atoms_spec (ws := wsX7_placeOf) B.pre
  have hown : s.vm.findClass RX7 = some m.cls := findClass_of_methodNamed B.named
  have hlocks := B.notSynchronized
  have hinX7 : ∀ w ∈ u_ws RX7 TX7 17, w ∈ wsX7_placeOf := by decide +kernel
  have hl := lv_entry ([.ref h0, .long (lN x)]) (n := 4) (Nat.le_of_ble_eq_true rfl)
  rw [lg_entry_eq]
  generalize (lg_sl ([.ref h0, .long (lN x)]) ++ List.replicate (4 - (lg_sl ([.ref h0, .long (lN x)])).length) Slot.unset).toArray = ls at hl ⊢
  have hl : lv_has ls 4 [(0, .ref h0), (1, .long (lN x))] := hl
  have hq0 := mhash_lt x
  refine lv_lload_n hx hb dX7_placeOf_0 rfl (lv_at hl 1 rfl) ?_
  refine lv_ldc2 (v := (-7046029254386353131)) hx hb hown (hts (.constantLong RX7 102 (-7046029254386353131)) (by decide +kernel)) dX7_placeOf_1 ?_
  refine wk_tl (v' := lN 11400714819323198485) (by decide +kernel) ?_
  refine lv_lmul hx hb dX7_placeOf_4 ?_
  refine wk_tl (v' := lN (x * 11400714819323198485 % 18446744073709551616)) (by rw [lN_mul, wb_mod]) ?_
  refine lv_bipush (v := nI 47) hx hb dX7_placeOf_5 (by decide +kernel) ?_
  refine wk_lushr hx hb (by omega) (by omega) dX7_placeOf_7 ?_
  refine wk_l2i hx hb dX7_placeOf_8 ?_
  refine lv_istore_n (lv' := [(3, .int (nI ((x * 11400714819323198485 % 18446744073709551616) / 2 ^ 47))), (0, .ref h0), (1, .long (lN x))]) hx hb dX7_placeOf_9 rfl hl (by decide) rfl (fun ls hl => ?_)
  have cut_10 : ∀ (n_10 : Nat) (i : Nat) (v10_1 : Int64) (v10_3 : Int32) (ls : Array Slot) (hi : i ≤ i0) (hn_10 : i0 - i < n_10) (_ : v10_1 = lN x) (_ : v10_3 = nI ((mhash x + i) % 131072)) (_ : lv_has ls 4 [(0, .ref h0), (1, .long v10_1), (3, .int v10_3)]), W p l e (headSpec wsX7_placeOf ({ frames := 0, cells := 0, slots := 0, locals := 0 })).room s m ([.ref h0, .long (lN x)] : List Value).toArray below meth c s.heap [] 0 0 (MQ below (pu_Q (.int (nI ((mhash x + i0) % 131072)))) ([.ref h0, .long (lN x)] : List Value).toArray s 0 0 (fun _ => False)) (F0 m 10 ls []) := by
    intro n_10
    induction n_10 with
    | zero => intros; omega
    | succ n_10 ih_10 =>
      rintro i v10_1 v10_3 ls hi hn_10 rfl rfl hl
      have hq1 := hV ((mhash x + i) % 131072)
      have hq2 := hY ((mhash x + i) % 131072)
      refine lv_aload_n hx hb dX7_placeOf_10 rfl (lv_at hl 0 rfl) ?_
      refine va_get (D := (dC, dI)) (ci := 6) (v := .ref a14) (C := RX7) (T := TX7) (N := 17) hx hb hts hinX7 hown hK hP 0 hw0 rfl 14 (by decide) (hts (.fieldLink RX7 33 "ReshuffleSearchModel" "vain" "[B") (by decide +kernel)) (fun _ h9 => h9) hf14 dX7_placeOf_11 ?_
      refine lv_iload_n hx hb dX7_placeOf_14 rfl (lv_at hl 2 rfl) ?_
      refine wk_bald hx hb hK hP 8 2 hw8 ht8 (by omega) dX7_placeOf_15 ?_
      refine wk_if_le (tgt := 40) hx hb (by omega) dX7_placeOf_16 (by decide) (fun c_16 => ?_) (fun c_16 => ?_)
      · refine lv_iload_n hx hb dX7_placeOf_40 rfl (lv_at hl 2 rfl) ?_
        refine wk_ti (v' := nI ((mhash x + i0) % 131072)) (by rw [show i = i0 from Nat.le_antisymm hi (Nat.le_of_not_lt (fun q => by have := hgo i q; first | omega | exact this.2 c_27))]) ?_
        exact W.iret hx hb hr (fun t9 ht _ => ⟨rfl, ht⟩) (fun _ h => nomatch h) dX7_placeOf_41
      · refine lv_aload_n hx hb dX7_placeOf_19 rfl (lv_at hl 0 rfl) ?_
        refine va_get (D := (dC, dI)) (ci := 6) (v := .ref a13) (C := RX7) (T := TX7) (N := 17) hx hb hts hinX7 hown hK hP 0 hw0 rfl 13 (by decide) (hts (.fieldLink RX7 29 "ReshuffleSearchModel" "yard" "[J") (by decide +kernel)) (fun _ h9 => h9) hf13 dX7_placeOf_20 ?_
        refine lv_iload_n hx hb dX7_placeOf_23 rfl (lv_at hl 2 rfl) ?_
        refine wk_lald hx hb hK hP 7 1 hw7 ht7 (by omega) dX7_placeOf_24 ?_
        refine lv_lload_n hx hb dX7_placeOf_25 rfl (lv_at hl 1 rfl) ?_
        refine wk_lcmp_eq (tgt := 40) hx hb (by omega) (by omega) dX7_placeOf_26 dX7_placeOf_27 (by decide) (fun c_27 => ?_) (fun c_27 => ?_)
        · refine lv_iload_n hx hb dX7_placeOf_40 rfl (lv_at hl 2 rfl) ?_
          refine wk_ti (v' := nI ((mhash x + i0) % 131072)) (by rw [show i = i0 from Nat.le_antisymm hi (Nat.le_of_not_lt (fun q => by have := hgo i q; first | omega | exact this.2 c_27))]) ?_
          exact W.iret hx hb hr (fun t9 ht _ => ⟨rfl, ht⟩) (fun _ h => nomatch h) dX7_placeOf_41
        · have hlt : i < i0 := by
            have : i ≠ i0 := fun q => (by subst q; exact hstop.elim (fun z => by omega) c_27)
            omega
          refine lv_iload_n hx hb dX7_placeOf_30 rfl (lv_at hl 2 rfl) ?_
          refine lv_iconst (v := nI 1) hx hb dX7_placeOf_31 (by decide +kernel) ?_
          refine wk_iadd hx hb dX7_placeOf_32 ?_
          refine lv_ldc (v := 131072) hx hb hown (hts (.constant RX7 28 (131072)) (by decide +kernel)) dX7_placeOf_33 ?_
          refine wk_ti (v' := nI 131072) (by decide +kernel) ?_
          refine wk_irem hx hb (by omega) (by decide) (by decide) dX7_placeOf_35 ?_
          refine lv_istore_n (lv' := [(3, .int (nI ((((mhash x + i) % 131072) + 1) % 131072))), (0, .ref h0), (1, .long (lN x))]) hx hb dX7_placeOf_36 rfl hl (by decide) rfl (fun ls hl => ?_)
          refine lv_goto (tgt := 10) hx hb dX7_placeOf_37 (by decide) ?_
          exact ih_10 (i + 1) _ _ ls (by omega) (by omega) (rfl) (by congr 1; omega) (lv_sub hl [1, 2, 0] rfl)
  exact cut_10 (i0 + 1) 0 _ _ ls (by omega) (by omega) (rfl) (by congr 1; show mhash x = _; omega) (lv_sub hl [1, 2, 0] rfl)
set_option maxHeartbeats 4000000 in
set_option maxRecDepth 100000 in
theorem c_X7_rankOf (l : Launch) (dC : Nat → ClassId) (dI : Nat → Nat → Nat) (ws : va_W) (tys : List (ClassId × FieldType)) (h0 : Nat) (fs : List Value) (hw0 : ws[0]? = some (h0, .inr (6, fs))) (a12 : Nat) (cI : ClassId) (GO : Nat → Nat) (r : Nat) (hf11 : fs[11]? = some (.int (nI r))) (hf12 : fs[12]? = some (.ref a12)) (hw6 : ws[6]? = some (a12, .inl (cI, 8, .inl (fun j => nI (GO j))))) (ht1 : tys[0]? = some (cI, .int)) (g : Nat) (hg0 : g < 2147483648) (hr0 : r < 8) (hGO : ∀ j, GO j < 2147483648) : Met l yX7_rankOf wsX7_rankOf ({ frames := 0, cells := 0, slots := 0, locals := 0 }) (va_Pc [.ref h0, .int (nI g)] (fun U => va_P (dC, dI) vwCl ws U.heap ∧ va_K (dC, dI) vwCl tys U)) (pu_Q (.int (nI (rkf GO g r)))) 0 0 (fun _ => False) := by
  refine Met.ofW (cc := cX7_rankOf) (maxL := 4) (ret := (some .int)) (by decide) rfl ?_
  intro p e s m args below meth c s₁ B hml hv
  obtain ⟨rfl, hP, hK⟩ := hv
  have hx := B.exec
  have hb := B.bytes
  have hr := B.returns
  have hts := atoms_spec (ws := wsX7_rankOf) B.pre
  have hown : s.vm.findClass RX7 = some m.cls := findClass_of_methodNamed B.named
  have hlocks := B.notSynchronized
  have hinX7 : ∀ w ∈ u_ws RX7 TX7 17, w ∈ wsX7_rankOf := by decide +kernel
  have hl := lv_entry ([.ref h0, .int (nI g)]) (n := 4) (Nat.le_of_ble_eq_true rfl)
  rw [lg_entry_eq]
  generalize (lg_sl ([.ref h0, .int (nI g)]) ++ List.replicate (4 - (lg_sl ([.ref h0, .int (nI g)])).length) Slot.unset).toArray = ls at hl ⊢
  have hl : lv_has ls 4 [(0, .ref h0), (1, .int (nI g))] := hl
  refine lv_iconst (v := nI 1) hx hb dX7_rankOf_0 (by decide +kernel) ?_
  refine lv_istore_n (lv' := [(2, .int (nI 1)), (0, .ref h0), (1, .int (nI g))]) hx hb dX7_rankOf_1 rfl hl (by decide) rfl (fun ls hl => ?_)
  refine lv_iconst (v := nI 1) hx hb dX7_rankOf_2 (by decide +kernel) ?_
  refine lv_istore_n (lv' := [(3, .int (nI 1)), (2, .int (nI 1)), (0, .ref h0), (1, .int (nI g))]) hx hb dX7_rankOf_3 rfl hl (by decide) rfl (fun ls hl => ?_)
  have cut_4 : ∀ (n_4 : Nat) (k : Nat) (v4_1 : Int32) (v4_2 : Int32) (v4_3 : Int32) (ls : Array Slot) (hk : k ≤ r) (hn_4 : r - k < n_4) (_ : v4_1 = nI g) (_ : v4_2 = nI (rkf GO g k)) (_ : v4_3 = nI (k + 1)) (_ : lv_has ls 4 [(0, .ref h0), (1, .int v4_1), (2, .int v4_2), (3, .int v4_3)]), W p l e (headSpec wsX7_rankOf ({ frames := 0, cells := 0, slots := 0, locals := 0 })).room s m ([.ref h0, .int (nI g)] : List Value).toArray below meth c s.heap [] 0 0 (MQ below (pu_Q (.int (nI (rkf GO g r)))) ([.ref h0, .int (nI g)] : List Value).toArray s 0 0 (fun _ => False)) (F0 m 4 ls []) := by
    intro n_4
    induction n_4 with
    | zero => intros; omega
    | succ n_4 ih_4 =>
      rintro k v4_1 v4_2 v4_3 ls hk hn_4 rfl rfl rfl hl
      refine lv_iload_n hx hb dX7_rankOf_4 rfl (lv_at hl 3 rfl) ?_
      refine lv_aload_n hx hb dX7_rankOf_5 rfl (lv_at hl 0 rfl) ?_
      refine va_get (D := (dC, dI)) (ci := 6) (v := .int (nI r)) (C := RX7) (T := TX7) (N := 17) hx hb hts hinX7 hown hK hP 0 hw0 rfl 11 (by decide) (hts (.fieldLink RX7 85 "ReshuffleSearchModel" "ranks" "I") (by decide +kernel)) (fun _ h9 => h9) hf11 dX7_rankOf_6 ?_
      refine wk_icmp_gt (tgt := 36) hx hb (by omega) (by omega) dX7_rankOf_9 (by decide) (fun c_9 => ?_) (fun c_9 => ?_)
      · refine lv_iload_n hx hb dX7_rankOf_36 rfl (lv_at hl 2 rfl) ?_
        refine wk_ti (v' := nI (rkf GO g r)) (by rw [show k = r by omega]) ?_
        exact W.iret hx hb hr (fun t9 ht _ => ⟨rfl, ht⟩) (fun _ h => nomatch h) dX7_rankOf_37
      · have cut_28 : ∀ (v28_1 : Int32) (v28_3 : Int32) (u28_0 : Int32) (u28_1 : Int32) (ls : Array Slot) (_ : v28_1 = nI g) (_ : v28_3 = nI (k + 1)) (_ : u28_0 = nI (bn (GO (k + 1) < g))) (_ : u28_1 = nI (rkf GO g k)) (_ : lv_has ls 4 [(0, .ref h0), (1, .int v28_1), (3, .int v28_3)]), W p l e (headSpec wsX7_rankOf ({ frames := 0, cells := 0, slots := 0, locals := 0 })).room s m ([.ref h0, .int (nI g)] : List Value).toArray below meth c s.heap [] 0 0 (MQ below (pu_Q (.int (nI (rkf GO g r)))) ([.ref h0, .int (nI g)] : List Value).toArray s 0 0 (fun _ => False)) (F0 m 28 ls [.int u28_0, .int u28_1]) := by
          rintro v28_1 v28_3 u28_0 u28_1 ls rfl rfl rfl rfl hl
          refine wk_iadd hx hb dX7_rankOf_28 ?_
          refine lv_istore_n (lv' := [(2, .int (nI ((rkf GO g k) + (bn (GO (k + 1) < g))))), (0, .ref h0), (1, .int (nI g)), (3, .int (nI (k + 1)))]) hx hb dX7_rankOf_29 rfl hl (by decide) rfl (fun ls hl => ?_)
          refine lv_iinc (v := nI ((k + 1) + 1)) (lv' := [(3, .int (nI ((k + 1) + 1))), (2, .int (nI ((rkf GO g k) + (bn (GO (k + 1) < g))))), (0, .ref h0), (1, .int (nI g))]) hx hb dX7_rankOf_30 hl (k := 3) rfl (wk_inc _ 1 rfl) (by decide) rfl (fun ls hl => ?_)
          refine lv_goto (tgt := 4) hx hb dX7_rankOf_33 (by decide) ?_
          exact ih_4 (k + 1) _ _ _ ls (by omega) (by omega) (rfl) (rfl) (rfl) (lv_sub hl [2, 3, 1, 0] rfl)
        refine lv_iload_n hx hb dX7_rankOf_12 rfl (lv_at hl 2 rfl) ?_
        refine lv_aload_n hx hb dX7_rankOf_13 rfl (lv_at hl 0 rfl) ?_
        refine va_get (D := (dC, dI)) (ci := 6) (v := .ref a12) (C := RX7) (T := TX7) (N := 17) hx hb hts hinX7 hown hK hP 0 hw0 rfl 12 (by decide) (hts (.fieldLink RX7 25 "ReshuffleSearchModel" "groupOf" "[I") (by decide +kernel)) (fun _ h9 => h9) hf12 dX7_rankOf_14 ?_
        refine lv_iload_n hx hb dX7_rankOf_17 rfl (lv_at hl 3 rfl) ?_
        refine wk_iald hx hb hK hP 6 0 hw6 ht1 (by omega) dX7_rankOf_18 ?_
        refine lv_iload_n hx hb dX7_rankOf_19 rfl (lv_at hl 1 rfl) ?_
        refine wk_icmp_ge (tgt := 27) hx hb (hGO _) (hg0) dX7_rankOf_20 (by decide) (fun c_20 => ?_) (fun c_20 => ?_)
        · refine lv_iconst (v := nI 0) hx hb dX7_rankOf_27 (by decide +kernel) ?_
          exact cut_28 _ _ _ _ ls (rfl) (rfl) (by rw [bn_f (by omega)]) (rfl) (lv_sub hl [0, 1, 3] rfl)
        · refine lv_iconst (v := nI 1) hx hb dX7_rankOf_23 (by decide +kernel) ?_
          refine lv_goto (tgt := 28) hx hb dX7_rankOf_24 (by decide) ?_
          exact cut_28 _ _ _ _ ls (rfl) (rfl) (by rw [bn_t (by omega)]) (rfl) (lv_sub hl [0, 1, 3] rfl)
  exact cut_4 (r + 1) 0 _ _ _ ls (by omega) (by omega) (rfl) (rfl) (rfl) (lv_sub hl [2, 3, 1, 0] rfl)
