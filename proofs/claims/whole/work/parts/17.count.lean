/-! how many yards a search can meet -/
def bxl (Y : Nat → List Nat) : List Nat := Y 0 ++ (Y 1 ++ (Y 2 ++ Y 3))
def fls (Y : Nat → List Nat) : List Nat := Y 0 ++ 0 :: (Y 1 ++ 0 :: (Y 2 ++ 0 :: Y 3))
def ins (b : Nat) : List Nat → List (List Nat)
  | [] => [[b]]
  | x :: m => (b :: x :: m) :: (ins b m).map (fun l => x :: l)
def arr : List Nat → List (List Nat)
  | [] => [[0, 0, 0]]
  | b :: l => (arr l).flatMap (fun m => ins b m)
theorem ins_len (b : Nat) : ∀ m, (ins b m).length = m.length + 1
  | [] => rfl
  | x :: m => by
    show ((ins b m).map _).length + 1 = _
    rw [List.length_map, ins_len b m]
    rfl
theorem ins_mem (b : Nat) : ∀ p q, p ++ b :: q ∈ ins b (p ++ q)
  | [], [] => List.mem_singleton.mpr rfl
  | [], x :: q => List.mem_cons_self
  | x :: p, q => List.mem_cons_of_mem _ (List.mem_map.mpr ⟨p ++ b :: q, ins_mem b p q, rfl⟩)
theorem ins_each (b : Nat) : ∀ m l, l ∈ ins b m → l.length = m.length + 1
  | [], l, h => by rw [List.mem_singleton.mp h]; rfl
  | x :: m, l, h => by
    rcases List.mem_cons.mp h with rfl | h
    · rfl
    · obtain ⟨k, hk, rfl⟩ := List.mem_map.mp h
      rw [List.length_cons, ins_each b m k hk]
      rfl
theorem arr_each : ∀ l m, m ∈ arr l → m.length = l.length + 3
  | [], m, h => by rw [List.mem_singleton.mp h]; rfl
  | b :: l, m, h => by
    obtain ⟨k, hk, h2⟩ := List.mem_flatMap.mp h
    rw [ins_each b k m h2, arr_each l k hk, List.length_cons]
theorem flat_len {α β : Type} (f : α → List β) (c : Nat) : ∀ l : List α, (∀ x ∈ l, (f x).length = c) → (l.flatMap f).length = l.length * c
  | [], _ => by simp
  | a :: l, h => by
    rw [List.flatMap_cons, List.length_append, flat_len f c l (fun x hx => h x (List.mem_cons_of_mem _ hx)), h a List.mem_cons_self, List.length_cons, Nat.succ_mul]
    omega
def nA : Nat → Nat
  | 0 => 1
  | k + 1 => nA k * (k + 4)
theorem arr_len : ∀ l, (arr l).length = nA l.length
  | [] => rfl
  | b :: l => by
    show ((arr l).flatMap _).length = nA l.length * (l.length + 4)
    rw [flat_len _ (l.length + 4) (arr l) (fun m hm => by rw [ins_len, arr_each l m hm]), arr_len l]
theorem arr_mem : ∀ (l L : List Nat), L.Perm (l ++ [0, 0, 0]) → L ∈ arr l
  | [], L, h => by
    have : L = List.replicate 3 0 := List.perm_replicate.mp h
    rw [this]
    exact List.mem_singleton.mpr rfl
  | b :: l, L, h => by
    have hb : b ∈ L := h.mem_iff.mpr List.mem_cons_self
    obtain ⟨p, q, rfl⟩ := List.append_of_mem hb
    have h2 : (p ++ q).Perm (l ++ [0, 0, 0]) := by
      have : (b :: (p ++ q)).Perm (b :: (l ++ [0, 0, 0])) := List.perm_middle.symm.trans h
      exact (List.perm_cons b).mp this
    exact List.mem_flatMap.mpr ⟨p ++ q, arr_mem l _ h2, ins_mem b p q⟩
theorem nodup_le {α : Type} [DecidableEq α] : ∀ (l m : List α), l.Nodup → (∀ x ∈ l, x ∈ m) → l.length ≤ m.length
  | [], m, _, _ => Nat.zero_le _
  | a :: l, m, h, hs => by
    have ha := hs a List.mem_cons_self
    have hn := List.nodup_cons.mp h
    have := nodup_le l (m.erase a) hn.2 (fun x hx => (List.mem_erase_of_ne (a := x) (b := a) (fun e => hn.1 (by rw [← e]; exact hx))).mpr (hs x (List.mem_cons_of_mem _ hx)))
    rw [List.length_erase_of_mem ha] at this
    have hp : 0 < m.length := List.length_pos_of_mem ha
    rw [List.length_cons]
    omega
theorem cut0 : ∀ (a a' b b' : List Nat), (∀ x ∈ a, x ≠ 0) → (∀ x ∈ a', x ≠ 0) → a ++ 0 :: b = a' ++ 0 :: b' → a = a' ∧ b = b'
  | [], [], b, b', _, _, h => ⟨rfl, (List.cons.inj h).2⟩
  | [], x :: a', b, b', _, h2, h => absurd (List.cons.inj h).1.symm (h2 x List.mem_cons_self)
  | x :: a, [], b, b', h1, _, h => absurd (List.cons.inj h).1 (h1 x List.mem_cons_self)
  | x :: a, y :: a', b, b', h1, h2, h => by
    obtain ⟨e1, e2⟩ := List.cons.inj h
    obtain ⟨e3, e4⟩ := cut0 a a' b b' (fun z hz => h1 z (List.mem_cons_of_mem _ hz)) (fun z hz => h2 z (List.mem_cons_of_mem _ hz)) e2
    exact ⟨by rw [e1, e3], e4⟩
theorem fls_inj {n t : Nat} {Y Z : Nat → List Nat} (hY : okY n t Y) (hZ : okY n t Z) (h : fls Y = fls Z) : mE Y = mE Z := by
  have p : ∀ {V : Nat → List Nat}, okY n t V → ∀ s, ∀ x ∈ V s, x ≠ 0 := fun hV s x hx => by have := (hV.1 s).2 x hx; omega
  obtain ⟨e0, h⟩ := cut0 _ _ _ _ (p hY 0) (p hZ 0) h
  obtain ⟨e1, h⟩ := cut0 _ _ _ _ (p hY 1) (p hZ 1) h
  obtain ⟨e2, e3⟩ := cut0 _ _ _ _ (p hY 2) (p hZ 2) h
  unfold mE cE rvY
  rw [e0, e1, e2, e3]
theorem fls_perm (Y : Nat → List Nat) : (fls Y).Perm (bxl Y ++ [0, 0, 0]) := by
  unfold fls bxl
  have m : ∀ (a b : List Nat) (x : Nat), (a ++ x :: b).Perm (x :: (a ++ b)) := fun a b x => List.perm_middle
  have s1 : (Y 0 ++ 0 :: (Y 1 ++ 0 :: (Y 2 ++ 0 :: Y 3))).Perm (0 :: (Y 0 ++ (Y 1 ++ 0 :: (Y 2 ++ 0 :: Y 3)))) := m _ _ _
  have s2 : (Y 1 ++ 0 :: (Y 2 ++ 0 :: Y 3)).Perm (0 :: (Y 1 ++ (Y 2 ++ 0 :: Y 3))) := m _ _ _
  have s3 : (Y 2 ++ 0 :: Y 3).Perm (0 :: (Y 2 ++ Y 3)) := m _ _ _
  have t2 : (Y 1 ++ 0 :: (Y 2 ++ 0 :: Y 3)).Perm (0 :: 0 :: (Y 1 ++ (Y 2 ++ Y 3))) := s2.trans (List.Perm.cons 0 ((List.Perm.append_left (Y 1) s3).trans (m _ _ _)))
  have t1 : (Y 0 ++ (Y 1 ++ 0 :: (Y 2 ++ 0 :: Y 3))).Perm (0 :: 0 :: (Y 0 ++ (Y 1 ++ (Y 2 ++ Y 3)))) := (List.Perm.append_left (Y 0) t2).trans ((m _ _ _).trans (List.Perm.cons 0 (m _ _ _)))
  refine (s1.trans (List.Perm.cons 0 t1)).trans ?_
  have : (0 :: 0 :: 0 :: (Y 0 ++ (Y 1 ++ (Y 2 ++ Y 3)))) = [0, 0, 0] ++ (Y 0 ++ (Y 1 ++ (Y 2 ++ Y 3))) := rfl
  rw [this]
  exact List.perm_append_comm
def cnd (bs : List Nat) : List (List Nat) := arr (bs.drop 0) ++ (arr (bs.drop 1) ++ (arr (bs.drop 2) ++ (arr (bs.drop 3) ++ (arr (bs.drop 4) ++ (arr (bs.drop 5) ++ arr (bs.drop 6))))))
theorem cnd_len {bs : List Nat} (h : bs.length ≤ 6) : (cnd bs).length < 131072 := by
  unfold cnd
  simp only [List.length_append, arr_len, List.length_drop]
  rcases (show bs.length = 0 ∨ bs.length = 1 ∨ bs.length = 2 ∨ bs.length = 3 ∨ bs.length = 4 ∨ bs.length = 5 ∨ bs.length = 6 by omega) with e | e | e | e | e | e | e <;> rw [e] <;> decide
theorem cnd_mem {bs : List Nat} {j : Nat} {L : List Nat} (hj : j ≤ 6) (h : L ∈ arr (bs.drop j)) : L ∈ cnd bs := by
  unfold cnd
  simp only [List.mem_append]
  rcases (show j = 0 ∨ j = 1 ∨ j = 2 ∨ j = 3 ∨ j = 4 ∨ j = 5 ∨ j = 6 by omega) with rfl | rfl | rfl | rfl | rfl | rfl | rfl
  · exact Or.inl h
  · exact Or.inr (Or.inl h)
  · exact Or.inr (Or.inr (Or.inl h))
  · exact Or.inr (Or.inr (Or.inr (Or.inl h)))
  · exact Or.inr (Or.inr (Or.inr (Or.inr (Or.inl h))))
  · exact Or.inr (Or.inr (Or.inr (Or.inr (Or.inr (Or.inl h)))))
  · exact Or.inr (Or.inr (Or.inr (Or.inr (Or.inr (Or.inr h)))))
theorem ex_sort : ∀ l : List Nat, ∃ m : List Nat, m.Perm l ∧ m.Pairwise (fun a b => a ≤ b)
  | [] => ⟨[], List.Perm.nil, List.Pairwise.nil⟩
  | a :: l => by
    obtain ⟨m, h1, h2⟩ := ex_sort l
    have key : ∀ m : List Nat, m.Pairwise (fun a b => a ≤ b) → ∃ k : List Nat, k.Perm (a :: m) ∧ k.Pairwise (fun a b => a ≤ b) := by
      intro m
      induction m with
      | nil => exact fun _ => ⟨[a], List.Perm.refl _, List.pairwise_singleton _ _⟩
      | cons x m ih =>
        intro hp
        obtain ⟨p1, p2⟩ := List.pairwise_cons.mp hp
        by_cases c : a ≤ x
        · exact ⟨a :: x :: m, List.Perm.refl _, List.pairwise_cons.mpr ⟨fun y hy => by
            rcases List.mem_cons.mp hy with rfl | hy
            · exact c
            · have := p1 y hy; omega, hp⟩⟩
        · obtain ⟨k, k1, k2⟩ := ih p2
          refine ⟨x :: k, (List.Perm.cons x k1).trans (List.Perm.swap a x m), List.pairwise_cons.mpr ⟨fun y hy => ?_, k2⟩⟩
          rcases List.mem_cons.mp (k1.mem_iff.mp hy) with rfl | hy
          · omega
          · exact p1 y hy
    obtain ⟨k, k1, k2⟩ := key m h2
    exact ⟨k, k1.trans (List.Perm.cons a h1), k2⟩
/-- the boxes that are left are the greatest ones -/
def cb (bs : List Nat) (Z : Nat → List Nat) : Prop := ∃ j, j ≤ 6 ∧ (bxl Z).Perm (bs.drop j)
theorem bxl_len (Y : Nat → List Nat) : (bxl Y).length = bxY Y := by
  unfold bxl bxY
  simp only [List.length_append]
  omega
theorem bxl_rm {Y : Nat → List Nat} {s a : Nat} {l : List Nat} (hs : s < 4) (h : Y s = a :: l) : (bxl Y).Perm (a :: bxl (rm Y s)) := by
  have e : rm Y s s = l := by rw [rm_s, h]; rfl
  unfold bxl
  rcases (show s = 0 ∨ s = 1 ∨ s = 2 ∨ s = 3 by omega) with rfl | rfl | rfl | rfl
  · rw [rm_n (show 1 ≠ 0 by decide), rm_n (show 2 ≠ 0 by decide), rm_n (show 3 ≠ 0 by decide), e, h]
    exact List.Perm.refl _
  · rw [rm_n (show 0 ≠ 1 by decide), rm_n (show 2 ≠ 1 by decide), rm_n (show 3 ≠ 1 by decide), e, h]
    exact List.perm_middle
  · rw [rm_n (show 0 ≠ 2 by decide), rm_n (show 1 ≠ 2 by decide), rm_n (show 3 ≠ 2 by decide), e, h]
    exact (List.Perm.append_left (Y 0) List.perm_middle).trans List.perm_middle
  · rw [rm_n (show 0 ≠ 3 by decide), rm_n (show 1 ≠ 3 by decide), rm_n (show 2 ≠ 3 by decide), e, h]
    exact (List.Perm.append_left (Y 0) ((List.Perm.append_left (Y 1) List.perm_middle).trans List.perm_middle)).trans List.perm_middle
theorem bxl_pu {Y : Nat → List Nat} {s : Nat} (r : Nat) (hs : s < 4) : (bxl (pu Y s r)).Perm (r :: bxl Y) := by
  have e : pu Y s r s = r :: Y s := pu_s Y s r
  have h := bxl_rm (Y := pu Y s r) hs e
  have e2 : rm (pu Y s r) s = Y := by
    funext q
    by_cases z : q = s
    · subst z; rw [rm_s, pu_s]; rfl
    · rw [rm_n z, pu_n z]
  rw [e2] at h
  exact h
theorem bxl_mv {Y : Nat → List Nat} {a b : Nat} (ha : a < 4) (hb : b < 4) (hne : Y a ≠ []) : (bxl (mv Y a b)).Perm (bxl Y) := by
  cases h : Y a with
  | nil => exact absurd h hne
  | cons r l =>
    have e : (Y a).headD 0 = r := by rw [h]; rfl
    unfold mv
    rw [e]
    exact (bxl_pu (Y := rm Y a) r hb).trans (bxl_rm ha h).symm
theorem cb_mv {bs : List Nat} {Y : Nat → List Nat} {a b : Nat} (ha : a < 4) (hb : b < 4) (hne : Y a ≠ []) (h : cb bs Y) : cb bs (mv Y a b) := by
  obtain ⟨j, hj, hp⟩ := h
  exact ⟨j, hj, (bxl_mv ha hb hne).trans hp⟩
theorem cb_tp {bs : List Nat} (hs : bs.Pairwise (fun a b => a ≤ b)) (hl : bs.length ≤ 6) {Y : Nat → List Nat} {s : Nat} (ht : tp Y s) (h : cb bs Y) : cb bs (rm Y s) := by
  obtain ⟨j, hj, hp⟩ := h
  obtain ⟨l, hY⟩ := tp_cons ht
  have h1 := bxl_rm ht.1 hY
  have h2 : (mn Y :: bxl (rm Y s)).Perm (bs.drop j) := h1.symm.trans hp
  cases hd : bs.drop j with
  | nil => rw [hd] at h2; exact absurd h2.eq_nil (List.cons_ne_nil _ _)
  | cons b0 m =>
    rw [hd] at h2
    have hm : bs.drop (j + 1) = m := by rw [← List.drop_drop, hd]; rfl
    have hpw : (b0 :: m).Pairwise (fun a b => a ≤ b) := by rw [← hd]; exact hs.drop
    have e1 : b0 ≤ mn Y := by
      rcases List.mem_cons.mp (h2.mem_iff.mp List.mem_cons_self) with q | q
      · omega
      · exact (List.pairwise_cons.mp hpw).1 _ q
    have e2 : mn Y ≤ b0 := by
      have : b0 ∈ bxl Y := h1.mem_iff.mpr (h2.mem_iff.mpr List.mem_cons_self)
      exact lmin_le _ _ this
    have e3 : b0 = mn Y := by omega
    rw [e3] at h2
    have hjl : j < bs.length := by
      rcases Nat.lt_or_ge j bs.length with q | q
      · exact q
      · rw [List.drop_eq_nil_of_le q] at hd; cases hd
    exact ⟨j + 1, by omega, by rw [hm]; exact (List.perm_cons _).mp h2⟩
theorem cb_rn {bs : List Nat} (hs : bs.Pairwise (fun a b => a ≤ b)) (hl : bs.length ≤ 6) : ∀ (l : List Nat) (Y Z : Nat → List Nat), rn l Y Z → cb bs Y → cb bs Z
  | [], Y, Z, h, q => by cases h; exact q
  | s :: l, Y, Z, h, q => cb_rn hs hl l _ Z h.2 (cb_tp hs hl h.1 q)
theorem cb_stl {bs : List Nat} (hs : bs.Pairwise (fun a b => a ≤ b)) (hl : bs.length ≤ 6) {man : Nat} {Y : Nat → List Nat} (h : cb bs Y) : cb bs (stl man Y) := by
  unfold stl
  split
  · exact h
  · obtain ⟨l, h1, -⟩ := lv_run Y
    exact cb_rn hs hl l Y _ h1 h
theorem cb_chd {bs : List Nat} (hs : bs.Pairwise (fun a b => a ≤ b)) (hl : bs.length ≤ 6) {man n t : Nat} (hn : n ≤ 4) {Y : Nat → List Nat} {m : Nat} (hm : mayb man n t Y (m / 4) (m % 4) = true) (h : cb bs Y) : cb bs (chd man n t Y m) := by
  obtain ⟨h1, h2, -, h4, -, -⟩ := mayb_iff.mp hm
  exact cb_stl hs hl (cb_mv (by omega) (by omega) h4 h)
/-- so many yards are there at most -/
theorem not_full {n t : Nat} {bs : List Nat} (hl : bs.length ≤ 6) {N : Nat} (hN : N = 131072) (Yd : Nat → Nat) (h : ∀ q, q < N → ∃ Z, okY n t Z ∧ cb bs Z ∧ Yd q = mE Z) (hd : ∀ p q, p < N → q < N → Yd p = Yd q → p = q) : False := by
  have ex : ∀ q, ∃ Z : Nat → List Nat, q < N → (okY n t Z ∧ cb bs Z ∧ Yd q = mE Z) := fun q => by
    by_cases c : q < N
    · obtain ⟨Z, hZ⟩ := h q c; exact ⟨Z, fun _ => hZ⟩
    · exact ⟨fun _ => [], fun z => absurd z c⟩
  let f : Nat → List Nat := fun q => fls (Classical.choose (ex q))
  have hf : ∀ q, q < N → okY n t (Classical.choose (ex q)) ∧ cb bs (Classical.choose (ex q)) ∧ Yd q = mE (Classical.choose (ex q)) := fun q hq => Classical.choose_spec (ex q) hq
  have hnd : ((List.range N).map f).Nodup := by
    refine List.pairwise_map.mpr ?_
    refine List.Pairwise.imp_of_mem ?_ (List.nodup_range (n := N))
    intro a b ha hb hne e
    rw [List.mem_range] at ha hb
    exact hne (hd a b ha hb (by rw [(hf a ha).2.2, (hf b hb).2.2]; exact fls_inj (hf a ha).1 (hf b hb).1 e))
  have hsub : ∀ x ∈ (List.range N).map f, x ∈ cnd bs := by
    intro x hx
    obtain ⟨q, hq, rfl⟩ := List.mem_map.mp hx
    rw [List.mem_range] at hq
    obtain ⟨j, hj, hp⟩ := (hf q hq).2.1
    exact cnd_mem hj (arr_mem _ _ ((fls_perm _).trans (List.Perm.append_right _ hp)))
  have := nodup_le _ _ hnd hsub
  rw [List.length_map, List.length_range] at this
  have := cnd_len hl
  omega
theorem mmay_iff (how x a b n t : Nat) : mmay how x a b n t = true ↔ a < n ∧ b < n ∧ a ≠ b ∧ mht x a t ≠ 0 ∧ mht x b t ≠ t ∧ (0 < how ∨ mhn x a (ylo x 16) t = true) := by
  unfold mmay
  simp only [Bool.and_eq_true, Bool.or_eq_true, decide_eq_true_eq]
