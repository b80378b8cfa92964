/-! new arrays -/
theorem vpz_i (cA : ClassId) (n : Nat) : vp_cell cA (n, .inl (fun j => nI (z0 j))) = arrV cA n (fun _ => defaultValue .int) := rfl
theorem vpz_l (cA : ClassId) (n : Nat) : vp_cell cA (n, .inr (.inl (fun j => lN (z0 j)))) = arrV cA n (fun _ => defaultValue .long) := rfl
theorem vpz_b (cA : ClassId) (n : Nat) : vp_cell cA (n, .inl (fun j => nI (z0 j))) = arrV cA n (fun _ => defaultValue .byte) := rfl
