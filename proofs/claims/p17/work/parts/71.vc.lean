theorem i_vc (xs : Nat → Int32) (L : Nat) (hL : L ≤ 260) : wpL_law (fun r => r = 1) L xs := by
  unfold wpL_law
  refine lw_cell (k := 0) rfl (by omega) (by omega) (fun k0 => ⟨by decide, fun x1 _ => lw_cell (k := 1) rfl (by omega) (by omega) (fun k1 => ⟨by decide, fun x2 _ => ?_⟩)⟩)
  obtain ⟨w0, ew, a1, a2⟩ := la_clN x1 (a := 8) (b := 24) (by omega) (by omega)
  obtain ⟨h0, eh, b1, b2⟩ := la_clN x2 (a := 4) (b := 12) (by omega) (by omega)
  refine ⟨24, 2572, by omega, by omega, xi_init ew eh b1 (fun lw lh rx ry rw rh ord L1 E1 => ⟨by omega, by omega, 24, 2572, by omega, by omega, xi_init ew eh b1 (fun lw' lh' rx' ry' rw' rh' ord' L2 E2 => ?_)⟩)⟩
  have R := pi_R (ord := ord) (ord' := ord') a1 a2 b1 b2 L1 E1 L2 E2
  exact lw_go (post := fun r => r = 1) hL rfl R
