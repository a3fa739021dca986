theorem pi_G {w0 h0 : Nat} {lw lh rx ry rw rh : Nat → Int32} (x1 : 8 ≤ w0) (x2 : w0 ≤ 24) (y1 : 4 ≤ h0) (y2 : h0 ≤ 12) : la_L 1 (fun _ => 0) (fun _ => 0) (fun _ => 1) lw lh → la_E 1 (fun _ => 0) (fun _ => 0) (fun _ => 0) (fun _ => 1) lw lh rx ry rw rh (nI w0) (nI h0) → rl_G 1 (fun _ => 0) (fun _ => 1) (fun _ => 0) w0 h0 0 (upd (fun _ => 0) 0 (-1)) (fun _ => 0) (fun _ => 0) (fun _ => 0) (fun _ => 0) lw lh rx ry rw rh (fun _ => 0) (fun _ => 0) (upd (fun _ => 0) 0 1) := by
  intro L E
  have l0 := (L 0 (by omega)).1 rfl
  try dsimp only at l0
  exact ⟨in_T, L, E, x1, x2, y1, y2, rl_ex ⟨1, l0.1, by omega⟩ x2, rl_ex ⟨1, l0.2, by omega⟩ (by omega), in_V⟩
theorem xi_init {post : St2 → Prop} {k0 k1 : Int32} {w0 h0 : Nat} (ew : la_cl k0 8 24 = nI w0) (eh : la_cl k1 4 12 = nI h0) (y1 : 4 ≤ h0) (K : ∀ lw lh rx ry rw rh ord : Nat → Int32, la_L 1 (fun _ => 0) (fun _ => 0) (fun _ => 1) lw lh → la_E 1 (fun _ => 0) (fun _ => 0) (fun _ => 0) (fun _ => 1) lw lh rx ry rw rh (nI w0) (nI h0) → post (nI w0, nI h0, 0, 0, 0 + 1, upd (fun _ => 0) 0 (-1), (fun _ => 0), (fun _ => 0), (fun _ => 0), (fun _ => 0), lw, lh, rx, ry, rw, rh, ord, upd (fun _ => 0) 0 1, upd (fun _ => 0) 0 (nI w0), upd (fun _ => 0) 0 (nI h0), upd (fun _ => 0) 0 0, upd (fun _ => 0) 0 0, upd (fun _ => 0) 0 0, upd (fun _ => 0) 0 (nI (h0 - 1)), upd (fun _ => 0) 0 0, upd (fun _ => 0) 0 0, upd (fun _ => 0) 0 0, upd (fun _ => 0) 0 0, ce_w (ce_q (0 * 288) 0 0 12 24) (fun _ => 0))) : wpX_init post 24 2572 (0, 0, 0, 0, 0) k0 k1 := by
  unfold wpX_init
  refine ⟨by omega, by omega, by omega, by omega, by omega, by omega, by omega, by omega, by omega, by omega, by omega, by omega, by omega, by omega, by omega, by omega, by omega, by omega, by omega, by omega, by omega, by omega, by omega, by omega, by omega, by omega, by omega, by omega, by omega, by omega, by omega, by omega, by omega, by omega, by omega, by omega, by omega, by omega, by omega, by omega, by omega, by omega, by omega, by omega, by omega, by omega, by omega, by omega, ?_⟩
  refine xw_clamp ?_
  rw [ew]
  refine xw_clamp ?_
  rw [eh]
  refine nm_e (xw_layOut in_T (fun lw lh rx ry rw rh ord L E => xw_start (g := 0) (by omega) ?_))
  obtain ⟨E1, E2, E3, E4, E5⟩ := id E
  try dsimp only at E1 E2 E3 E4
  rw [E3, E4, la_sub1 (by omega)]
  exact K lw lh rx ry rw rh ord L E
theorem pi_R {w0 h0 : Nat} {lw lh rx ry rw rh ord lw' lh' rx' ry' rw' rh' ord' : Nat → Int32} (x1 : 8 ≤ w0) (x2 : w0 ≤ 24) (y1 : 4 ≤ h0) (y2 : h0 ≤ 12) : la_L 1 (fun _ => 0) (fun _ => 0) (fun _ => 1) lw lh → la_E 1 (fun _ => 0) (fun _ => 0) (fun _ => 0) (fun _ => 1) lw lh rx ry rw rh (nI w0) (nI h0) → la_L 1 (fun _ => 0) (fun _ => 0) (fun _ => 1) lw' lh' → la_E 1 (fun _ => 0) (fun _ => 0) (fun _ => 0) (fun _ => 1) lw' lh' rx' ry' rw' rh' (nI w0) (nI h0) → pr_R (nI w0, nI h0, 0, 0, 0 + 1, upd (fun _ => 0) 0 (-1), (fun _ => 0), (fun _ => 0), (fun _ => 0), (fun _ => 0), lw, lh, rx, ry, rw, rh, ord, upd (fun _ => 0) 0 1, upd (fun _ => 0) 0 (nI w0), upd (fun _ => 0) 0 (nI h0), upd (fun _ => 0) 0 0, upd (fun _ => 0) 0 0, upd (fun _ => 0) 0 0, upd (fun _ => 0) 0 (nI (h0 - 1)), upd (fun _ => 0) 0 0, upd (fun _ => 0) 0 0, upd (fun _ => 0) 0 0, upd (fun _ => 0) 0 0, ce_w (ce_q (0 * 288) 0 0 12 24) (fun _ => 0)) (nI w0, nI h0, 0, 0, 0 + 1, upd (fun _ => 0) 0 (-1), (fun _ => 0), (fun _ => 0), (fun _ => 0), (fun _ => 0), lw', lh', rx', ry', rw', rh', ord', upd (fun _ => 0) 0 1, upd (fun _ => 0) 0 (nI w0), upd (fun _ => 0) 0 (nI h0), upd (fun _ => 0) 0 0, upd (fun _ => 0) 0 0, upd (fun _ => 0) 0 0, upd (fun _ => 0) 0 (nI (h0 - 1)), upd (fun _ => 0) 0 0, upd (fun _ => 0) 0 0, upd (fun _ => 0) 0 0, upd (fun _ => 0) 0 0, ce_w (ce_q (0 * 288) 0 0 12 24) (fun _ => 0)) := by
  intro L E L' E'
  obtain ⟨E1, E2, E3, E4, E5⟩ := id E
  obtain ⟨F1, F2, F3, F4, F5⟩ := id E'
  try dsimp only at E1 E2 E3 E4
  try dsimp only at F1 F2 F3 F4
  have cnt : cc_n (fun g => upd (fun _ => (0 : Int32)) 0 1 g ≠ 0) 8 = 1 := by
    have := lv_c in_T in_V
    omega
  have g0 : ∀ g : Nat, upd (fun _ => (0 : Int32)) 0 1 g ≠ 0 → g = 0 := by
    intro g hl
    by_cases z : g = 0
    · exact z
    · rw [pk_un z] at hl
      exact absurd rfl hl
  refine ⟨1, (fun _ => 0), (fun _ => 0), (fun _ => 0), (fun _ => 0), (fun _ => 1), (fun _ => 0), (fun _ => 0), w0, h0, 0, rfl, rfl, rfl, rfl, by omega, rfl, rfl, by rw [pk_us]; decide, by rw [cnt]; rfl, rfl, rfl, rfl, rfl, rfl, rfl, rfl, rfl, rfl, rfl, pi_G x1 x2 y1 y2 L E, pi_G x1 x2 y1 y2 L' E', ?_, ?_⟩
  · intro g hg hl
    have z := g0 g hl
    subst z
    exact ⟨F1.trans E1.symm, F2.trans E2.symm, F3.trans E3.symm, F4.trans E4.symm, pk_us.trans E3.symm, pk_us.trans E4.symm, w0, h0, E3, E4, by omega, x2, by omega, y2, ⟨0, 0, 0, h0 - 1, 0, 0, 0, 0, rfl, by omega, rfl, by omega, rfl, pk_us, by omega, by omega, rfl, by omega, rfl, by omega, rfl, by omega, rfl, by omega⟩, fi_new⟩
  · intro g hg hl
    have z := g0 g hl
    subst z
    exact ⟨rfl, rfl⟩
