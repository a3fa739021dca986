theorem in_P : ps_P 1 (fun _ => (0 : Int32)) (fun _ => 1) := by
  refine ⟨by omega, rfl, fun i hi => ⟨hi, Nat.le_refl _, fun _ => show 1 = i + 1 by omega, fun z => absurd rfl z⟩⟩
theorem in_T : tr_T 1 (fun _ => 0) (fun _ => 1) (fun _ => 0) 0 (upd (fun _ => 0) 0 (-1)) (fun _ => 0) (fun _ => 0) (fun _ => 0) (fun _ => 0) (fun _ => (0 : Int32)) (fun _ => 0) := by
  refine ⟨in_P, by omega, rfl, pk_us, fun i _ => Or.inl rfl, fun i hi => ?_, fun n _ _ => rfl⟩
  have e : i = 0 := by omega
  subst e
  exact ⟨show 0 < 15 by omega, rfl, rfl, fun _ => ⟨show 0 < 8 by omega, rfl⟩, fun z => absurd rfl z⟩
theorem in_V : lv_R 1 (fun _ => 0) (upd (fun _ => 0) 0 1) := by
  intro g hg
  by_cases z : g = 0
  · subst z
    rw [pk_us]
    exact ⟨Or.inr rfl, fun _ => ⟨0, by omega, rfl⟩, fun _ => by decide⟩
  · rw [pk_un z]
    exact ⟨Or.inl rfl, fun y => absurd rfl y, fun ⟨i, _, e⟩ => absurd e.symm z⟩
section IN
variable {f_count f_hostW f_hostH f_focus f_resW f_resH : Int32} {a_kind a_val a_tk a_tv a_live a_wasLive a_rx a_ry a_rw a_rh a_oldW a_oldH a_row a_col a_top a_bot a_mode a_p1 a_p2 a_k a_cells a_sx a_sy a_sw a_sh a_mw a_mh : Nat → Int32}
theorem yw_i248 {post : SY → Prop} (K : ∀ a : Nat → Int32, wpY_layout (fun r_76 u => wpY_fresh post u 0) (1, f_hostW, f_hostH, 0, f_resW, f_resH, upd a_kind 0 0, upd a_val 0 0, a_tk, a_tv, upd a_live 0 1, a_wasLive, a_rx, a_ry, a_rw, a_rh, a_oldW, a_oldH, a_row, a_col, a_top, a_bot, a_mode, a_p1, a_p2, a_k, a, a_sx, a_sy, a_sw, a_sh, a_mw, a_mh) (-1) (-1)) : ∃ n, wY_init_248 post f_count f_hostW f_hostH f_focus f_resW f_resH n 0 a_kind a_val a_tk a_tv a_live a_wasLive a_rx a_ry a_rw a_rh a_oldW a_oldH a_row a_col a_top a_bot a_mode a_p1 a_p2 a_k a_cells a_sx a_sy a_sw a_sh a_mw a_mh := by
  refine pk_loop (fun n i s => wY_init_248 post f_count f_hostW f_hostH f_focus f_resW f_resH n (nI i) a_kind a_val a_tk a_tv a_live a_wasLive a_rx a_ry a_rw a_rh a_oldW a_oldH a_row a_col a_top a_bot a_mode a_p1 a_p2 a_k s a_sx a_sy a_sw a_sh a_mw a_mh) (fun i s => True) 2304 0 _ (Nat.zero_le _) trivial ?_ ?_
  · intro n s _
    refine br_t (nI_le (a := 2304) (Nat.le_refl _) (by omega)) (nm_e (nm_e (nm_r (e' := upd a_live 0 1) (by rw [nr_b1]) ?_)))
    exact K s
  · intro n i s hi _ k
    exact br_f (nI_ge (b := 2304) hi (by omega)) ⟨vp_in_nI hi (by omega), nm_e (nm_r (nI_1 i) (k _ trivial))⟩
end IN
theorem i_vc0 (k0 : Int32) (k1 : Int32) : wpX_init (fun u => wpY_init (fun v => i_Rel 2 u v) k0 k1) k0 k1 := by
  obtain ⟨w0, ew, x1, x2⟩ := la_clN k0 (a := 8) (b := 24) (by omega) (by omega)
  obtain ⟨h0, eh, y1, y2⟩ := la_clN k1 (a := 4) (b := 12) (by omega) (by omega)
  have ew' : la_cl k0 8 24 = nI w0 := ew
  have eh' : la_cl k1 4 12 = nI h0 := eh
  unfold wpX_init
  refine xw_clamp ?_
  rw [ew']
  refine xw_clamp ?_
  rw [eh']
  refine nm_e (xw_layOut in_T (fun lw lh rx ry rw rh ord L E => xw_start (g := 0) (by omega) ?_))
  unfold wpY_init
  refine yw_clamp _ ?_
  rw [ew']
  refine yw_clamp _ ?_
  rw [eh']
  have u0 : upd (fun _ => (0 : Int32)) 0 0 = fun _ => 0 := pk_uu (f := fun _ => (0 : Int32)) (k := 0)
  refine yw_i248 (fun a => ?_)
  rw [u0]
  refine yw_layout (c := 1) (nd := fun _ => 0) (en := fun _ => 1) in_P (fun i _ => Or.inl rfl) (by omega) rfl (fun i _ _ => ⟨show 0 < 8 by omega, rfl⟩) (fun a b ha hb _ => by omega) L E (fun rW rH yrx yry yrw yrh sx sy sw sh mw mh RE => yw_fresh (g := 0) (by omega) ?_)
  have re := RE 0 (by omega) rfl
  try dsimp only at re
  obtain ⟨E1, E2, E3, E4, E5⟩ := id E
  try dsimp only at E1 E2 E3 E4
  have l0 := (L 0 (by omega)).1 rfl
  try dsimp only at l0
  have G : rl_G 1 (fun _ => 0) (fun _ => 1) (fun _ => 0) w0 h0 0 (upd (fun _ => 0) 0 (-1)) (fun _ => 0) (fun _ => 0) (fun _ => 0) (fun _ => 0) lw lh rx ry rw rh (fun _ => 0) (fun _ => 0) (upd (fun _ => 0) 0 1) :=
    ⟨in_T, L, E, x1, x2, y1, y2, rl_ex ⟨1, l0.1, by omega⟩ x2, rl_ex ⟨1, l0.2, by omega⟩ (by omega), in_V⟩
  have cnt : cc_n (fun g => upd (fun _ => (0 : Int32)) 0 1 g ≠ 0) 8 = 1 := by
    have := lv_c in_T in_V
    omega
  rw [re.2.2.2, u0]
  refine ⟨1, fun _ => 0, fun _ => 1, fun _ => 0, w0, h0, 0, rfl, rfl, rfl, rfl, rfl, by omega, rfl, rfl, by rw [pk_us]; decide, by rw [cnt]; rfl, rfl, rfl, rfl, rfl, rfl, rfl, rfl, rfl, rfl, G, ?_⟩
  intro g hg hl
  have g0 : g = 0 := by
    by_cases z : g = 0
    · exact z
    · rw [pk_un z] at hl
      exact absurd rfl hl
  subst g0
  refine ⟨re.1, re.2.1, re.2.2.1, re.2.2.2, pk_us, pk_us, w0, h0, E3, E4, by omega, x2, by omega, y2, ⟨0, 0, 0, h0 - 1, 0, 0, 0, 0, rfl, by omega, rfl, by omega, rfl, ?_, by omega, by omega, rfl, by omega, rfl, by omega, rfl, by omega, rfl, by omega⟩, fi_new⟩
  rw [pk_us, E4, la_sub1 (by omega)]
